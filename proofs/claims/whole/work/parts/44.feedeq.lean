/-! feed: both sides -/
def tpP (d1 d2 : DY) : Prop := ∀ i : Nat, i < 500 → gi d1 3 i = gi d2 511 i
theorem tpP_ap {d1 d2 : DY} (h : tpP d1 d2) (v s : Int32) (nb : Nat) : tpP (apC v s nb d1) (apM v s nb d2) := by
  intro i hi
  have e1 : gi (apC v s nb d1) 3 i = if i = nb then byt v s else gi d1 3 i := by
    unfold apC
    rw [gi_si_if, if_neg (fun q => absurd q.1 (by decide)), gi_si_if]
    simp
  have e2 : gi (apM v s nb d2) 511 i = if i = nb then byt v s else gi d2 511 i := by
    unfold apM
    rw [gi_si_if, if_neg (fun q => absurd q.1 (by decide)), gi_si_if]
    simp
  rw [e1, e2]
  by_cases e : i = nb
  · rw [if_pos e, if_pos e]
  · rw [if_neg e, if_neg e]
    exact h i hi
theorem tpP_4 {d1 d2 : DY} (h : tpP d1 d2) (v : Int32) (nb : Nat) : tpP (ap4C v nb d1) (ap4M v nb d2) := tpP_ap (tpP_ap (tpP_ap (tpP_ap h _ _ _) _ _ _) _ _ _) _ _ _
theorem apC_o (v s : Int32) (nb : Nat) (dy : DY) (a k : Nat) (h3 : a ≠ 3) (h2 : ¬ (a = 2 ∧ k = 1)) : gi (apC v s nb dy) a k = gi dy a k := by
  unfold apC
  rw [gi_si_if, gi_si_if, if_neg h2, if_neg (fun q => h3 q.1)]
theorem apM_o (v s : Int32) (nb : Nat) (dy : DY) (a k : Nat) (h3 : a ≠ 511) (h2 : ¬ (a = 512 ∧ k = 0)) : gi (apM v s nb dy) a k = gi dy a k := by
  unfold apM
  rw [gi_si_if, gi_si_if, if_neg h2, if_neg (fun q => h3 q.1)]
theorem ap4C_o (v : Int32) (nb : Nat) (dy : DY) (a k : Nat) (h3 : a ≠ 3) (h2 : ¬ (a = 2 ∧ k = 1)) : gi (ap4C v nb dy) a k = gi dy a k := by
  unfold ap4C
  rw [apC_o _ _ _ _ _ _ h3 h2, apC_o _ _ _ _ _ _ h3 h2, apC_o _ _ _ _ _ _ h3 h2, apC_o _ _ _ _ _ _ h3 h2]
theorem ap4M_o (v : Int32) (nb : Nat) (dy : DY) (a k : Nat) (h3 : a ≠ 511) (h2 : ¬ (a = 512 ∧ k = 0)) : gi (ap4M v nb dy) a k = gi dy a k := by
  unfold ap4M
  rw [apM_o _ _ _ _ _ _ h3 h2, apM_o _ _ _ _ _ _ h3 h2, apM_o _ _ _ _ _ _ h3 h2, apM_o _ _ _ _ _ _ h3 h2]
def fd5C (a b c d e : Int32) (nb : Nat) (dy : DY) : DY := ap4C e (nb + 16) (ap4C d (nb + 12) (ap4C c (nb + 8) (ap4C b (nb + 4) (ap4C a nb dy))))
def fd5M (a b c d e : Int32) (nb : Nat) (dy : DY) : DY := ap4M e (nb + 16) (ap4M d (nb + 12) (ap4M c (nb + 8) (ap4M b (nb + 4) (ap4M a nb dy))))
theorem c_feed (N : Nat) (hN : 5 ≤ N) (a b c d e : Int32) (dy : DY) (nb : Nat) (hb : gi dy 2 1 = iz nb) (hn : nb ≤ 500) : F_X9_feed Z0.1 N 1 a b c d e dy = some (if nb + 20 ≤ 500 then (iz (nb + 20), fd5C a b c d e nb dy) else (-1, dy)) := by
  rw [F_X9_feed_s, r_1_0, hb, show (20 : Int32) = iz 20 from rfl, iz_add, show (500 : Int32) = iz 500 from rfl]
  by_cases h : nb + 20 ≤ 500
  · rw [if_pos ((iz_le (by omega) (by omega) (by omega) (by omega)).mpr (by omega)), if_pos h]
    rw [c_append N a dy nb hN hb (by omega), sb_eq, c_append N b _ (nb + 4) hN rfl (by omega), sb_eq, c_append N c _ (nb + 8) hN rfl (by omega), sb_eq, c_append N d _ (nb + 12) hN rfl (by omega), sb_eq, c_append N e _ (nb + 16) hN rfl (by omega), sb_eq]
    rfl
  · rw [if_neg (fun q => h (by have := (iz_le (by omega) (by omega) (by omega) (by omega)).mp q; omega)), if_neg h]
theorem m_feed (N : Nat) (hN : 5 ≤ N) (a b c d e : Int32) (dy : DY) (nb : Nat) (hb : gi dy 512 0 = iz nb) (hn : nb ≤ 500) : F_X10_feed Z0.1 N 510 a b c d e dy = some (if nb + 20 ≤ 500 then (iz (nb + 20), fd5M a b c d e nb (si dy 510 0 0)) else (-1, si dy 510 0 0)) := by
  have e0 : gi (si dy 510 0 0) 512 0 = iz nb := hb
  rw [F_X10_feed_s, bd_eq, if_pos ib_0_4, r_510_2, tn_0, e0, show (20 : Int32) = iz 20 from rfl, iz_add, show (500 : Int32) = iz 500 from rfl]
  by_cases h : nb + 20 ≤ 500
  · rw [if_pos ((iz_le (by omega) (by omega) (by omega) (by omega)).mpr (by omega)), if_pos h]
    rw [m_four N a _ nb hN e0 (by omega), sb_eq, m_four N b _ (nb + 4) hN rfl (by omega), sb_eq, m_four N c _ (nb + 8) hN rfl (by omega), sb_eq, m_four N d _ (nb + 12) hN rfl (by omega), sb_eq, m_four N e _ (nb + 16) hN rfl (by omega), sb_eq, if_pos ib_0_4]
    rfl
  · rw [if_neg (fun q => h (by have := (iz_le (by omega) (by omega) (by omega) (by omega)).mp q; omega)), if_neg h]
/-- feed: the answers are alike; behind it the tapes are; nothing else has changed -/
theorem eq_feed (N : Nat) (hN : 5 ≤ N) (a b c d e : Int32) (dy : DY) (h : tapeR dy 2 0) : ∃ r dy1 dy2, F_X9_feed Z0.1 N 1 a b c d e dy = some (r, dy1) ∧ F_X10_feed Z0.1 N 510 a b c d e dy1 = some (r, dy2) ∧ tapeR dy2 2 0 ∧ ∀ x k, x ≠ 3 → x ≠ 511 → ¬ (x = 2 ∧ k = 1) → ¬ (x = 512 ∧ k = 0) → ¬ (x = 510 ∧ k = 0) → gi dy2 x k = gi dy x k := by
  obtain ⟨h1, h2, h3, h4⟩ := h
  obtain ⟨z, hz, z1, z2⟩ := iz_ex (gi dy 2 1)
  rw [hz, iz_toInt z1 z2] at h2 h3
  obtain ⟨nb, rfl⟩ : ∃ nb : Nat, z = nb := ⟨z.toNat, by omega⟩
  have hn : nb ≤ 500 := by omega
  rw [c_feed N hN a b c d e dy nb hz hn]
  by_cases hf : nb + 20 ≤ 500
  · rw [if_pos hf]
    have oC : ∀ x k, x ≠ 3 → ¬ (x = 2 ∧ k = 1) → gi (fd5C a b c d e nb dy) x k = gi dy x k := fun x k q1 q2 => by
      unfold fd5C
      rw [ap4C_o _ _ _ _ _ q1 q2, ap4C_o _ _ _ _ _ q1 q2, ap4C_o _ _ _ _ _ q1 q2, ap4C_o _ _ _ _ _ q1 q2, ap4C_o _ _ _ _ _ q1 q2]
    have oM : ∀ (dz : DY) x k, x ≠ 511 → ¬ (x = 512 ∧ k = 0) → gi (fd5M a b c d e nb dz) x k = gi dz x k := fun dz x k q1 q2 => by
      unfold fd5M
      rw [ap4M_o _ _ _ _ _ q1 q2, ap4M_o _ _ _ _ _ q1 q2, ap4M_o _ _ _ _ _ q1 q2, ap4M_o _ _ _ _ _ q1 q2, ap4M_o _ _ _ _ _ q1 q2]
    have hs : gi (fd5C a b c d e nb dy) 512 0 = iz nb := by rw [oC 512 0 (by omega) (by omega), ← h1, hz]
    refine ⟨_, _, fd5M a b c d e nb (si (fd5C a b c d e nb dy) 510 0 0), rfl, ?_, ⟨?_, ?_, ?_, ?_⟩, ?_⟩
    · rw [m_feed N hN a b c d e _ nb hs hn, if_pos hf]
    · rw [oM _ 2 1 (by omega) (by omega)]
      rfl
    · rw [oM _ 2 1 (by omega) (by omega)]
      show 0 ≤ (iz ((nb + 16 + 3 : Nat) + 1)).toInt
      rw [iz_toInt (by omega) (by omega)]
      omega
    · rw [oM _ 2 1 (by omega) (by omega)]
      show (iz ((nb + 16 + 3 : Nat) + 1)).toInt ≤ 500
      rw [iz_toInt (by omega) (by omega)]
      omega
    · intro i hi
      have p0 : tpP dy (si (fd5C a b c d e nb dy) 510 0 0) := fun j hj => by
        rw [gi_si_if, if_neg (by omega), oC 511 j (by omega) (by omega)]
        have := h4 j hj
        rw [Nat.mul_zero, Nat.zero_add] at this
        exact this
      have p5 : tpP (fd5C a b c d e nb dy) (fd5M a b c d e nb (si (fd5C a b c d e nb dy) 510 0 0)) := tpP_4 (tpP_4 (tpP_4 (tpP_4 (tpP_4 p0 _ _) _ _) _ _) _ _) _ _
      rw [oM _ 3 i (by omega) (by omega), Nat.mul_zero, Nat.zero_add]
      exact p5 i hi
    · intro x k q1 q2 q3 q4 q5
      rw [oM _ x k q2 q4, gi_si_if, if_neg q5, oC x k q1 q3]
  · rw [if_neg hf]
    refine ⟨_, _, si dy 510 0 0, rfl, ?_, ⟨h1, ?_, ?_, h4⟩, ?_⟩
    · rw [m_feed N hN a b c d e _ nb (by rw [← h1, hz]) hn, if_neg hf]
    · show 0 ≤ (gi dy 2 1).toInt
      rw [hz, iz_toInt z1 z2]; exact h2
    · show (gi dy 2 1).toInt ≤ 500
      rw [hz, iz_toInt z1 z2]; exact h3
    · intro x k _ _ _ _ q5
      rw [gi_si_if, if_neg q5]
