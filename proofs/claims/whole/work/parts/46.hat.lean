/-! hat -/
def filmOk (dy : DY) (f : Nat) : Prop := ∀ x : Nat, x < 8 → ∃ h : Nat, gi dy (f + 1) x = iz h ∧ h ≤ 6
theorem c_frame (S : ST) (N : Nat) (a b : Int32) (dy : DY) : F_X9_isFrame S N a b dy = some (if a < 0 then 0 else if b ≤ a then 0 else 1, dy) := by
  rw [F_X9_isFrame_s]
  by_cases h0 : a < 0
  · rw [if_pos h0, if_pos h0]
  · rw [if_neg h0, if_neg h0]
    by_cases h1 : b ≤ a
    · rw [if_pos h1, if_pos h1]
    · rw [if_neg h1, if_neg h1]
theorem c_hat25_0 (N : Nat) (a b c : Int32) (dy : DY) : F_X9_hat_25 Z0.1 N 1 a b c 0 dy = some (-1, dy) := by
  rw [F_X9_hat_25_s, if_pos rfl]
theorem c_hat25_n (N : Nat) (a b c : Int32) (dy : DY) (h : a < 0 ∨ 8 ≤ a) : F_X9_hat_25 Z0.1 N 1 a b c 1 dy = some (-1, dy) := by
  rw [F_X9_hat_25_s, if_neg (by decide), c_frame, sb_eq]
  by_cases h0 : a < 0
  · rw [if_pos h0]; rfl
  · rw [if_neg h0, if_pos (h.resolve_left h0)]; rfl
theorem c_hat25_1 (N : Nat) (a b c : Int32) (dy : DY) (h0 : ¬ a < 0) (h1 : ¬ 8 ≤ a) : F_X9_hat_25 Z0.1 N 1 a b c 1 dy = (F_X1_add Z0.1 N 35 a b c dy).bind fun u5 => some (u5.1, u5.2) := by
  rw [F_X9_hat_25_s, if_neg (by decide), c_frame, sb_eq, if_neg h0, if_neg h1, r_1_0, r_2_12]
  rfl
theorem c_hat_no (N : Nat) (a b c : Int32) (dy : DY) (h : b < 0 ∨ 100 ≤ b ∨ c < 0 ∨ 100 ≤ c ∨ a < 0 ∨ 8 ≤ a) : F_X9_hat Z0.1 N 1 a b c dy = some (-1, dy) := by
  rw [F_X9_hat_s]
  by_cases h0 : b < 0
  · rw [if_pos h0, c_hat25_0]
  · rw [if_neg h0]
    by_cases h1 : 100 ≤ b
    · rw [if_pos h1, c_hat25_0]
    · rw [if_neg h1]
      by_cases h2 : c < 0
      · rw [if_pos h2, c_hat25_0]
      · rw [if_neg h2]
        by_cases h3 : 100 ≤ c
        · rw [if_pos h3, c_hat25_0]
        · rw [if_neg h3]
          exact c_hat25_n N a b c dy ((((h.resolve_left h0).resolve_left h1).resolve_left h2).resolve_left h3)
theorem c_hat_yes (N : Nat) (a b c : Int32) (dy : DY) (h0 : ¬ b < 0) (h1 : ¬ 100 ≤ b) (h2 : ¬ c < 0) (h3 : ¬ 100 ≤ c) (h4 : ¬ a < 0) (h5 : ¬ 8 ≤ a) : F_X9_hat Z0.1 N 1 a b c dy = (F_X1_add Z0.1 N 35 a b c dy).bind fun u5 => some (u5.1, u5.2) := by
  rw [F_X9_hat_s, if_neg h0, if_neg h1, if_neg h2, if_neg h3, c_hat25_1 N a b c dy h4 h5]
def hatC (dy : DY) (z h : Nat) (b c : Int32) : DY := si (si (si dy 37 (6 * z + h) b) 38 (6 * z + h) c) 36 z (iz (h + 1))
theorem r_35_1 : gr Z0.1 35 1 = 37 := (fb_of 35 (by decide)).2.1
theorem r_35_2 : gr Z0.1 35 2 = 38 := (fb_of 35 (by decide)).2.2.1
theorem c_add (N z h : Nat) (b c : Int32) (dy : DY) (hz : z < 8) (hh : gi dy 36 z = iz h) (h6 : h ≤ 6) : F_X1_add Z0.1 N 35 (iz z) b c dy = some (if h = 6 then (-1, dy) else (iz h, hatC dy z h b c)) := by
  have p0 : ¬ iz z < 0 := by
    rw [show (0 : Int32) = iz 0 from rfl, iz_lt (by omega) (by omega) (by omega) (by omega)]; omega
  have p1 : ¬ (8 : Int32) ≤ iz z := by
    rw [show (8 : Int32) = iz 8 from rfl, iz_le (by omega) (by omega) (by omega) (by omega)]; omega
  have p2 : ib (iz z) 8 := (ib_iz (by omega) (by omega)).mpr ⟨by omega, by omega⟩
  have tz : (iz (z : Int)).toNatClampNeg = z := by rw [iz_tn (by omega) (by omega)]; rfl
  rw [F_X1_add_s, if_neg p0, if_neg p1, if_pos p2, r_35_0, tz, hh]
  by_cases e6 : h = 6
  · have q : ¬ iz h < (6 : Int32) := by
      rw [show (6 : Int32) = iz 6 from rfl, iz_lt (by omega) (by omega) (by omega) (by omega)]; omega
    rw [if_neg q, if_pos e6]
  · have q : iz h < (6 : Int32) := by
      rw [show (6 : Int32) = iz 6 from rfl, iz_lt (by omega) (by omega) (by omega) (by omega)]; omega
    have m : iz z * (6 : Int32) + iz h = iz (6 * z + h) := by
      rw [show (6 : Int32) = iz 6 from rfl, iz_mul, iz_add, Int.mul_comm]
    have p3 : ib (iz (6 * z + h)) 48 := (ib_iz (by omega) (by omega)).mpr ⟨by omega, by omega⟩
    have tm : (iz (6 * (z : Int) + h)).toNatClampNeg = 6 * z + h := by rw [iz_tn (by omega) (by omega)]; omega
    rw [if_pos q, if_pos p2, m, if_pos p3, bd_eq, if_pos p3, bd_eq, if_pos p2, if_pos p2, bd_eq, tm, r_35_1, r_35_2, if_neg e6]
    have e : gi (si (si dy 37 (6 * z + h) b) 38 (6 * z + h) c) 36 z = iz h := hh
    rw [e, show (1 : Int32) = iz 1 from rfl, iz_add]
    rfl
def hatM (dy : DY) (z h : Nat) (b c : Int32) : DY := si (si (si dy 526 (6 * z + h) b) 527 (6 * z + h) c) 525 z (iz (h + 1))
theorem m_hat_no (N : Nat) (a b c : Int32) (dy : DY) (h : b < 0 ∨ 99 < b ∨ c < 0 ∨ 99 < c ∨ a < 0 ∨ 7 < a) : F_X10_hat Z0.1 N 510 a b c dy = some (-1, si dy 510 0 0) := by
  rw [F_X10_hat_s, bd_eq, m_in, sb_eq]
  by_cases h0 : a < 0
  · rw [if_pos h0]; rfl
  · rw [if_neg h0]
    by_cases h1 : 7 < a
    · rw [if_pos h1]; rfl
    · rw [if_neg h1, if_neg (by decide : ¬ (1 : Int32) = 0), m_in, sb_eq]
      by_cases h2 : b < 0
      · rw [if_pos h2]; rfl
      · rw [if_neg h2]
        by_cases h3 : 99 < b
        · rw [if_pos h3]; rfl
        · rw [if_neg h3, if_neg (by decide : ¬ (1 : Int32) = 0), m_in, sb_eq]
          by_cases h4 : c < 0
          · rw [if_pos h4]; rfl
          · rw [if_neg h4]
            by_cases h5 : 99 < c
            · rw [if_pos h5]; rfl
            · exact absurd h (by simp only [h0, h1, h2, h3, h4, h5, or_self, not_false_eq_true])
theorem m_hat_yes (N z h : Nat) (b c : Int32) (dy : DY) (h0 : ¬ b < 0) (h1 : ¬ 99 < b) (h2 : ¬ c < 0) (h3 : ¬ 99 < c) (hz : z < 8) (hh : gi dy 525 z = iz h) (h6 : h ≤ 6) : F_X10_hat Z0.1 N 510 (iz z) b c dy = some (if h = 6 then (-1, si dy 510 0 0) else (iz h, hatM (si dy 510 0 0) z h b c)) := by
  have p0 : ¬ iz z < 0 := by
    rw [show (0 : Int32) = iz 0 from rfl, iz_lt (by omega) (by omega) (by omega) (by omega)]; omega
  have p1 : ¬ (7 : Int32) < iz z := by
    rw [show (7 : Int32) = iz 7 from rfl, iz_lt (by omega) (by omega) (by omega) (by omega)]; omega
  have p2 : ib (iz z) 32 := (ib_iz (by omega) (by omega)).mpr ⟨by omega, by omega⟩
  have tz : (iz (z : Int)).toNatClampNeg = z := by rw [iz_tn (by omega) (by omega)]; rfl
  have n1 : ¬ (1 : Int32) = 0 := by decide
  rw [F_X10_hat_s, bd_eq, m_in, sb_eq, if_neg p0, if_neg p1, if_neg n1, m_in, sb_eq, if_neg h0, if_neg h1, if_neg n1, m_in, sb_eq, if_neg h2, if_neg h3, if_neg n1, if_pos p2, r_510_15, tz]
  have e0 : gi (si dy 510 0 0) 525 z = iz h := hh
  show (if gi (si dy 510 0 0) 525 z = 6 then _ else _) = _
  by_cases e6 : h = 6
  · have q : gi (si dy 510 0 0) 525 z = (6 : Int32) := by rw [e0, e6]; rfl
    rw [if_pos q, if_pos e6]
  · have q : ¬ gi (si dy 510 0 0) 525 z = (6 : Int32) := by
      rw [e0, show (6 : Int32) = iz 6 from rfl, iz_inj (by omega) (by omega) (by omega) (by omega)]; omega
    have m : (6 : Int32) * iz z + iz h = iz (6 * z + h) := by
      rw [show (6 : Int32) = iz 6 from rfl, iz_mul, iz_add]
    have p3 : ib (iz (6 * z + h)) 192 := (ib_iz (by omega) (by omega)).mpr ⟨by omega, by omega⟩
    have tm : (iz (6 * (z : Int) + h)).toNatClampNeg = 6 * z + h := by rw [iz_tn (by omega) (by omega)]; omega
    rw [if_neg q, if_pos p2, e0, m, if_pos p3, bd_eq, if_pos p3, bd_eq, if_pos p2, if_pos p2, bd_eq, if_pos p2, tm, r_510_16, r_510_17, if_neg e6]
    have e : gi (si (si (si dy 510 0 0) 526 (6 * z + h) b) 527 (6 * z + h) c) 525 z = iz h := hh
    have e2 : gi (hatM (si dy 510 0 0) z h b c) 525 z = iz (h + 1) := by
      unfold hatM
      rw [gi_si_if, if_pos ⟨rfl, rfl⟩]
    rw [e, show (1 : Int32) = iz 1 from rfl, iz_add]
    show some (gi (hatM (si dy 510 0 0) z h b c) 525 z - iz 1, hatM (si dy 510 0 0) z h b c) = _
    rw [e2, iz_sub, show (h : Int) + 1 - 1 = h by omega]
theorem eq_hat (N : Nat) (a b c : Int32) (dy : DY) (h1 : filmR dy 35 0) (h2 : filmOk dy 35) : ∃ r dy1 dy2, F_X9_hat Z0.1 N 1 a b c dy = some (r, dy1) ∧ F_X10_hat Z0.1 N 510 a b c dy1 = some (r, dy2) ∧ filmR dy2 35 0 ∧ filmOk dy2 35 ∧ ∀ x k : Nat, ¬ (x = 510 ∧ k = 0) → x ≠ 36 → x ≠ 37 → x ≠ 38 → ¬ (x = 525 ∧ k < 8) → ¬ (x = 526 ∧ k < 48) → ¬ (x = 527 ∧ k < 48) → gi dy2 x k = gi dy x k := by
  have fr : ∀ x k : Nat, ¬ (x = 510 ∧ k = 0) → gi (si dy 510 0 0) x k = gi dy x k := fun x k q => by rw [gi_si_if, if_neg q]
  obtain ⟨za, rfl, a1, a2⟩ := iz_ex a
  obtain ⟨zb, rfl, b1, b2⟩ := iz_ex b
  obtain ⟨zc, rfl, c1, c2⟩ := iz_ex c
  have ka0 : iz za < 0 ↔ za < 0 := iz_lt (b := 0) a1 a2 (by omega) (by omega)
  have kb0 : iz zb < 0 ↔ zb < 0 := iz_lt (b := 0) b1 b2 (by omega) (by omega)
  have kc0 : iz zc < 0 ↔ zc < 0 := iz_lt (b := 0) c1 c2 (by omega) (by omega)
  have ka7 : 7 < iz za ↔ 7 < za := iz_lt (a := 7) (by omega) (by omega) a1 a2
  have ka8 : 8 ≤ iz za ↔ 8 ≤ za := iz_le (a := 8) (by omega) (by omega) a1 a2
  have kb9 : 99 < iz zb ↔ 99 < zb := iz_lt (a := 99) (by omega) (by omega) b1 b2
  have kb8 : 100 ≤ iz zb ↔ 100 ≤ zb := iz_le (a := 100) (by omega) (by omega) b1 b2
  have kc9 : 99 < iz zc ↔ 99 < zc := iz_lt (a := 99) (by omega) (by omega) c1 c2
  have kc8 : 100 ≤ iz zc ↔ 100 ≤ zc := iz_le (a := 100) (by omega) (by omega) c1 c2
  by_cases ok : 0 ≤ za ∧ za ≤ 7 ∧ 0 ≤ zb ∧ zb ≤ 99 ∧ 0 ≤ zc ∧ zc ≤ 99
  · obtain ⟨z, rfl⟩ : ∃ z : Nat, za = z := ⟨za.toNat, by omega⟩
    have hz : z < 8 := by omega
    obtain ⟨h, hh, h6⟩ := h2 z hz
    have e0 : gi dy 525 z = iz h := by
      have := h1.1 z hz
      rw [Nat.mul_zero, Nat.zero_add] at this
      rw [← this]; exact hh
    have n0 : ¬ iz zb < 0 := fun q => by have := kb0.mp q; omega
    have n1 : ¬ 99 < iz zb := fun q => by have := kb9.mp q; omega
    have n2 : ¬ 100 ≤ iz zb := fun q => by have := kb8.mp q; omega
    have n3 : ¬ iz zc < 0 := fun q => by have := kc0.mp q; omega
    have n4 : ¬ 99 < iz zc := fun q => by have := kc9.mp q; omega
    have n5 : ¬ 100 ≤ iz zc := fun q => by have := kc8.mp q; omega
    have n6 : ¬ iz (z : Int) < 0 := fun q => by have := ka0.mp q; omega
    have n7 : ¬ 8 ≤ iz (z : Int) := fun q => by have := ka8.mp q; omega
    have hc := c_hat_yes N (iz z) (iz zb) (iz zc) dy n0 n2 n3 n5 n6 n7
    rw [c_add N z h (iz zb) (iz zc) dy hz hh h6, sb_eq] at hc
    by_cases e6 : h = 6
    · rw [if_pos e6] at hc
      refine ⟨_, _, si dy 510 0 0, hc, ?_, h1, h2, fun x k q _ _ _ _ _ _ => fr x k q⟩
      rw [m_hat_yes N z h (iz zb) (iz zc) dy n0 n1 n3 n4 hz e0 h6, if_pos e6]
    · rw [if_neg e6] at hc
      refine ⟨_, _, hatM (si (hatC dy z h (iz zb) (iz zc)) 510 0 0) z h (iz zb) (iz zc), hc, ?_, ?_, ?_, ?_⟩
      · rw [m_hat_yes N z h (iz zb) (iz zc) (hatC dy z h (iz zb) (iz zc)) n0 n1 n3 n4 hz e0 h6, if_neg e6]
      · refine ⟨fun x hx => ?_, fun x hx => ?_⟩
        · have := h1.1 x hx
          simp only [hatM, hatC, gi_si_if]
          simp only [Nat.mul_zero, Nat.zero_add] at this ⊢
          by_cases ex : x = z
          · simp [ex]
          · simp [ex]; exact this
        · have := h1.2 x hx
          simp only [hatM, hatC, gi_si_if]
          simp only [Nat.mul_zero, Nat.zero_add] at this ⊢
          by_cases ex : x = 6 * z + h
          · simp [ex]
          · simp [ex]; exact this
      · intro x hx
        by_cases ex : x = z
        · refine ⟨h + 1, ?_, by omega⟩
          simp only [hatM, hatC, gi_si_if]
          simp [ex]
        · obtain ⟨h', hh', h6'⟩ := h2 x hx
          refine ⟨h', ?_, h6'⟩
          simp only [hatM, hatC, gi_si_if]
          simp [ex]; exact hh'
      · intro x k q0 q1 q2 q3 q4 q5 q6
        simp only [hatM, hatC, gi_si_if]
        have t1 : ¬ (x = 525 ∧ k = z) := fun q => q4 ⟨q.1, by omega⟩
        have t2 : ¬ (x = 526 ∧ k = 6 * z + h) := fun q => q5 ⟨q.1, by omega⟩
        have t3 : ¬ (x = 527 ∧ k = 6 * z + h) := fun q => q6 ⟨q.1, by omega⟩
        rw [if_neg t1, if_neg t3, if_neg t2, if_neg q0, if_neg (fun q => q1 q.1), if_neg (fun q => q3 q.1), if_neg (fun q => q2 q.1)]
  · refine ⟨_, _, si dy 510 0 0, c_hat_no N (iz za) (iz zb) (iz zc) dy ?_, m_hat_no N (iz za) (iz zb) (iz zc) dy ?_, h1, h2, fun x k q _ _ _ _ _ _ => fr x k q⟩
    · rw [ka0, ka8, kb0, kb8, kc0, kc8]; omega
    · rw [ka0, ka7, kb0, kb9, kc0, kc9]; omega
