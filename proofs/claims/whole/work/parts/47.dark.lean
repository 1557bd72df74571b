/-! dark -/
def zr (a : Nat) : Nat → DY → DY
  | 0, dy => dy
  | n + 1, dy => si (zr a n dy) a n 0
def smI (dy : DY) (a : Nat) : Nat → Int32
  | 0 => 0
  | n + 1 => smI dy a n + gi dy a n
theorem gi_zr (a : Nat) (dy : DY) (x k : Nat) : ∀ n : Nat, gi (zr a n dy) x k = if x = a ∧ k < n then 0 else gi dy x k
  | 0 => by rw [if_neg (by omega)]; rfl
  | n + 1 => by
    show gi (si (zr a n dy) a n 0) x k = _
    rw [gi_si_if, gi_zr a dy x k n]
    by_cases h : x = a ∧ k = n
    · rw [if_pos h, if_pos ⟨h.1, by omega⟩]
    · rw [if_neg h]
      by_cases h2 : x = a ∧ k < n
      · rw [if_pos h2, if_pos ⟨h2.1, by omega⟩]
      · rw [if_neg h2, if_neg (fun q => by rcases Nat.lt_or_ge k n with c | c; exact h2 ⟨q.1, c⟩; exact h ⟨q.1, by omega⟩)]
theorem smI_eq (d e : DY) (a b : Nat) : ∀ n : Nat, (∀ x, x < n → gi d a x = gi e b x) → smI d a n = smI e b n
  | 0, _ => rfl
  | n + 1, h => by
    show smI d a n + gi d a n = smI e b n + gi e b n
    rw [smI_eq d e a b n (fun x hx => h x (by omega)), h n (by omega)]
theorem c_dark_4 (N : Nat) (dy : DY) : ∀ (m k : Nat), m < k → m ≤ 8 → F_X9_dark_4 Z0.1 N k 1 (smI dy 36 (8 - m)) (iz ((8 - m : Nat) : Int)) (zr 36 (8 - m) dy) = some (smI dy 36 8, zr 36 8 dy)
  | _, 0, h, _ => absurd h (by omega)
  | 0, k + 1, _, _ => by
    rw [F_X9_dark_4_s, if_pos (by decide)]
  | m + 1, k + 1, h, h8 => by
    have p1 : ¬ (8 : Int32) ≤ iz ((8 - (m + 1) : Nat) : Int) := by
      rw [show (8 : Int32) = iz 8 from rfl, iz_le (by omega) (by omega) (by omega) (by omega)]; omega
    have p2 : ib (iz ((8 - (m + 1) : Nat) : Int)) 8 := (ib_iz (by omega) (by omega)).mpr ⟨by omega, by omega⟩
    have tz : (iz ((8 - (m + 1) : Nat) : Int)).toNatClampNeg = 8 - (m + 1) := by rw [iz_tn (by omega) (by omega)]; rfl
    have e : 8 - m = 8 - (m + 1) + 1 := by omega
    have ih := c_dark_4 N dy m k (by omega) (by omega)
    rw [e] at ih
    rw [F_X9_dark_4_s, if_neg p1, if_pos p2, if_pos p2, bd_eq, r_1_0, r_2_12, r_35_0, tz, gi_zr, if_neg (by omega), show (1 : Int32) = iz 1 from rfl, iz_add]
    exact ih
theorem m_dark_9 (N : Nat) (dy : DY) : ∀ (m k : Nat), m < k → m ≤ 8 → F_X10_dark_9 Z0.1 N k 510 (smI dy 525 (8 - m)) (iz ((8 - m : Nat) : Int)) (zr 525 (8 - m) dy) = some (smI dy 525 8, zr 525 8 dy)
  | _, 0, h, _ => absurd h (by omega)
  | 0, k + 1, _, _ => by
    rw [F_X10_dark_9_s, if_pos (by decide)]
  | m + 1, k + 1, h, h8 => by
    have p1 : ¬ (8 : Int32) ≤ iz ((8 - (m + 1) : Nat) : Int) := by
      rw [show (8 : Int32) = iz 8 from rfl, iz_le (by omega) (by omega) (by omega) (by omega)]; omega
    have p2 : ib (iz ((8 - (m + 1) : Nat) : Int)) 32 := (ib_iz (by omega) (by omega)).mpr ⟨by omega, by omega⟩
    have tz : (iz ((8 - (m + 1) : Nat) : Int)).toNatClampNeg = 8 - (m + 1) := by rw [iz_tn (by omega) (by omega)]; rfl
    have e : 8 - m = 8 - (m + 1) + 1 := by omega
    have ih := m_dark_9 N dy m k (by omega) (by omega)
    rw [e] at ih
    rw [F_X10_dark_9_s, if_neg p1, if_pos p2, if_pos p2, bd_eq, r_510_15, tz, gi_zr, if_neg (by omega), show (1 : Int32) = iz 1 from rfl, iz_add]
    exact ih
theorem c_dark (N : Nat) (dy : DY) (hN : 9 ≤ N) : F_X9_dark Z0.1 N 1 dy = some (smI dy 36 8, zr 36 8 dy) := by
  rw [F_X9_dark_s]
  exact c_dark_4 N dy 8 N (by omega) (by omega)
theorem m_dark (N : Nat) (dy : DY) (hN : 9 ≤ N) : F_X10_dark Z0.1 N 510 dy = some (smI (si dy 510 0 0) 525 8, zr 525 8 (si dy 510 0 0)) := by
  rw [F_X10_dark_s, bd_eq]
  exact m_dark_9 N (si dy 510 0 0) 8 N (by omega) (by omega)
theorem eq_dark (N : Nat) (dy : DY) (hN : 9 ≤ N) (h1 : filmR dy 35 0) (h2 : filmOk dy 35) : ∃ r dy1 dy2, F_X9_dark Z0.1 N 1 dy = some (r, dy1) ∧ F_X10_dark Z0.1 N 510 dy1 = some (r, dy2) ∧ filmR dy2 35 0 ∧ filmOk dy2 35 ∧ ∀ x k : Nat, ¬ (x = 510 ∧ k = 0) → ¬ (x = 36 ∧ k < 8) → ¬ (x = 525 ∧ k < 8) → gi dy2 x k = gi dy x k := by
  refine ⟨_, _, zr 525 8 (si (zr 36 8 dy) 510 0 0), c_dark N dy hN, ?_, ?_, ?_, ?_⟩
  · rw [m_dark N _ hN]
    rw [smI_eq (si (zr 36 8 dy) 510 0 0) dy 525 36 8]
    intro x hx
    have := h1.1 x hx
    rw [Nat.mul_zero, Nat.zero_add] at this
    rw [gi_si_if, if_neg (by omega), gi_zr, if_neg (by omega)]
    exact this.symm
  · refine ⟨fun x hx => ?_, fun x hx => ?_⟩
    · rw [gi_zr, if_neg (by omega), gi_si_if, if_neg (by omega), gi_zr, if_pos ⟨rfl, hx⟩, gi_zr, if_pos ⟨rfl, by omega⟩]
    · have := h1.2 x hx
      rw [gi_zr, if_neg (by omega), gi_si_if, if_neg (by omega), gi_zr, if_neg (by omega), gi_zr, if_neg (by omega), gi_si_if, if_neg (by omega), gi_zr, if_neg (by omega), gi_zr, if_neg (by omega), gi_si_if, if_neg (by omega), gi_zr, if_neg (by omega), gi_zr, if_neg (by omega), gi_si_if, if_neg (by omega), gi_zr, if_neg (by omega)]
      exact this
  · intro x hx
    refine ⟨0, ?_, by omega⟩
    rw [gi_zr, if_neg (by omega), gi_si_if, if_neg (by omega), gi_zr, if_pos ⟨rfl, hx⟩]
    rfl
  · intro x k q0 q1 q2
    rw [gi_zr, if_neg q2, gi_si_if, if_neg q0, gi_zr, if_neg q1]
