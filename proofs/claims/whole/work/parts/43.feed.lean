/-! feed -/
def byt (v : Int32) (s : Int32) : Int32 := ((v >>> (s &&& 31))).toInt8.toInt32
/-- one byte behind the class's tape -/
def apC (v s : Int32) (nb : Nat) (dy : DY) : DY := si (si dy 3 nb (byt v s)) 2 1 (iz (nb + 1))
def apM (v s : Int32) (nb : Nat) (dy : DY) : DY := si (si dy 511 nb (byt v s)) 512 0 (iz (nb + 1))
theorem r_2_0 : gr Z0.1 2 0 = 3 := (tb_of 2 (by decide)).1
theorem c_app1 (N k : Nat) (v s : Int32) (dy : DY) (nb : Nat) (hb : gi dy 2 1 = iz nb) (hn : nb < 500) (hs : ¬ s < 0) : F_X7_append_3 Z0.1 N (k + 1) 2 v s dy = F_X7_append_3 Z0.1 N k 2 v (s + -8) (apC v s nb dy) := by
  have h1 : ¬ (500 : Int32) ≤ iz nb := by
    rw [show (500 : Int32) = iz 500 from rfl, iz_le (by omega) (by omega) (by omega) (by omega)]
    omega
  have h2 : ib (iz nb) 500 := (ib_iz (by omega) (by omega)).mpr ⟨by omega, by omega⟩
  rw [F_X7_append_3_s, if_neg hs, hb, if_neg h1, if_pos h2, bd_eq, bd_eq, r_2_0, iz_tn (by omega) (by omega)]
  have h3 : gi (si dy 3 nb (byt v s)) 2 1 = iz nb := hb
  show F_X7_append_3 Z0.1 N k 2 v (s + -8) (si (si dy 3 nb (byt v s)) 2 1 (gi (si dy 3 nb (byt v s)) 2 1 + 1)) = _
  rw [h3, show (1 : Int32) = iz 1 from rfl, iz_add]
  rfl
theorem c_app0 (N k : Nat) (v s : Int32) (dy : DY) (hs : s < 0) : F_X7_append_3 Z0.1 N (k + 1) 2 v s dy = some dy := by
  rw [F_X7_append_3_s, if_pos hs]
def ap4C (v : Int32) (nb : Nat) (dy : DY) : DY := apC v 0 (nb + 3) (apC v 8 (nb + 2) (apC v 16 (nb + 1) (apC v 24 nb dy)))
theorem c_append (N : Nat) (v : Int32) (dy : DY) (nb : Nat) (hN : 5 ≤ N) (hb : gi dy 2 1 = iz nb) (hn : nb + 4 ≤ 500) : F_X7_append Z0.1 N 2 v dy = some (ap4C v nb dy) := by
  obtain ⟨k, rfl⟩ : ∃ k, N = k + 5 := ⟨N - 5, by omega⟩
  rw [F_X7_append_s]
  show F_X7_append_3 Z0.1 (k + 5) (k + 4 + 1) 2 v 24 dy = _
  rw [c_app1 (k + 5) (k + 4) v 24 dy nb hb (by omega) (by decide), show (24 : Int32) + -8 = 16 from rfl]
  show F_X7_append_3 Z0.1 (k + 5) (k + 3 + 1) 2 v 16 _ = _
  rw [c_app1 (k + 5) (k + 3) v 16 _ (nb + 1) rfl (by omega) (by decide), show (16 : Int32) + -8 = 8 from rfl]
  show F_X7_append_3 Z0.1 (k + 5) (k + 2 + 1) 2 v 8 _ = _
  rw [c_app1 (k + 5) (k + 2) v 8 _ (nb + 2) rfl (by omega) (by decide), show (8 : Int32) + -8 = 0 from rfl]
  show F_X7_append_3 Z0.1 (k + 5) (k + 1 + 1) 2 v 0 _ = _
  rw [c_app1 (k + 5) (k + 1) v 0 _ (nb + 3) rfl (by omega) (by decide), show (0 : Int32) + -8 = -8 from rfl]
  rw [c_app0 (k + 5) k v (-8) _ (by decide)]
  rfl
theorem m_app1 (N k : Nat) (v s : Int32) (dy : DY) (nb : Nat) (hb : gi dy 512 0 = iz nb) (hn : nb < 2000) (hs : ¬ s < 0) : F_X10_four_3 Z0.1 N (k + 1) 510 v s dy = F_X10_four_3 Z0.1 N k 510 v (s + -8) (apM v s nb dy) := by
  have h2 : ib (iz nb) 2000 := (ib_iz (by omega) (by omega)).mpr ⟨by omega, by omega⟩
  rw [F_X10_four_3_s, if_neg hs, if_pos ib_0_4, r_510_2, tn_0, hb, if_pos h2, bd_eq, if_pos ib_0_4, if_pos ib_0_4, bd_eq, r_510_1, iz_tn (by omega) (by omega)]
  have h3 : gi (si dy 511 nb (byt v s)) 512 0 = iz nb := hb
  show F_X10_four_3 Z0.1 N k 510 v (s + -8) (si (si dy 511 nb (byt v s)) 512 0 (gi (si dy 511 nb (byt v s)) 512 0 + 1)) = _
  rw [h3, show (1 : Int32) = iz 1 from rfl, iz_add]
  rfl
theorem m_app0 (N k : Nat) (v s : Int32) (dy : DY) (hs : s < 0) : F_X10_four_3 Z0.1 N (k + 1) 510 v s dy = some dy := by
  rw [F_X10_four_3_s, if_pos hs]
def ap4M (v : Int32) (nb : Nat) (dy : DY) : DY := apM v 0 (nb + 3) (apM v 8 (nb + 2) (apM v 16 (nb + 1) (apM v 24 nb dy)))
theorem m_four (N : Nat) (v : Int32) (dy : DY) (nb : Nat) (hN : 5 ≤ N) (hb : gi dy 512 0 = iz nb) (hn : nb + 4 ≤ 2000) : F_X10_four Z0.1 N 510 v dy = some (ap4M v nb dy) := by
  obtain ⟨k, rfl⟩ : ∃ k, N = k + 5 := ⟨N - 5, by omega⟩
  rw [F_X10_four_s]
  show F_X10_four_3 Z0.1 (k + 5) (k + 4 + 1) 510 v 24 dy = _
  rw [m_app1 (k + 5) (k + 4) v 24 dy nb hb (by omega) (by decide), show (24 : Int32) + -8 = 16 from rfl]
  show F_X10_four_3 Z0.1 (k + 5) (k + 3 + 1) 510 v 16 _ = _
  rw [m_app1 (k + 5) (k + 3) v 16 _ (nb + 1) rfl (by omega) (by decide), show (16 : Int32) + -8 = 8 from rfl]
  show F_X10_four_3 Z0.1 (k + 5) (k + 2 + 1) 510 v 8 _ = _
  rw [m_app1 (k + 5) (k + 2) v 8 _ (nb + 2) rfl (by omega) (by decide), show (8 : Int32) + -8 = 0 from rfl]
  show F_X10_four_3 Z0.1 (k + 5) (k + 1 + 1) 510 v 0 _ = _
  rw [m_app1 (k + 5) (k + 1) v 0 _ (nb + 3) rfl (by omega) (by decide), show (0 : Int32) + -8 = -8 from rfl]
  rw [m_app0 (k + 5) k v (-8) _ (by decide)]
  rfl
