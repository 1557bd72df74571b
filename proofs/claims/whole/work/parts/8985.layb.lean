/-! the reference lays a row: all of it -/
def awy (x5 x6 : Int32) (j : Nat) : Prop := x5 ≤ iz j ∨ iz (j : Int) = x6
/-- walker j of the row, laid -/
def WKL (e m : DY) (r q : Nat) (x5 x6 : Int32) (j : Nat) : Prop := (∀ y : Nat, y < 4 → (awy x5 x6 j → gi e 531 (720 * r + 16 + 20 * j + y) = -1 ∧ gi e 531 (720 * r + 16 + 20 * j + 4 + y) = -1) ∧ (¬ awy x5 x6 j → gi e 531 (720 * r + 16 + 20 * j + y) = gi m 521 (8 * (12 * q + j)) ∧ gi e 531 (720 * r + 16 + 20 * j + 4 + y) = gi m 521 (8 * (12 * q + j) + 1))) ∧ (∀ y : Nat, 2 ≤ y → y < 8 → gi e 531 (720 * r + 16 + 20 * j + 6 + y) = gi m 521 (8 * (12 * q + j) + y)) ∧ gi e 531 (720 * r + 16 + 20 * j + 14) = -1
theorem m_l121 (N r q M : Nat) (x3 x5 x6 x7 : Int32) (hN : 20 ≤ N) (r14 : r < 14) (q12 : q < 12) (hM : M ≤ 12) : ∀ (p mi k : Nat) (m : DY), mi + p = M → p < k → gi m 518 q = iz M → ∃ e : DY, F_X10_lay_121 Z0.1 N k 510 (iz r) (iz q) x3 x5 x6 x7 (iz mi) m = F_X10_lay_305 Z0.1 N N 510 (iz q) x3 x7 0 e ∧ (∀ x y : Nat, ¬ (x = 531 ∧ 720 * r + 16 + 20 * mi ≤ y ∧ y < 720 * r + 16 + 20 * M ∧ (y - (720 * r + 16)) % 20 ≤ 14) → gi e x y = gi m x y) ∧ (∀ x y : Nat, gl e x y = gl m x y) ∧ ∀ j : Nat, mi ≤ j → j < M → WKL e m r q x5 x6 j := by
  intro p
  induction p with
  | zero =>
    intro mi k m hp hk h8
    obtain ⟨k, rfl⟩ : ∃ j, k = j + 1 := ⟨k - 1, by omega⟩
    obtain rfl : mi = M := by omega
    refine ⟨m, ?_, fun _ _ _ => rfl, fun _ _ => rfl, fun j h1 h2 => absurd h2 (by omega)⟩
    rw [F_X10_lay_121_s, if_pos (show ib (iz (q : Int)) 12 from iz_ib (by omega)), r_510_8, tnn _ q rfl (by omega), h8, if_pos (Int32.le_refl _)]
  | succ p ih =>
    intro mi k m hp hk h8
    obtain ⟨k, rfl⟩ : ∃ j, k = j + 1 := ⟨k - 1, by omega⟩
    obtain ⟨b, hb⟩ : ∃ b : Nat, b = 8 * (12 * q + mi) := ⟨_, rfl⟩
    obtain ⟨A, hA⟩ : ∃ A : Nat, A = 720 * r + 16 + 20 * mi := ⟨_, rfl⟩
    have ebi : (8 : Int32) * ((12 : Int32) * iz (q : Int) + iz (mi : Int)) = iz ((b : Nat) : Int) := by
      rw [show (12 : Int32) * iz (q : Int) = iz (12 * (q : Int)) from iz_mul 12 q, iz_add, show (8 : Int32) * iz (12 * (q : Int) + (mi : Int)) = iz (8 * (12 * (q : Int) + (mi : Int))) from iz_mul 8 _]
      exact congrArg iz (by omega)
    have walk : ∀ (x11 vx vy : Int32), (x11 = 0 ∧ gi m 521 b = vx ∧ gi m 521 (b + 1) = vy ∨ x11 ≠ 0 ∧ vx = -1 ∧ vy = -1) → ((awy x5 x6 mi → vx = -1 ∧ vy = -1) ∧ (¬ awy x5 x6 mi → vx = gi m 521 b ∧ vy = gi m 521 (b + 1))) → ∃ e : DY, F_X10_lay_176 Z0.1 N (F_X10_lay_121 Z0.1 N k) N 510 (iz r) (iz q) x3 x5 x6 x7 (iz mi) (iz A) (iz b) x11 0 m = F_X10_lay_305 Z0.1 N N 510 (iz q) x3 x7 0 e ∧ (∀ x y : Nat, ¬ (x = 531 ∧ 720 * r + 16 + 20 * mi ≤ y ∧ y < 720 * r + 16 + 20 * M ∧ (y - (720 * r + 16)) % 20 ≤ 14) → gi e x y = gi m x y) ∧ (∀ x y : Nat, gl e x y = gl m x y) ∧ ∀ j : Nat, mi ≤ j → j < M → WKL e m r q x5 x6 j := fun x11 vx vy hx ha => by
      obtain ⟨e1, u1, u2, u3, u4, _⟩ := m_l176 N (F_X10_lay_121 Z0.1 N k) A b mi (iz r) (iz q) x3 x5 x6 x7 x11 vx vy (by omega) (by omega) 4 0 N m (by omega) (by omega) hx
      obtain ⟨e2, v1, v2, v3, v4, v5⟩ := m_l247 N (F_X10_lay_121 Z0.1 N k) A b mi (iz r) (iz q) x3 x5 x6 x7 (by omega) (by omega) (by omega) 6 2 N e1 (by omega) (by omega) (by omega)
      obtain ⟨e, w1, w2, w3, w4⟩ := ih (mi + 1) k e2 (by omega) (by omega) (by rw [v2 518 q (by omega), u2 518 q (by omega)]; exact h8)
      refine ⟨e, u1.trans (v1.trans w1), fun x y h => ?_, fun x y => (w3 x y).trans ((v3 x y).trans (u3 x y)), fun j h1 h2 => ?_⟩
      · rw [w2 x y (by omega), v2 x y (by omega), u2 x y (by omega)]
      · have m521 : ∀ y : Nat, gi e2 521 y = gi m 521 y := fun y => by rw [v2 521 y (by omega), u2 521 y (by omega)]
        by_cases z : j = mi
        · subst z
          rw [hb] at ha v4
          refine ⟨fun y hy => ⟨fun a => ?_, fun a => ?_⟩, fun y h3 h4 => ?_, ?_⟩
          · obtain ⟨z1, z2⟩ := u4 y (by omega) hy
            obtain ⟨z3, z4⟩ := ha.1 a
            rw [← hA, w2 531 (A + y) (by omega), w2 531 (A + 4 + y) (by omega), v2 531 (A + y) (by omega), v2 531 (A + 4 + y) (by omega), z1, z2]
            exact ⟨z3, z4⟩
          · obtain ⟨z1, z2⟩ := u4 y (by omega) hy
            obtain ⟨z3, z4⟩ := ha.2 a
            rw [← hA, w2 531 (A + y) (by omega), w2 531 (A + 4 + y) (by omega), v2 531 (A + y) (by omega), v2 531 (A + 4 + y) (by omega), z1, z2]
            exact ⟨z3, z4⟩
          · rw [← hA, w2 531 (A + 6 + y) (by omega), v4 y h3 h4, u2 521 _ (by omega)]
          · rw [← hA, w2 531 (A + 14) (by omega), v5]
        · have W := w4 j (by omega) h2
          unfold WKL at W ⊢
          rw [m521, m521] at W
          obtain ⟨W1, W2, W3⟩ := W
          exact ⟨W1, fun y h3 h4 => (W2 y h3 h4).trans (m521 _), W3⟩
    rw [F_X10_lay_121_s, if_pos (show ib (iz (q : Int)) 12 from iz_ib (by omega)), r_510_8, tnn _ q rfl (by omega), h8, if_neg (show ¬ iz (M : Int) ≤ iz (mi : Int) from iz_nle (by omega)), ebi]
    have at0 : F_X10_at Z0.1 N (iz r) (iz mi) m = some (iz (A : Int), m) := by
      rw [hA]
      exact m_at _ _ r mi m
    rw [at0, sb_eq]
    show ∃ e : DY, (if x5 ≤ iz (mi : Int) then F_X10_lay_176 Z0.1 N (F_X10_lay_121 Z0.1 N k) N 510 (iz r) (iz q) x3 x5 x6 x7 (iz mi) (iz A) (iz b) 1 0 m else if iz (mi : Int) = x6 then F_X10_lay_176 Z0.1 N (F_X10_lay_121 Z0.1 N k) N 510 (iz r) (iz q) x3 x5 x6 x7 (iz mi) (iz A) (iz b) 1 0 m else F_X10_lay_176 Z0.1 N (F_X10_lay_121 Z0.1 N k) N 510 (iz r) (iz q) x3 x5 x6 x7 (iz mi) (iz A) (iz b) 0 0 m) = _ ∧ _
    by_cases c1 : x5 ≤ iz (mi : Int)
    · rw [if_pos c1]
      exact walk 1 (-1) (-1) (Or.inr ⟨by decide, rfl, rfl⟩) ⟨fun _ => ⟨rfl, rfl⟩, fun a => absurd (Or.inl c1) a⟩
    · rw [if_neg c1]
      by_cases c2 : iz (mi : Int) = x6
      · rw [if_pos c2]
        exact walk 1 (-1) (-1) (Or.inr ⟨by decide, rfl, rfl⟩) ⟨fun _ => ⟨rfl, rfl⟩, fun a => absurd (Or.inr c2) a⟩
      · rw [if_neg c2]
        exact walk 0 (gi m 521 b) (gi m 521 (b + 1)) (Or.inl ⟨rfl, rfl, rfl⟩) ⟨fun a => absurd a (fun z => z.elim c1 c2), fun _ => ⟨rfl, rfl⟩⟩
