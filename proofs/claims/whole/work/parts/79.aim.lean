/-! a tenth, the aims -/
def mixD (c m : DY) : DY := (fun x k => if x < 510 then gi c x k else gi m x k, m.2)
theorem mix_c (c m : DY) (x k : Nat) (h : x < 510) : gi (mixD c m) x k = gi c x k := if_pos h
theorem mix_m (c m : DY) (x k : Nat) (h : 510 ≤ x) : gi (mixD c m) x k = gi m x k := if_neg (by omega)
theorem lkC_mix (w : Nat) (c m : DY) : lkC w (mixD c m) c c := ⟨fun x k _ h => (mix_c c m x k h.2).symm, fun _ _ _ _ => rfl, fun _ _ => rfl⟩
theorem lkM_mix (c m : DY) : lkM (mixD c m) m m := ⟨fun x k h _ _ => (mix_m c m x k (by omega)).symm, fun _ _ _ _ _ => rfl, fun _ _ => rfl⟩
/-- the class's aim, the reference's, by the hand -/
def aimR (ac am hd : Int32) : Prop := (ac = 3 ∧ (hd = 1 ∧ am = 1 ∨ hd = 2 ∧ am = 2)) ∨ (am = ac ∧ (ac = 0 ∨ ac = 1 ∨ ac = 2 ∨ ac = 5))
def frC (w i : Nat) (c c' : DY) : Prop := (∀ x k : Nat, ¬ (x = w ∧ (k = 3 ∨ k = 4 ∨ k = 8)) → ¬ (x = w + 8 ∧ k = i) → x ≠ w + 10 → gi c' x k = gi c x k) ∧ ∀ x k : Nat, gl c' x k = gl c x k
def frM (r : Nat) (m m' : DY) : Prop := (∀ x k : Nat, ¬ (x = 510 ∧ (k = 42 ∨ k = 47)) → x ≠ 532 → x ≠ 533 → ¬ (x = 531 ∧ (k = 720 * r + 4 ∨ k = 720 * r + 5)) → gi m' x k = gi m x k) ∧ ∀ x k : Nat, gl m' x k = gl m x k
/-- the bonds of a walk stay where no cell of theirs changes but the seed and the lots -/
theorem RRx_seed {d e : DY} {g l w r : Nat} {ι : Nat → Nat} {L W n M : Nat} (hG : CVg g l w) (h : RRx d g l w r ι L W n M) (h1 : ∀ x k : Nat, x < 510 → ¬ (x = w ∧ (k = 3 ∨ k = 4 ∨ k = 8)) → x ≠ w + 8 → x ≠ w + 10 → gi e x k = gi d x k) (h2 : ∀ i : Nat, i < 720 → i ≠ 4 → i ≠ 5 → gi e 531 (720 * r + i) = gi d 531 (720 * r + i)) (h4 : gi e w 3 = gi e 531 (720 * r + 4)) (h5 : gi e w 4 = gi e 531 (720 * r + 5)) : RRx e g l w r ι L W n M := by
  obtain ⟨dj, dj2⟩ := cv_dj hG
  have hp : ∀ p ∈ pC, 1 ≤ p.1 ∧ p.1 ≤ 9 := by decide
  have hl : ∀ p ∈ lC, 1 ≤ p.1 ∧ p.1 ≤ 6 := by decide
  have hw : ∀ p ∈ wH, 1 ≤ p.1 ∧ p.1 ≤ 11 ∧ p.1 ≠ 8 ∧ p.1 ≠ 10 := by decide
  have hwF : ∀ f ∈ wG, f ≠ 3 ∧ f ≠ 4 ∧ f ≠ 8 := by decide
  refine RRx_gen h ⟨fun f _ => h1 _ _ (by omega) (by omega) (by omega) (by omega), fun p hp' k hk => ?_⟩ ⟨fun f _ => h1 _ _ (by omega) (by omega) (by omega) (by omega), fun p hp' k hk => ?_⟩ ⟨fun f hf => ?_, fun p hp' k hk => ?_⟩ h2 h4 h5
  · have := hp p hp'
    exact h1 _ _ (by omega) (by omega) (by omega) (by omega)
  · have := hl p hp'
    exact h1 _ _ (by omega) (by omega) (by omega) (by omega)
  · have := hwF f hf
    exact h1 _ _ (by omega) (by omega) (by omega) (by omega)
  · have := hw p hp'
    exact h1 _ _ (by omega) (by omega) (by omega) (by omega)
theorem DEED_b {d : DY} {g l w L W n R i : Nat} {x : Int32} {rn : Int32} {c o : Nat} (hL : LR d l rn c o) (hR : gi d l 0 = iz R) (hR16 : R ≤ 16) (h : DEED d g l w L W n R i x) : ∃ k : Nat, k ≤ 5 ∧ x = iz k := by
  rcases h with ⟨_, z⟩ | ⟨_, v, _, hD⟩
  · exact ⟨5, by omega, z⟩
  · rcases hD with ⟨z, _⟩ | ⟨q, hq, _, _, z⟩
    · exact ⟨5, by omega, z⟩
    · obtain ⟨R', r0, r1, r2, r3⟩ := hL
      have hRR : R' = R := by
        rw [r1] at hR
        have := (iz_inj (by omega) (by omega) (by omega) (by omega)).mp hR
        omega
      obtain ⟨⟨dd, d5, e1, _⟩, _⟩ := r3 q (by omega)
      exact ⟨dd, d5, z.trans e1⟩
theorem c_draw (N w : Nat) (c : DY) : F_X8_draw Z0.1 N w c = some (if ((gi c w 3 * 1103515245 + 12345) >>> ((16 : Int32) &&& 31)) &&& 1 = 0 then 1 else 0, si (si c w 3 (gi c w 3 * 1103515245 + 12345)) w 4 (gi c w 4 + 1)) := by
  have e4 : gi (si c w 3 (gi c w 3 * 1103515245 + 12345)) w 4 = gi c w 4 := by rw [gi_si_if, if_neg (by omega)]
  have e3 : gi (si (si c w 3 (gi c w 3 * 1103515245 + 12345)) w 4 (gi c w 4 + 1)) w 3 = gi c w 3 * 1103515245 + 12345 := by
    rw [gi_si_if, if_neg (by omega), gi_si_if, if_pos ⟨rfl, rfl⟩]
  rw [F_X8_draw_s, bd_eq, bd_eq, e4, e3]
  by_cases q : ((gi c w 3 * 1103515245 + 12345) >>> ((16 : Int32) &&& 31)) &&& 1 = 0
  · rw [if_pos q, if_pos q]
  · rw [if_neg q, if_neg q]
theorem m_lot (N r : Nat) (m : DY) (r14 : r < 14) (h45 : gi m 510 45 = 0) : ∃ m' : DY, F_X10_lotIsRight Z0.1 N 510 (iz r) m = some (if ((gi m 531 (720 * r + 4) * 1103515245 + 12345) >>> ((16 : Int32) &&& 31)) &&& 1 = 0 then 1 else 0, m') ∧ frM r m m' ∧ gi m' 531 (720 * r + 4) = gi m 531 (720 * r + 4) * 1103515245 + 12345 ∧ gi m' 531 (720 * r + 5) = gi m 531 (720 * r + 5) + 1 := by
  have a4 : (720 : Int32) * iz (r : Int) + (4 : Int32) = iz ((720 * r + 4 : Nat) : Int) := m_row r 4
  have a5 : (720 : Int32) * iz (r : Int) + (5 : Int32) = iz ((720 * r + 5 : Nat) : Int) := m_row r 5
  have j4 := ibr (720 * r + 4) (by omega)
  have j5 := ibr (720 * r + 5) (by omega)
  have t4 : (iz ((720 * r + 4 : Nat) : Int)).toNatClampNeg = 720 * r + 4 := tnn _ _ rfl (by omega)
  have t5 : (iz ((720 * r + 5 : Nat) : Int)).toNatClampNeg = 720 * r + 5 := tnn _ _ rfl (by omega)
  have e5 : gi (si m 510 47 (gi m 510 47 + 1)) 531 (720 * r + 5) = gi m 531 (720 * r + 5) := by rw [gi_si_if, if_neg (by omega)]
  have e45 : gi (si (si m 510 47 (gi m 510 47 + 1)) 531 (720 * r + 5) (gi m 531 (720 * r + 5) + 1)) 510 45 = 0 := by
    rw [gi_si_if, if_neg (by omega), gi_si_if, if_neg (by omega)]; exact h45
  have e4 : gi (si (si m 510 47 (gi m 510 47 + 1)) 531 (720 * r + 5) (gi m 531 (720 * r + 5) + 1)) 531 (720 * r + 4) = gi m 531 (720 * r + 4) := by
    rw [gi_si_if, if_neg (by omega), gi_si_if, if_neg (by omega)]
  refine ⟨si (si (si m 510 47 (gi m 510 47 + 1)) 531 (720 * r + 5) (gi m 531 (720 * r + 5) + 1)) 531 (720 * r + 4) (gi m 531 (720 * r + 4) * 1103515245 + 12345), ?_, ⟨fun x k q1 q2 q3 q4 => ?_, fun _ _ => rfl⟩, ?_, ?_⟩
  · rw [F_X10_lotIsRight_s, bd_eq, a5, if_pos j5, if_pos j5, bd_eq, r_510_39, t5, e5, e45, if_pos (by decide), a4, if_pos j4, if_pos j4, bd_eq, t4, e4]
    by_cases q : ((gi m 531 (720 * r + 4) * 1103515245 + 12345) >>> ((16 : Int32) &&& 31)) &&& 1 = 0
    · rw [if_pos q, if_pos q]
    · rw [if_neg q, if_neg q]
  · rw [gi_si_if, if_neg (by omega), gi_si_if, if_neg (by omega), gi_si_if, if_neg (by omega)]
  · rw [gi_si_if, if_pos ⟨rfl, rfl⟩]
  · rw [gi_si_if, if_neg (by omega), gi_si_if, if_pos ⟨rfl, rfl⟩]
