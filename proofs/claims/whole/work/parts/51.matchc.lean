/-! match, the class's side -/
/-- how far two hats are apart: places a and b of the cells cx, cy -/
def farI (dy : DY) (cx cy a b : Nat) : Int32 := (if 0 ≤ gi dy cx a - gi dy cx b then gi dy cx a - gi dy cx b else 0 - (gi dy cx a - gi dy cx b)) + (if 0 ≤ gi dy cy a - gi dy cy b then gi dy cy a - gi dy cy b else 0 - (gi dy cy a - gi dy cy b))
/-- the least of v and of c b for the b below n that the set leaves open -/
def mfI (s : Nat) (c : Nat → Int32) (v : Int32) : Nat → Int32
  | 0 => v
  | b + 1 => if s.testBit b = false then (if c b < mfI s c v b then c b else mfI s c v b) else mfI s c v b
theorem r_35_3 : gr Z0.1 35 3 = 39 := (fb_of 35 (by decide)).2.2.2.1
theorem r_35_4 : gr Z0.1 35 4 = 40 := (fb_of 35 (by decide)).2.2.2.2
theorem c_coupled (N f h n s : Nat) (dy : DY) (hf : f < 7) (hh : h < 6) (hn : n < 6) (hs : s < 64) (ho : s ||| 2 ^ n < 64) : F_X1_coupled Z0.1 N 35 (iz f) (iz h) (iz n) (iz s) dy = some (farI dy 37 38 (6 * f + h) (6 * (f + 1) + n) + gi dy 40 (64 * (h + 1) + (s ||| 2 ^ n)), dy) := by
  have m1 : iz f * (6 : Int32) + iz h = iz (6 * f + h) := by
    rw [show (6 : Int32) = iz 6 from rfl, iz_mul, iz_add, Int.mul_comm]
  have m2 : (iz f + (1 : Int32)) * (6 : Int32) + iz n = iz (6 * (f + 1) + n) := by
    rw [show (6 : Int32) = iz 6 from rfl, show (1 : Int32) = iz 1 from rfl, iz_add, iz_mul, iz_add, Int.mul_comm]
  have m3 : (iz h + (1 : Int32)) * (64 : Int32) + (iz s ||| ((1 : Int32) <<< (iz n &&& 31))) = iz (64 * (h + 1) + (s ||| 2 ^ n : Nat)) := by
    rw [bt_or n hn s hs, show (64 : Int32) = iz 64 from rfl, show (1 : Int32) = iz 1 from rfl, iz_add, iz_mul, iz_add, Int.mul_comm]
  have i1 : ib (iz (6 * f + h)) 48 := (ib_iz (by omega) (by omega)).mpr ⟨by omega, by omega⟩
  have i2 : ib (iz (6 * (f + 1) + n)) 48 := (ib_iz (by omega) (by omega)).mpr ⟨by omega, by omega⟩
  have i3 : ib (iz (64 * (h + 1) + (s ||| 2 ^ n : Nat))) 448 := (ib_iz (by omega) (by omega)).mpr ⟨by omega, by omega⟩
  have t1 : (iz (6 * (f : Int) + h)).toNatClampNeg = 6 * f + h := by rw [iz_tn (by omega) (by omega)]; omega
  have t2 : (iz (6 * ((f : Int) + 1) + n)).toNatClampNeg = 6 * (f + 1) + n := by rw [iz_tn (by omega) (by omega)]; omega
  have t3 : (iz (64 * ((h : Int) + 1) + (s ||| 2 ^ n : Nat))).toNatClampNeg = 64 * (h + 1) + (s ||| 2 ^ n) := by rw [iz_tn (by omega) (by omega)]; omega
  rw [F_X1_coupled_s, m1, m2, m3, if_pos i1, if_pos i2, if_pos i1, if_pos i2, if_pos i3, t1, t2, t3, r_35_1, r_35_2, r_35_4]
  rfl
def cpC (dy : DY) (f h s n : Nat) : Int32 := farI dy 37 38 (6 * f + h) (6 * (f + 1) + n) + gi dy 40 (64 * (h + 1) + (s ||| 2 ^ n))
theorem c_lf (N f h s m : Nat) (v : Int32) (dy : DY) (hf : f < 7) (hh : h < 6) (hm : m < 7) (hs : s < 2 ^ m) (hn : gi dy 36 (f + 1) = iz m) : ∀ d k b : Nat, b + d = m → d < k → F_X1_leastFrom_21 Z0.1 N k 35 (iz f) (iz h) (iz s) (mfI s (cpC dy f h s) v b) (iz b) dy = some (mfI s (cpC dy f h s) v m, dy) := by
  have p64 : 2 ^ m ≤ 64 := Nat.pow_le_pow_right (n := 2) (by omega) (show m ≤ 6 by omega)
  have a1 : iz f + (1 : Int32) = iz (f + 1) := iz_add f 1
  have i1 : ib (iz ((f : Int) + 1)) 8 := (ib_iz (by omega) (by omega)).mpr ⟨by omega, by omega⟩
  have t1 : (iz ((f : Int) + 1)).toNatClampNeg = f + 1 := by rw [iz_tn (by omega) (by omega)]; omega
  intro d
  induction d with
  | zero =>
    intro k b hb hk
    obtain ⟨k, rfl⟩ : ∃ j, k = j + 1 := ⟨k - 1, by omega⟩
    obtain rfl : b = m := by omega
    rw [F_X1_leastFrom_21_s, a1, if_pos i1, t1, r_35_0, hn, if_pos (Int32.le_refl _)]
  | succ d ih =>
    intro k b hb hk
    obtain ⟨k, rfl⟩ : ∃ j, k = j + 1 := ⟨k - 1, by omega⟩
    have q : ¬ iz (m : Int) ≤ iz (b : Int) := by
      rw [iz_le (by omega) (by omega) (by omega) (by omega)]; omega
    have ih' := ih k (b + 1) (by omega) (by omega)
    have a2 : iz b + (1 : Int32) = iz ((b + 1 : Nat) : Int) := iz_add b 1
    rw [F_X1_leastFrom_21_s, a1, if_pos i1, t1, r_35_0, hn, if_neg q, a2]
    by_cases c : s.testBit b = false
    · have ho := bt_cmp3 m hm b (by omega) s hs c
      rw [if_pos ((bt_get b (by omega) s (by omega)).mpr c), c_coupled N f h b s dy hf hh (by omega) (by omega) (by omega), sb_eq]
      have e : mfI s (cpC dy f h s) v (b + 1) = if cpC dy f h s b < mfI s (cpC dy f h s) v b then cpC dy f h s b else mfI s (cpC dy f h s) v b := if_pos c
      rw [e] at ih'
      exact ih'
    · rw [if_neg (fun z => c ((bt_get b (by omega) s (by omega)).mp z))]
      have e : mfI s (cpC dy f h s) v (b + 1) = mfI s (cpC dy f h s) v b := if_neg c
      rw [e] at ih'
      exact ih'
theorem c_leastFrom (N f h s m : Nat) (g : Int32) (dy : DY) (hN : 8 ≤ N) (hf : f < 7) (hh : h < 6) (hm : m < 7) (hs : s < 2 ^ m) (hn : gi dy 36 (f + 1) = iz m) : F_X1_leastFrom Z0.1 N 35 (iz f) (iz h) (iz s) g dy = some (mfI s (cpC dy f h s) (g + gi dy 40 (64 * (h + 1) + s)) m, dy) := by
  have p64 : 2 ^ m ≤ 64 := Nat.pow_le_pow_right (n := 2) (by omega) (show m ≤ 6 by omega)
  have m3 : (iz h + (1 : Int32)) * (64 : Int32) + iz s = iz (64 * (h + 1) + s) := by
    rw [show (64 : Int32) = iz 64 from rfl, show (1 : Int32) = iz 1 from rfl, iz_add, iz_mul, iz_add, Int.mul_comm]
  have i3 : ib (iz (64 * ((h : Int) + 1) + s)) 448 := (ib_iz (by omega) (by omega)).mpr ⟨by omega, by omega⟩
  have t3 : (iz (64 * ((h : Int) + 1) + s)).toNatClampNeg = 64 * (h + 1) + s := by rw [iz_tn (by omega) (by omega)]; omega
  rw [F_X1_leastFrom_s, m3, if_pos i3, t3, r_35_4]
  exact c_lf N f h s m _ dy hf hh hm hs hn m N 0 (by omega) (by omega)
