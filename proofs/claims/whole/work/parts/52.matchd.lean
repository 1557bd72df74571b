/-! match, the class's side: the partner -/
/-- the first b from m - d on that the set leaves open and that costs v -/
def lpI (s : Nat) (c : Nat → Int32) (v : Int32) (m : Nat) : Nat → Int32
  | 0 => -1
  | d + 1 => if s.testBit (m - (d + 1)) = false then (if c (m - (d + 1)) = v then iz ((m - (d + 1) : Nat) : Int) else lpI s c v m d) else lpI s c v m d
theorem c_lp (N f h s m : Nat) (dy : DY) (hf : f < 7) (hh : h < 6) (hm : m < 7) (hs : s < 2 ^ m) (hn : gi dy 36 (f + 1) = iz m) : ∀ d k : Nat, d ≤ m → d < k → F_X1_leastPartner_3 Z0.1 N k 35 (iz f) (iz h) (iz s) (iz ((m - d : Nat) : Int)) dy = some (lpI s (cpC dy f h s) (gi dy 40 (64 * h + s)) m d, dy) := by
  have p64 : 2 ^ m ≤ 64 := Nat.pow_le_pow_right (n := 2) (by omega) (show m ≤ 6 by omega)
  have a1 : iz f + (1 : Int32) = iz (f + 1) := iz_add f 1
  have i1 : ib (iz ((f : Int) + 1)) 8 := (ib_iz (by omega) (by omega)).mpr ⟨by omega, by omega⟩
  have t1 : (iz ((f : Int) + 1)).toNatClampNeg = f + 1 := by rw [iz_tn (by omega) (by omega)]; omega
  have m3 : iz h * (64 : Int32) + iz s = iz (64 * h + s) := by
    rw [show (64 : Int32) = iz 64 from rfl, iz_mul, iz_add, Int.mul_comm]
  have i3 : ib (iz (64 * (h : Int) + s)) 448 := (ib_iz (by omega) (by omega)).mpr ⟨by omega, by omega⟩
  have t3 : (iz (64 * (h : Int) + s)).toNatClampNeg = 64 * h + s := by rw [iz_tn (by omega) (by omega)]; omega
  intro d
  induction d with
  | zero =>
    intro k hd hk
    obtain ⟨k, rfl⟩ : ∃ j, k = j + 1 := ⟨k - 1, by omega⟩
    rw [F_X1_leastPartner_3_s, a1, if_pos i1, t1, r_35_0, hn, if_pos (show iz (m : Int) ≤ iz ((m - 0 : Nat) : Int) from Int32.le_refl _)]
    rfl
  | succ d ih =>
    intro k hd hk
    obtain ⟨k, rfl⟩ : ∃ j, k = j + 1 := ⟨k - 1, by omega⟩
    have q : ¬ iz (m : Int) ≤ iz ((m - (d + 1) : Nat) : Int) := by
      rw [iz_le (by omega) (by omega) (by omega) (by omega)]; omega
    have ih' := ih k (by omega) (by omega)
    have a2 : iz ((m - (d + 1) : Nat) : Int) + (1 : Int32) = iz ((m - d : Nat) : Int) := by
      rw [show (1 : Int32) = iz 1 from rfl, iz_add]
      congr 1
      omega
    rw [F_X1_leastPartner_3_s, a1, if_pos i1, t1, r_35_0, hn, if_neg q]
    by_cases c : s.testBit (m - (d + 1)) = false
    · have ho := bt_cmp3 m hm (m - (d + 1)) (by omega) s hs c
      rw [if_pos ((bt_get (m - (d + 1)) (by omega) s (by omega)).mpr c), F_X1_leastPartner_30_s, if_neg (by decide : ¬ (1 : Int32) = 0), c_coupled N f h (m - (d + 1)) s dy hf hh (by omega) (by omega) (by omega), sb_eq, m3, if_pos i3, t3, r_35_4, a2]
      show (if cpC dy f h s (m - (d + 1)) = gi dy 40 (64 * h + s) then some (iz ((m - (d + 1) : Nat) : Int), dy) else F_X1_leastPartner_3 Z0.1 N k 35 (iz f) (iz h) (iz s) (iz ((m - d : Nat) : Int)) dy) = some ((if s.testBit (m - (d + 1)) = false then (if cpC dy f h s (m - (d + 1)) = gi dy 40 (64 * h + s) then iz ((m - (d + 1) : Nat) : Int) else lpI s (cpC dy f h s) (gi dy 40 (64 * h + s)) m d) else lpI s (cpC dy f h s) (gi dy 40 (64 * h + s)) m d), dy)
      rw [if_pos c]
      by_cases e : cpC dy f h s (m - (d + 1)) = gi dy 40 (64 * h + s)
      · rw [if_pos e, if_pos e]
      · rw [if_neg e, if_neg e, ih']
    · rw [if_neg (fun z => c ((bt_get (m - (d + 1)) (by omega) s (by omega)).mp z)), F_X1_leastPartner_30_s, if_pos rfl, a2]
      show F_X1_leastPartner_3 Z0.1 N k 35 (iz f) (iz h) (iz s) (iz ((m - d : Nat) : Int)) dy = some ((if s.testBit (m - (d + 1)) = false then (if cpC dy f h s (m - (d + 1)) = gi dy 40 (64 * h + s) then iz ((m - (d + 1) : Nat) : Int) else lpI s (cpC dy f h s) (gi dy 40 (64 * h + s)) m d) else lpI s (cpC dy f h s) (gi dy 40 (64 * h + s)) m d), dy)
      rw [if_neg c, ih']
theorem c_leastPartner (N f h s m : Nat) (dy : DY) (hN : 8 ≤ N) (hf : f < 7) (hh : h < 6) (hm : m < 7) (hs : s < 2 ^ m) (hn : gi dy 36 (f + 1) = iz m) : F_X1_leastPartner Z0.1 N 35 (iz f) (iz h) (iz s) dy = some (lpI s (cpC dy f h s) (gi dy 40 (64 * h + s)) m m, dy) := by
  have e := c_lp N f h s m dy hf hh hm hs hn m N (by omega) (by omega)
  rw [Nat.sub_self] at e
  rw [F_X1_leastPartner_s]
  exact e
