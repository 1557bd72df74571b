/-! two: the class's key, slot, rows of PARTS -/
theorem w_d (d : Nat) (hd : d < 9) : gr Z0.1 125 d = 130 + 12 * d := by
  have D : d = 0 ∨ d = 1 ∨ d = 2 ∨ d = 3 ∨ d = 4 ∨ d = 5 ∨ d = 6 ∨ d = 7 ∨ d = 8 := by omega
  rcases D with rfl | rfl | rfl | rfl | rfl | rfl | rfl | rfl | rfl
  · exact r_125_0
  · exact r_125_1
  · exact r_125_2
  · exact r_125_3
  · exact r_125_4
  · exact r_125_5
  · exact r_125_6
  · exact r_125_7
  · exact r_125_8
theorem cvg_d (d : Nat) (hd : d < 9) : CVg 95 105 (130 + 12 * d) := by
  have D : d = 0 ∨ d = 1 ∨ d = 2 ∨ d = 3 ∨ d = 4 ∨ d = 5 ∨ d = 6 ∨ d = 7 ∨ d = 8 := by omega
  rcases D with rfl | rfl | rfl | rfl | rfl | rfl | rfl | rfl | rfl
  · exact ⟨by decide, by decide, by decide, r_130_0, r_130_1, by decide, by decide⟩
  · exact ⟨by decide, by decide, by decide, r_142_0, r_142_1, by decide, by decide⟩
  · exact ⟨by decide, by decide, by decide, r_154_0, r_154_1, by decide, by decide⟩
  · exact ⟨by decide, by decide, by decide, r_166_0, r_166_1, by decide, by decide⟩
  · exact ⟨by decide, by decide, by decide, r_178_0, r_178_1, by decide, by decide⟩
  · exact ⟨by decide, by decide, by decide, r_190_0, r_190_1, by decide, by decide⟩
  · exact ⟨by decide, by decide, by decide, r_202_0, r_202_1, by decide, by decide⟩
  · exact ⟨by decide, by decide, by decide, r_214_0, r_214_1, by decide, by decide⟩
  · exact ⟨by decide, by decide, by decide, r_226_0, r_226_1, by decide, by decide⟩
theorem sh_or7 (x : Int64) (a z : Nat) (hx : x.toBitVec.toNat = a) (ha : a < 2 ^ 57) (hz : z < 128) : ((x <<< (((7 : Int32)).toInt64 &&& 63)) ||| (iz (z : Int)).toInt64).toBitVec.toNat = 128 * a + z := by
  have e8 : ((7 : Int32)).toInt64 &&& 63 = (7 : Int64) := by decide
  have s8 : ((7 : Int64).toBitVec.smod 64) = (7 : BitVec 64) := by decide
  have ez : (iz (z : Int)).toInt64.toBitVec.toNat = z := by
    have : ∀ z : Fin 128, (iz ((z.1 : Nat) : Int)).toInt64.toBitVec.toNat = z.1 := by decide +kernel
    exact this ⟨z, hz⟩
  rw [e8, Int64.toBitVec_or, BitVec.toNat_or, Int64.toBitVec_shiftLeft, s8, ez]
  have e : (x.toBitVec <<< (7 : BitVec 64)).toNat = 128 * a := by
    rw [BitVec.shiftLeft_eq', BitVec.toNat_shiftLeft, hx, Nat.shiftLeft_eq, show (7 : BitVec 64).toNat = 7 from rfl]
    rw [Nat.mod_eq_of_lt (by omega)]
    omega
  rw [e, show 128 * a = a <<< 7 by rw [Nat.shiftLeft_eq]; omega, ← Nat.shiftLeft_add_eq_or_of_lt (show z < 2 ^ 7 by omega)]
theorem sh_or84 (x : Int64) (a u v : Nat) (hx : x.toBitVec.toNat = a) (ha : a < 2 ^ 56) (hu : u < 16) (hv : v < 16) : (((x <<< (((8 : Int32)).toInt64 &&& 63)) ||| ((iz (u : Int)) <<< ((4 : Int32) &&& 31)).toInt64) ||| (iz (v : Int)).toInt64).toBitVec.toNat = 256 * a + 16 * u + v := by
  have e8 : ((8 : Int32)).toInt64 &&& 63 = (8 : Int64) := by decide
  have s8 : ((8 : Int64).toBitVec.smod 64) = (8 : BitVec 64) := by decide
  have eu : ((iz (u : Int)) <<< ((4 : Int32) &&& 31)).toInt64.toBitVec.toNat = 16 * u := by
    have : ∀ z : Fin 16, ((iz ((z.1 : Nat) : Int)) <<< ((4 : Int32) &&& 31)).toInt64.toBitVec.toNat = 16 * z.1 := by decide +kernel
    exact this ⟨u, hu⟩
  have ev : (iz (v : Int)).toInt64.toBitVec.toNat = v := by
    have : ∀ z : Fin 16, (iz ((z.1 : Nat) : Int)).toInt64.toBitVec.toNat = z.1 := by decide +kernel
    exact this ⟨v, hv⟩
  rw [e8, Int64.toBitVec_or, BitVec.toNat_or, Int64.toBitVec_or, BitVec.toNat_or, Int64.toBitVec_shiftLeft, s8, eu, ev]
  have e : (x.toBitVec <<< (8 : BitVec 64)).toNat = 256 * a := by
    rw [BitVec.shiftLeft_eq', BitVec.toNat_shiftLeft, hx, Nat.shiftLeft_eq, show (8 : BitVec 64).toNat = 8 from rfl]
    rw [Nat.mod_eq_of_lt (by omega)]
    omega
  rw [e, show 256 * a = a <<< 8 by rw [Nat.shiftLeft_eq]; omega, ← Nat.shiftLeft_add_eq_or_of_lt (show 16 * u < 2 ^ 8 by omega), show a <<< 8 + 16 * u = (16 * a + u) <<< 4 by rw [Nat.shiftLeft_eq, Nat.shiftLeft_eq]; omega, ← Nat.shiftLeft_add_eq_or_of_lt (show v < 2 ^ 4 by omega), Nat.shiftLeft_eq]
/-- the digit of one who stands, and the key's number -/
def sqD (c : DY) (w t i : Nat) : Nat := if gi c (w + 1) (12 * t + i) = -1 then 96 else (cx c w t i * 6 + cy c w t i).toNat
def kyN (c : DY) (w : Nat) : Nat → Nat
  | 0 => 0
  | t + 1 => 128 * (128 * kyN c w t + sqD c w t 0) + sqD c w t 1
theorem kyN_s (c : DY) (w t : Nat) : kyN c w (t + 1) = 128 * (128 * kyN c w t + sqD c w t 0) + sqD c w t 1 := rfl
theorem sqD_b {c : DY} {w L W t i : Nat} (hv : CV c 95 105 w L W 2) (ht : t < 4) (hi : i < 2) : sqD c w t i ≤ 96 := by
  obtain ⟨_, ⟨L16, W6, _⟩, _, _, h, _⟩ := hv
  obtain ⟨h1, h2, h3⟩ := h t i ht hi
  unfold sqD
  by_cases z : gi c (w + 1) (12 * t + i) = -1
  · rw [if_pos z]; omega
  · rw [if_neg z]
    rcases h3 with y | y
    · exact absurd (h1.trans (by rw [y.1]; rfl)) z
    · unfold inS at y
      omega
theorem kyN_b {c : DY} {w L W : Nat} (hv : CV c 95 105 w L W 2) : ∀ t : Nat, t ≤ 4 → kyN c w t < 128 ^ (2 * t)
  | 0, _ => by show 0 < 1; omega
  | t + 1, h => by
    have ih := kyN_b hv t (by omega)
    have a := sqD_b hv (t := t) (i := 0) (by omega) (by omega)
    have b := sqD_b hv (t := t) (i := 1) (by omega) (by omega)
    rw [kyN_s, show 2 * (t + 1) = 2 * t + 1 + 1 by omega, Nat.pow_succ, Nat.pow_succ]
    omega
theorem kyN_inj {a b : DY} {wa wb L W : Nat} (ha : CV a 95 105 wa L W 2) (hb : CV b 95 105 wb L W 2) : ∀ t : Nat, t ≤ 4 → kyN b wb t = kyN a wa t → ∀ s i : Nat, s < t → i < 2 → gi b (wb + 1) (12 * s + i) = gi a (wa + 1) (12 * s + i) ∧ gi b (wb + 2) (12 * s + i) = gi a (wa + 2) (12 * s + i)
  | 0, _, _ => fun s i hs => by omega
  | t + 1, h, e => by
    rw [kyN_s, kyN_s] at e
    have a0 := sqD_b ha (t := t) (i := 0) (by omega) (by omega)
    have a1 := sqD_b ha (t := t) (i := 1) (by omega) (by omega)
    have b0 := sqD_b hb (t := t) (i := 0) (by omega) (by omega)
    have b1 := sqD_b hb (t := t) (i := 1) (by omega) (by omega)
    have ih := kyN_inj ha hb t (by omega) (by omega)
    intro s i hs hi
    by_cases z : s = t
    · have ed : sqD b wb t i = sqD a wa t i := by
        have I : i = 0 ∨ i = 1 := by omega
        rcases I with rfl | rfl
        · omega
        · omega
      rw [z]
      obtain ⟨_, ⟨L16, W6, _⟩, _, _, ga, _⟩ := ha
      obtain ⟨_, _, _, _, gb, _⟩ := hb
      obtain ⟨x1, x2, x3⟩ := ga t i (by omega) hi
      obtain ⟨y1, y2, y3⟩ := gb t i (by omega) hi
      unfold sqD at ed
      unfold inS at x3 y3
      rw [x1, x2, y1, y2]
      rw [x1, y1] at ed
      by_cases u : cx a wa t i = -1
      · have uy : cy a wa t i = -1 := by omega
        rw [if_pos (show iz (cx a wa t i) = -1 from by rw [u]; rfl)] at ed
        by_cases v : cx b wb t i = -1
        · have vy : cy b wb t i = -1 := by omega
          rw [u, v, uy, vy]
          exact ⟨rfl, rfl⟩
        · rw [if_neg (show ¬ iz (cx b wb t i) = -1 from iz_nei (b := -1) (by omega))] at ed
          omega
      · rw [if_neg (show ¬ iz (cx a wa t i) = -1 from iz_nei (b := -1) (by omega))] at ed
        by_cases v : cx b wb t i = -1
        · rw [if_pos (show iz (cx b wb t i) = -1 from by rw [v]; rfl)] at ed
          omega
        · rw [if_neg (show ¬ iz (cx b wb t i) = -1 from iz_nei (b := -1) (by omega))] at ed
          have e1 : cx b wb t i = cx a wa t i := by omega
          have e2 : cy b wb t i = cy a wa t i := by omega
          rw [e1, e2]
          exact ⟨rfl, rfl⟩
    · exact ih s i (by omega) hi
theorem c_key17 (N : Nat) (c : DY) (w L W t : Nat) (K5) (hv : CV c 95 105 w L W 2) (ht : t < 4) : ∀ (q i k : Nat) (X : Int64) (A : Nat), i + q = 2 → q < k → X.toBitVec.toNat = A → A < 128 ^ (2 * t + i) → ∃ X' : Int64, F_X0_keyOf_17 Z0.1 N K5 k 124 w X (iz t) (iz i) c = K5 124 w X' (iz ((t + 1 : Nat) : Int)) c ∧ X'.toBitVec.toNat = (if i = 0 then 128 * (128 * A + sqD c w t 0) + sqD c w t 1 else if i = 1 then 128 * A + sqD c w t 1 else A) := by
  obtain ⟨hG, ⟨L16, W6, _⟩, _, _, hp, _⟩ := id hv
  intro q
  induction q with
  | zero =>
    intro i k X A hq hk hX hA
    obtain ⟨k, rfl⟩ : ∃ j, k = j + 1 := ⟨k - 1, by omega⟩
    obtain rfl : i = 2 := by omega
    refine ⟨X, ?_, ?_⟩
    · rw [F_X0_keyOf_17_s, if_pos (by decide), show iz (t : Int) + (1 : Int32) = iz ((t + 1 : Nat) : Int) from iz_add t 1]
    · rw [if_neg (by omega), if_neg (by omega)]; exact hX
  | succ q ih =>
    intro i k X A hq hk hX hA
    obtain ⟨k, rfl⟩ : ∃ j, k = j + 1 := ⟨k - 1, by omega⟩
    obtain ⟨p1, p2, p3⟩ := hp t i ht (by omega)
    have sb := sqD_b hv (t := t) (i := i) ht (by omega)
    have e12 : iz (t : Int) * (12 : Int32) + iz (i : Int) = iz ((12 * t + i : Nat) : Int) := by
      rw [show iz (t : Int) * (12 : Int32) = iz ((t * 12 : Nat) : Int) from iz_mul t 12, iz_add]
      exact congrArg iz (by omega)
    have hA57 : A < 2 ^ 57 := by
      have : 128 ^ (2 * t + i) ≤ 128 ^ 7 := Nat.pow_le_pow_right (by omega) (by omega)
      omega
    have nx := sh_or7 X A (sqD c w t i) hX hA57 (by omega)
    have hA2 : 128 * A + sqD c w t i < 128 ^ (2 * t + (i + 1)) := by
      rw [← Nat.add_assoc, Nat.pow_succ]
      omega
    obtain ⟨X', f1, f2⟩ := ih (i + 1) k _ (128 * A + sqD c w t i) (by omega) (by omega) nx hA2
    refine ⟨X', ?_, ?_⟩
    · rw [F_X0_keyOf_17_s, if_neg (show ¬ (2 : Int32) ≤ iz (i : Int) from iz_nle (a := 2) (by omega)), e12, if_pos (show ib (iz ((12 * t + i : Nat) : Int)) 48 from iz_ib (by omega)), cv_w1 hG, cv_w2 hG, tnn _ (12 * t + i) rfl (by omega)]
      by_cases z : gi c (w + 1) (12 * t + i) = -1
      · rw [if_pos z, F_X0_keyOf_67_s, show iz (i : Int) + (1 : Int32) = iz ((i + 1 : Nat) : Int) from iz_add i 1]
        have e : sqD c w t i = 96 := if_pos z
        rw [e] at f1
        exact f1
      · rw [if_neg z, if_pos (show ib (iz ((12 * t + i : Nat) : Int)) 48 from iz_ib (by omega)), if_pos (show ib (iz ((12 * t + i : Nat) : Int)) 48 from iz_ib (by omega)), F_X0_keyOf_67_s, show iz (i : Int) + (1 : Int32) = iz ((i + 1 : Nat) : Int) from iz_add i 1, p1, p2]
        have e : iz (cx c w t i) * (6 : Int32) + iz (cy c w t i) = iz (sqD c w t i : Nat) := by
          unfold sqD
          rw [if_neg z, show iz (cx c w t i) * (6 : Int32) = iz (cx c w t i * 6) from iz_mul _ 6, iz_add]
          rcases p3 with y | y
          · exact absurd (p1.trans (by rw [y.1]; rfl)) z
          · unfold inS at y
            exact congrArg iz (by omega)
        rw [e]
        exact f1
    · rw [f2]
      have I : i = 0 ∨ i = 1 := by omega
      rcases I with rfl | rfl
      · rw [if_neg (by omega), if_pos (by omega), if_pos rfl]
      · rw [if_neg (by omega), if_neg (by omega), if_neg (by omega), if_pos rfl]
theorem c_key (N : Nat) (hN : 20 ≤ N) (c : DY) (w L W lg v0 v1 : Nat) (hv : CV c 95 105 w L W 2) (lg4 : lg ≤ 4) (h7 : gi c 124 7 = iz lg) (hw0 : gi c (w + 7) 0 = iz v0) (hw1 : gi c (w + 7) 1 = iz v1) (v016 : v0 < 16) (v116 : v1 < 16) : ∃ X : Int64, F_X0_keyOf Z0.1 N 124 w c = some (X, c) ∧ X.toBitVec.toNat = if nr 3 (gi c 124 8) = 0 then kyN c w lg else 256 * kyN c w lg + 16 * v0 + v1 := by
  have hG := hv.1
  have H : ∀ (q t k : Nat) (X : Int64), t + q = lg → q < k → X.toBitVec.toNat = kyN c w t → ∃ X' : Int64, F_X0_keyOf_5 Z0.1 N k 124 w X (iz t) c = some (X', c) ∧ X'.toBitVec.toNat = if nr 3 (gi c 124 8) = 0 then kyN c w lg else 256 * kyN c w lg + 16 * v0 + v1 := by
    intro q
    induction q with
    | zero =>
      intro t k X hq hk hX
      obtain ⟨k, rfl⟩ : ∃ j, k = j + 1 := ⟨k - 1, by omega⟩
      obtain rfl : t = lg := by omega
      have b := kyN_b hv t lg4
      have b4 : 128 ^ (2 * t) ≤ 128 ^ 8 := Nat.pow_le_pow_right (by omega) (by omega)
      have F := F_X0_keyOf_5_s Z0.1 N k 124 w X (iz t) c
      rw [h7, if_pos (Int32.le_refl _)] at F
      by_cases z : nr 3 (gi c 124 8) = 0
      · rw [if_pos z] at F
        exact ⟨X, F, by rw [if_pos z]; exact hX⟩
      · rw [if_neg z, if_pos (by decide), if_pos (by decide), cv_w7 hG, show (0 : Int32).toNatClampNeg = 0 from rfl, show (1 : Int32).toNatClampNeg = 1 from rfl, hw0, hw1] at F
        exact ⟨_, F, by rw [if_neg z]; exact sh_or84 X _ v0 v1 hX (by omega) v016 v116⟩
    | succ q ih =>
      intro t k X hq hk hX
      obtain ⟨k, rfl⟩ : ∃ j, k = j + 1 := ⟨k - 1, by omega⟩
      have b := kyN_b hv t (by omega)
      obtain ⟨X', f1, f2⟩ := c_key17 N c w L W t (F_X0_keyOf_5 Z0.1 N k) hv (by omega) 2 0 N X (kyN c w t) (by omega) (by omega) hX b
      rw [if_pos rfl] at f2
      obtain ⟨X2, g1, g2⟩ := ih (t + 1) k X' (by omega) (by omega) f2
      refine ⟨X2, ?_, g2⟩
      rw [F_X0_keyOf_5_s, h7, if_neg (show ¬ iz (lg : Int) ≤ iz (t : Int) from iz_nle (by omega))]
      exact f1.trans g1
  obtain ⟨X, f1, f2⟩ := H lg 0 N 0 (by omega) (by omega) (by show (0 : Int64).toBitVec.toNat = 0; decide)
  exact ⟨X, (F_X0_keyOf_s Z0.1 N 124 w c).trans f1, f2⟩
theorem c_slotK (N : Nat) (X : Int64) (k : Int32) (c : DY) : ∃ s : Nat, s < 512 ∧ F_X0_slotOf Z0.1 N X k c = some (iz s, c) := by
  have H : ∀ u : UInt64, ∃ s : Nat, s < 512 ∧ ((u >>> (((55 : Int32)).toInt64.toUInt64 &&& Int64.toUInt64 63)).toInt64).toInt32 = iz s := fun u => by
    have e55 : ((55 : Int32)).toInt64.toUInt64 &&& Int64.toUInt64 63 = 55 := by decide
    rw [e55]
    have hs : (u >>> 55).toNat < 512 := by
      rw [UInt64.toNat_shiftRight, show (55 : UInt64).toNat % 64 = 55 by decide, Nat.shiftRight_eq_div_pow]
      have := u.toNat_lt
      omega
    refine ⟨(u >>> 55).toNat, hs, ?_⟩
    generalize hv : u >>> 55 = v at hs ⊢
    have B : ∀ z : Fin 512, ((UInt64.ofNat z.1).toInt64).toInt32 = iz (z.1 : Nat) := by decide +kernel
    have := B ⟨v.toNat, hs⟩
    rw [show UInt64.ofNat v.toNat = v from UInt64.ofNat_toNat] at this
    exact this
  obtain ⟨s, h1, h2⟩ := H ((((X * (10 : Int64)) + (k).toInt64) * (-7046029254386353131 : Int64))).toUInt64
  refine ⟨s, h1, ?_⟩
  rw [F_X0_slotOf_s, h2]
