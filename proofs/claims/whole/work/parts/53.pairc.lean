/-! words for whole numbers in the goal -/
theorem l_0 : (0 : Int32) = iz 0 := rfl
theorem l_1 : (1 : Int32) = iz 1 := rfl
theorem l_2 : (2 : Int32) = iz 2 := rfl
theorem l_3 : (3 : Int32) = iz 3 := rfl
theorem l_4 : (4 : Int32) = iz 4 := rfl
theorem l_5 : (5 : Int32) = iz 5 := rfl
theorem l_6 : (6 : Int32) = iz 6 := rfl
theorem l_7 : (7 : Int32) = iz 7 := rfl
theorem l_8 : (8 : Int32) = iz 8 := rfl
theorem l_9 : (9 : Int32) = iz 9 := rfl
theorem l_10 : (10 : Int32) = iz 10 := rfl
theorem l_11 : (11 : Int32) = iz 11 := rfl
theorem l_12 : (12 : Int32) = iz 12 := rfl
theorem l_13 : (13 : Int32) = iz 13 := rfl
theorem l_15 : (15 : Int32) = iz 15 := rfl
theorem l_16 : (16 : Int32) = iz 16 := rfl
theorem l_20 : (20 : Int32) = iz 20 := rfl
theorem l_24 : (24 : Int32) = iz 24 := rfl
theorem l_30 : (30 : Int32) = iz 30 := rfl
theorem l_32 : (32 : Int32) = iz 32 := rfl
theorem l_40 : (40 : Int32) = iz 40 := rfl
theorem l_48 : (48 : Int32) = iz 48 := rfl
theorem l_50 : (50 : Int32) = iz 50 := rfl
theorem l_60 : (60 : Int32) = iz 60 := rfl
theorem l_64 : (64 : Int32) = iz 64 := rfl
theorem l_80 : (80 : Int32) = iz 80 := rfl
theorem l_99 : (99 : Int32) = iz 99 := rfl
theorem l_100 : (100 : Int32) = iz 100 := rfl
theorem l_120 : (120 : Int32) = iz 120 := rfl
theorem l_150 : (150 : Int32) = iz 150 := rfl
theorem l_200 : (200 : Int32) = iz 200 := rfl
theorem l_300 : (300 : Int32) = iz 300 := rfl
theorem l_500 : (500 : Int32) = iz 500 := rfl
theorem l_600 : (600 : Int32) = iz 600 := rfl
theorem l_900 : (900 : Int32) = iz 900 := rfl
theorem l_m1 : (-1 : Int32) = iz (-1) := rfl
theorem tnn (z : Int) (n : Nat) (h : z = n) (h2 : n < 2147483648) : (iz z).toNatClampNeg = n := by
  rw [h, iz_tn (by omega) (by omega)]; omega
theorem i32_neg (x : Int32) : -x = 0 - x := by
  obtain ⟨z, rfl, _, _⟩ := iz_ex x
  rw [iz_neg, l_0, iz_sub]
  congr 1
  omega
theorem iz_ib {a : Int} {n : Nat} (h : 0 ≤ a ∧ a < n ∧ a < 2147483648) : ib (iz a) n := (ib_iz (by omega) (by omega)).mpr ⟨h.1, h.2.1⟩
theorem iz_nib {a : Int} {n : Nat} (h : (a < 0 ∨ n ≤ a) ∧ -2147483648 ≤ a ∧ a < 2147483648) : ¬ ib (iz a) n := fun q => by
  have := (ib_iz (by omega) (by omega)).mp q; omega
theorem iz_lei {a b : Int} (h : a ≤ b ∧ -2147483648 ≤ a ∧ b < 2147483648) : iz a ≤ iz b := (iz_le (by omega) (by omega) (by omega) (by omega)).mpr h.1
theorem iz_nle {a b : Int} (h : b < a ∧ -2147483648 ≤ b ∧ a < 2147483648) : ¬ iz a ≤ iz b := fun q => by
  have := (iz_le (by omega) (by omega) (by omega) (by omega)).mp q; omega
theorem iz_lti {a b : Int} (h : a < b ∧ -2147483648 ≤ a ∧ b < 2147483648) : iz a < iz b := (iz_lt (by omega) (by omega) (by omega) (by omega)).mpr h.1
theorem iz_nlt {a b : Int} (h : b ≤ a ∧ -2147483648 ≤ b ∧ a < 2147483648) : ¬ iz a < iz b := fun q => by
  have := (iz_lt (by omega) (by omega) (by omega) (by omega)).mp q; omega
theorem iz_nei {a b : Int} (h : (a < b ∨ b < a) ∧ -2147483648 ≤ a ∧ a < 2147483648 ∧ -2147483648 ≤ b ∧ b < 2147483648) : ¬ iz a = iz b := fun q => by
  have := (iz_inj (by omega) (by omega) (by omega) (by omega)).mp q; omega
theorem iz_nlt0 {a : Int} (h : 0 ≤ a ∧ a < 2147483648) : ¬ iz a < 0 := iz_nlt (b := 0) (by omega)
theorem iz_lt0 {a : Int} (h : a < 0 ∧ -2147483648 ≤ a) : iz a < 0 := iz_lti (b := 0) (by omega)
/-! match, the class's side: pair -/
def bcX (a0 : Int32) : Int32 := ((((((((a0 - ((((a0).toUInt32 >>> (((1 : Int32)).toUInt32 &&& Int32.toUInt32 31)).toInt32) &&& (1431655765 : Int32))) &&& (858993459 : Int32)) + (((((a0 - ((((a0).toUInt32 >>> (((1 : Int32)).toUInt32 &&& Int32.toUInt32 31)).toInt32) &&& (1431655765 : Int32)))).toUInt32 >>> (((2 : Int32)).toUInt32 &&& Int32.toUInt32 31)).toInt32) &&& (858993459 : Int32))) + ((((((a0 - ((((a0).toUInt32 >>> (((1 : Int32)).toUInt32 &&& Int32.toUInt32 31)).toInt32) &&& (1431655765 : Int32))) &&& (858993459 : Int32)) + (((((a0 - ((((a0).toUInt32 >>> (((1 : Int32)).toUInt32 &&& Int32.toUInt32 31)).toInt32) &&& (1431655765 : Int32)))).toUInt32 >>> (((2 : Int32)).toUInt32 &&& Int32.toUInt32 31)).toInt32) &&& (858993459 : Int32)))).toUInt32 >>> (((4 : Int32)).toUInt32 &&& Int32.toUInt32 31)).toInt32)) &&& (252645135 : Int32)) + ((((((((a0 - ((((a0).toUInt32 >>> (((1 : Int32)).toUInt32 &&& Int32.toUInt32 31)).toInt32) &&& (1431655765 : Int32))) &&& (858993459 : Int32)) + (((((a0 - ((((a0).toUInt32 >>> (((1 : Int32)).toUInt32 &&& Int32.toUInt32 31)).toInt32) &&& (1431655765 : Int32)))).toUInt32 >>> (((2 : Int32)).toUInt32 &&& Int32.toUInt32 31)).toInt32) &&& (858993459 : Int32))) + ((((((a0 - ((((a0).toUInt32 >>> (((1 : Int32)).toUInt32 &&& Int32.toUInt32 31)).toInt32) &&& (1431655765 : Int32))) &&& (858993459 : Int32)) + (((((a0 - ((((a0).toUInt32 >>> (((1 : Int32)).toUInt32 &&& Int32.toUInt32 31)).toInt32) &&& (1431655765 : Int32)))).toUInt32 >>> (((2 : Int32)).toUInt32 &&& Int32.toUInt32 31)).toInt32) &&& (858993459 : Int32)))).toUInt32 >>> (((4 : Int32)).toUInt32 &&& Int32.toUInt32 31)).toInt32)) &&& (252645135 : Int32))).toUInt32 >>> (((8 : Int32)).toUInt32 &&& Int32.toUInt32 31)).toInt32)) + (((((((((a0 - ((((a0).toUInt32 >>> (((1 : Int32)).toUInt32 &&& Int32.toUInt32 31)).toInt32) &&& (1431655765 : Int32))) &&& (858993459 : Int32)) + (((((a0 - ((((a0).toUInt32 >>> (((1 : Int32)).toUInt32 &&& Int32.toUInt32 31)).toInt32) &&& (1431655765 : Int32)))).toUInt32 >>> (((2 : Int32)).toUInt32 &&& Int32.toUInt32 31)).toInt32) &&& (858993459 : Int32))) + ((((((a0 - ((((a0).toUInt32 >>> (((1 : Int32)).toUInt32 &&& Int32.toUInt32 31)).toInt32) &&& (1431655765 : Int32))) &&& (858993459 : Int32)) + (((((a0 - ((((a0).toUInt32 >>> (((1 : Int32)).toUInt32 &&& Int32.toUInt32 31)).toInt32) &&& (1431655765 : Int32)))).toUInt32 >>> (((2 : Int32)).toUInt32 &&& Int32.toUInt32 31)).toInt32) &&& (858993459 : Int32)))).toUInt32 >>> (((4 : Int32)).toUInt32 &&& Int32.toUInt32 31)).toInt32)) &&& (252645135 : Int32)) + ((((((((a0 - ((((a0).toUInt32 >>> (((1 : Int32)).toUInt32 &&& Int32.toUInt32 31)).toInt32) &&& (1431655765 : Int32))) &&& (858993459 : Int32)) + (((((a0 - ((((a0).toUInt32 >>> (((1 : Int32)).toUInt32 &&& Int32.toUInt32 31)).toInt32) &&& (1431655765 : Int32)))).toUInt32 >>> (((2 : Int32)).toUInt32 &&& Int32.toUInt32 31)).toInt32) &&& (858993459 : Int32))) + ((((((a0 - ((((a0).toUInt32 >>> (((1 : Int32)).toUInt32 &&& Int32.toUInt32 31)).toInt32) &&& (1431655765 : Int32))) &&& (858993459 : Int32)) + (((((a0 - ((((a0).toUInt32 >>> (((1 : Int32)).toUInt32 &&& Int32.toUInt32 31)).toInt32) &&& (1431655765 : Int32)))).toUInt32 >>> (((2 : Int32)).toUInt32 &&& Int32.toUInt32 31)).toInt32) &&& (858993459 : Int32)))).toUInt32 >>> (((4 : Int32)).toUInt32 &&& Int32.toUInt32 31)).toInt32)) &&& (252645135 : Int32))).toUInt32 >>> (((8 : Int32)).toUInt32 &&& Int32.toUInt32 31)).toInt32))).toUInt32 >>> (((16 : Int32)).toUInt32 &&& Int32.toUInt32 31)).toInt32)) &&& (63 : Int32))
def pc (s : Nat) : Nat := s % 2 + s / 2 % 2 + s / 4 % 2 + s / 8 % 2 + s / 16 % 2 + s / 32 % 2
theorem bcX_eq : ∀ s : Nat, s < 64 → bcX (iz (s : Int)) = iz ((pc s : Nat) : Int) := by decide +kernel
theorem c_bits (S : ST) (N s : Nat) (dy : DY) (hs : s < 64) : F_J6_bitCount_0f7a4 S N (iz s) dy = some (iz (pc s : Nat), dy) := by
  rw [← bcX_eq s hs]
  exact F_J6_bitCount_0f7a4_s S N (iz s) dy
/-- the least cost of d hats more, the set s given away -/
def tt (fa : Nat → Nat → Int32) (g : Int32) (n m : Nat) : Nat → Nat → Int32
  | 0, s => g * (iz m - iz (pc s : Nat))
  | d + 1, s => mfI s (fun b => fa (n - (d + 1)) b + tt fa g n m d (s ||| 2 ^ b)) (g + tt fa g n m d s) m
theorem mfI_congr (s : Nat) (c c' : Nat → Int32) (v : Int32) : ∀ m : Nat, (∀ b, b < m → s.testBit b = false → c b = c' b) → mfI s c v m = mfI s c' v m
  | 0, _ => rfl
  | m + 1, h => by
    have ih := mfI_congr s c c' v m (fun b hb => h b (by omega))
    show (if s.testBit m = false then (if c m < mfI s c v m then c m else mfI s c v m) else mfI s c v m) = (if s.testBit m = false then (if c' m < mfI s c' v m then c' m else mfI s c' v m) else mfI s c' v m)
    by_cases q : s.testBit m = false
    · rw [if_pos q, if_pos q, ih, h m (by omega) q]
    · rw [if_neg q, if_neg q, ih]
theorem lpI_congr (s : Nat) (c c' : Nat → Int32) (v : Int32) (m : Nat) : ∀ d : Nat, d ≤ m → (∀ b, b < m → s.testBit b = false → c b = c' b) → lpI s c v m d = lpI s c' v m d
  | 0, _, _ => rfl
  | d + 1, hd, h => by
    have ih := lpI_congr s c c' v m d (by omega) h
    show (if s.testBit (m - (d + 1)) = false then (if c (m - (d + 1)) = v then iz ((m - (d + 1) : Nat) : Int) else lpI s c v m d) else lpI s c v m d) = (if s.testBit (m - (d + 1)) = false then (if c' (m - (d + 1)) = v then iz ((m - (d + 1) : Nat) : Int) else lpI s c' v m d) else lpI s c' v m d)
    by_cases q : s.testBit (m - (d + 1)) = false
    · rw [if_pos q, if_pos q, ih, h (m - (d + 1)) (by omega) q]
    · rw [if_neg q, if_neg q, ih]
theorem lpI_cases (s : Nat) (c : Nat → Int32) (v : Int32) (m : Nat) : ∀ d : Nat, d ≤ m → lpI s c v m d = -1 ∨ ∃ b : Nat, b < m ∧ s.testBit b = false ∧ lpI s c v m d = iz b
  | 0, _ => Or.inl rfl
  | d + 1, hd => by
    have ih := lpI_cases s c v m d (by omega)
    show (if s.testBit (m - (d + 1)) = false then (if c (m - (d + 1)) = v then iz ((m - (d + 1) : Nat) : Int) else lpI s c v m d) else lpI s c v m d) = -1 ∨ ∃ b : Nat, b < m ∧ s.testBit b = false ∧ (if s.testBit (m - (d + 1)) = false then (if c (m - (d + 1)) = v then iz ((m - (d + 1) : Nat) : Int) else lpI s c v m d) else lpI s c v m d) = iz b
    by_cases q : s.testBit (m - (d + 1)) = false
    · rw [if_pos q]
      by_cases e : c (m - (d + 1)) = v
      · rw [if_pos e]
        exact Or.inr ⟨m - (d + 1), by omega, q, rfl⟩
      · rw [if_neg e]; exact ih
    · rw [if_neg q]; exact ih
/-- the partner of a hat h, the set s given away -/
def pp (fa : Nat → Nat → Int32) (g : Int32) (n m h s : Nat) : Int32 := lpI s (fun b => fa h b + tt fa g n m (n - (h + 1)) (s ||| 2 ^ b)) (tt fa g n m (n - h) s) m m
/-- the set that is given away before the hat h -/
def gw (fa : Nat → Nat → Int32) (g : Int32) (n m : Nat) : Nat → Nat
  | 0 => 0
  | h + 1 => if pp fa g n m h (gw fa g n m h) = -1 then gw fa g n m h else gw fa g n m h ||| 2 ^ (pp fa g n m h (gw fa g n m h)).toNatClampNeg
theorem gw_lt (fa : Nat → Nat → Int32) (g : Int32) (n m : Nat) (hm : m < 7) : ∀ h : Nat, gw fa g n m h < 2 ^ m
  | 0 => Nat.two_pow_pos m
  | h + 1 => by
    have ih := gw_lt fa g n m hm h
    show (if pp fa g n m h (gw fa g n m h) = -1 then gw fa g n m h else gw fa g n m h ||| 2 ^ (pp fa g n m h (gw fa g n m h)).toNatClampNeg) < 2 ^ m
    by_cases q : pp fa g n m h (gw fa g n m h) = -1
    · rw [if_pos q]; exact ih
    · rw [if_neg q]
      rcases lpI_cases (gw fa g n m h) (fun b => fa h b + tt fa g n m (n - (h + 1)) (gw fa g n m h ||| 2 ^ b)) (tt fa g n m (n - h) (gw fa g n m h)) m m (Nat.le_refl m) with e | ⟨b, hb, hb2, e⟩
      · exact absurd e q
      · rw [show pp fa g n m h (gw fa g n m h) = iz b from e, tnn _ b rfl (by omega)]
        exact bt_cmp3 m hm b hb _ ih hb2
def faC (dy : DY) (f h b : Nat) : Int32 := farI dy 37 38 (6 * f + h) (6 * (f + 1) + b)
theorem tt_succ (fa : Nat → Nat → Int32) (g : Int32) (n m h s : Nat) (hh : h < n) : tt fa g n m (n - h) s = mfI s (fun b => fa h b + tt fa g n m (n - (h + 1)) (s ||| 2 ^ b)) (g + tt fa g n m (n - (h + 1)) s) m := by
  have e : n - h = (n - (h + 1)) + 1 := by omega
  rw [e]
  show mfI s (fun b => fa (n - ((n - (h + 1)) + 1)) b + tt fa g n m (n - (h + 1)) (s ||| 2 ^ b)) (g + tt fa g n m (n - (h + 1)) s) m = _
  rw [show n - ((n - (h + 1)) + 1) = h by omega]
/-- what stays: all but the cells 39 and 40 -/
def st40 (d e : DY) : Prop := (∀ x k : Nat, x ≠ 39 → x ≠ 40 → gi e x k = gi d x k) ∧ ∀ x k : Nat, gl e x k = gl d x k
theorem st40_far (d e : DY) (h : st40 d e) (f a b : Nat) : faC e f a b = faC d f a b := by
  unfold faC farI
  rw [h.1 37 _ (by decide) (by decide), h.1 37 _ (by decide) (by decide), h.1 38 _ (by decide) (by decide), h.1 38 _ (by decide) (by decide)]
theorem st40_si (d e : DY) (h : st40 d e) (k : Nat) (v : Int32) : st40 d (si e 40 k v) :=
  ⟨fun x j h1 h2 => by rw [gi_si_if, if_neg (fun q => h2 q.1)]; exact h.1 x j h1 h2, fun x j => by rw [gl_si_eq]; exact h.2 x j⟩
theorem st40_si2 (d e : DY) (h : st40 d e) (k : Nat) (v : Int32) : st40 d (si e 39 k v) :=
  ⟨fun x j h1 h2 => by rw [gi_si_if, if_neg (fun q => h1 q.1)]; exact h.1 x j h1 h2, fun x j => by rw [gl_si_eq]; exact h.2 x j⟩
theorem c_pair24 (N f n m : Nat) (g : Int32) (d0 : DY) (hf : f < 7) (hn6 : n ≤ 6) (hm : m < 7) (hn : gi d0 36 f = iz n) : ∀ r k s : Nat, ∀ dy : DY, s + r = 2 ^ m → r < k → st40 d0 dy → (∀ s', s' < s → gi dy 40 (64 * n + s') = tt (faC d0 f) g n m 0 s') → ∃ e : DY, st40 d0 e ∧ (∀ s', s' < 2 ^ m → gi e 40 (64 * n + s') = tt (faC d0 f) g n m 0 s') ∧ F_X1_pair_24 Z0.1 N k 35 (iz f) g (iz m) (iz s) dy = F_X1_pair_74 Z0.1 N N 35 (iz f) g (iz m) (iz ((n : Int) - 1)) e := by
  have p64 : 2 ^ m ≤ 64 := Nat.pow_le_pow_right (n := 2) (by omega) (show m ≤ 6 by omega)
  intro r
  induction r with
  | zero =>
    intro k s dy hs hk hst hr
    obtain ⟨k, rfl⟩ : ∃ j, k = j + 1 := ⟨k - 1, by omega⟩
    refine ⟨dy, hst, fun s' h' => hr s' (by omega), ?_⟩
    have hn' : gi dy 36 f = iz n := by rw [hst.1 36 f (by decide) (by decide)]; exact hn
    rw [F_X1_pair_24_s, bt_shl m hm, if_pos (by (first | exact iz_ib (by omega) | exact iz_nle (by omega) | exact iz_lei (by omega) | exact iz_nlt (by omega) | exact iz_lti (by omega) | exact iz_nei (by omega) | omega)), if_pos (by (first | exact iz_ib (by omega) | exact iz_nle (by omega) | exact iz_lei (by omega) | exact iz_nlt (by omega) | exact iz_lti (by omega) | exact iz_nei (by omega) | omega)), r_35_0, tnn _ f rfl (by omega), hn', show iz n - (1 : Int32) = iz ((n : Int) - 1) from iz_sub n 1]
  | succ r ih =>
    intro k s dy hs hk hst hr
    obtain ⟨k, rfl⟩ : ∃ j, k = j + 1 := ⟨k - 1, by omega⟩
    have hn' : gi dy 36 f = iz n := by rw [hst.1 36 f (by decide) (by decide)]; exact hn
    obtain ⟨e, he, hr', hF⟩ := ih k (s + 1) (si dy 40 (64 * n + s) (g * (iz m - iz (pc s : Nat)))) (by omega) (by omega) (st40_si d0 dy hst _ _) (fun s' h' => by
      rw [gi_si_if]
      by_cases q : s' = s
      · rw [if_pos ⟨rfl, by omega⟩, q]; rfl
      · rw [if_neg (fun z => q (by omega))]; exact hr s' (by omega))
    refine ⟨e, he, hr', ?_⟩
    rw [F_X1_pair_24_s, bt_shl m hm, if_neg (show ¬ iz ((2 ^ m : Nat) : Int) ≤ iz (s : Int) by (first | exact iz_ib (by omega) | exact iz_nle (by omega) | exact iz_lei (by omega) | exact iz_nlt (by omega) | exact iz_lti (by omega) | exact iz_nei (by omega) | omega)), if_pos (by (first | exact iz_ib (by omega) | exact iz_nle (by omega) | exact iz_lei (by omega) | exact iz_nlt (by omega) | exact iz_lti (by omega) | exact iz_nei (by omega) | omega)), c_bits Z0.1 N s dy (by omega), sb_eq, r_35_0, r_35_4, tnn _ f rfl (by omega), hn', show iz (n : Int) * (64 : Int32) + iz s = iz (64 * n + s) by simp only [l_0, l_1, l_2, l_3, l_4, l_5, l_6, l_7, l_8, l_9, l_10, l_11, l_12, l_13, l_15, l_16, l_20, l_24, l_30, l_32, l_40, l_48, l_50, l_60, l_64, l_80, l_99, l_100, l_120, l_150, l_200, l_300, l_500, l_600, l_900, l_m1, iz_add, iz_sub, iz_mul]; congr 1; omega, if_pos (by (first | exact iz_ib (by omega) | exact iz_nle (by omega) | exact iz_lei (by omega) | exact iz_nlt (by omega) | exact iz_lti (by omega) | exact iz_nei (by omega) | omega)), bd_eq, tnn _ (64 * n + s) (by omega) (by omega), show iz s + (1 : Int32) = iz ((s + 1 : Nat) : Int) from iz_add s 1]
    exact hF
theorem c_pair82 (N f h n m : Nat) (g : Int32) (d0 : DY) (hN : 8 ≤ N) (hf : f < 7) (hn6 : n ≤ 6) (hh : h < n) (hm : m < 7) (hm' : gi d0 36 (f + 1) = iz m) : ∀ r k s : Nat, ∀ dy : DY, ∀ K, s + r = 2 ^ m → r < k → st40 d0 dy → (∀ h' s', h < h' → h' ≤ n → s' < 2 ^ m → gi dy 40 (64 * h' + s') = tt (faC d0 f) g n m (n - h') s') → (∀ s', s' < s → gi dy 40 (64 * h + s') = tt (faC d0 f) g n m (n - h) s') → ∃ e : DY, st40 d0 e ∧ (∀ h' s', h ≤ h' → h' ≤ n → s' < 2 ^ m → gi e 40 (64 * h' + s') = tt (faC d0 f) g n m (n - h') s') ∧ F_X1_pair_82 Z0.1 N K k 35 (iz f) g (iz m) (iz h) (iz s) dy = K 35 (iz f) g (iz m) (iz ((h : Int) - 1)) e := by
  have p64 : 2 ^ m ≤ 64 := Nat.pow_le_pow_right (n := 2) (by omega) (show m ≤ 6 by omega)
  intro r
  induction r with
  | zero =>
    intro k s dy K hs hk hst hu hr
    obtain ⟨k, rfl⟩ : ∃ j, k = j + 1 := ⟨k - 1, by omega⟩
    refine ⟨dy, hst, fun h' s' h1 h2 h3 => ?_, ?_⟩
    · by_cases q : h' = h
      · rw [q]; exact hr s' (by omega)
      · exact hu h' s' (by omega) h2 h3
    rw [F_X1_pair_82_s, bt_shl m hm, if_pos (by (first | exact iz_ib (by omega) | exact iz_nle (by omega) | exact iz_lei (by omega) | exact iz_nlt (by omega) | exact iz_lti (by omega) | exact iz_nei (by omega) | omega)), show iz h + (-1 : Int32) = iz ((h : Int) - 1) from by rw [l_m1, iz_add]; exact congrArg iz (by omega)]
  | succ r ih =>
    intro k s dy K hs hk hst hu hr
    obtain ⟨k, rfl⟩ : ∃ j, k = j + 1 := ⟨k - 1, by omega⟩
    have hm2 : gi dy 36 (f + 1) = iz m := by rw [hst.1 36 _ (by decide) (by decide)]; exact hm'
    have ev : mfI s (cpC dy f h s) (g + gi dy 40 (64 * (h + 1) + s)) m = tt (faC d0 f) g n m (n - h) s := by
      rw [tt_succ _ _ _ _ _ _ hh, hu (h + 1) s (by omega) (by omega) (by omega)]
      refine mfI_congr _ _ _ _ _ (fun b hb hb2 => ?_)
      show faC dy f h b + gi dy 40 (64 * (h + 1) + (s ||| 2 ^ b)) = _
      rw [st40_far d0 dy hst, hu (h + 1) _ (by omega) (by omega) (bt_cmp3 m hm b hb s (by omega) hb2)]
    obtain ⟨e, he, hr', hF⟩ := ih k (s + 1) (si dy 40 (64 * h + s) (tt (faC d0 f) g n m (n - h) s)) K (by omega) (by omega) (st40_si d0 dy hst _ _) (fun h' s' h1 h2 h3 => by
      rw [gi_si_if, if_neg (fun z => by omega)]; exact hu h' s' h1 h2 h3) (fun s' h' => by
      rw [gi_si_if]
      by_cases q : s' = s
      · rw [if_pos ⟨rfl, by omega⟩, q]
      · rw [if_neg (fun z => q (by omega))]; exact hr s' (by omega))
    refine ⟨e, he, hr', ?_⟩
    rw [F_X1_pair_82_s, bt_shl m hm, if_neg (show ¬ iz ((2 ^ m : Nat) : Int) ≤ iz (s : Int) by (first | exact iz_ib (by omega) | exact iz_nle (by omega) | exact iz_lei (by omega) | exact iz_nlt (by omega) | exact iz_lti (by omega) | exact iz_nei (by omega) | omega)), c_leastFrom N f h s m g dy hN hf (by omega) hm (by omega) hm2, sb_eq, ev, show iz (h : Int) * (64 : Int32) + iz s = iz (64 * h + s) by simp only [l_0, l_1, l_2, l_3, l_4, l_5, l_6, l_7, l_8, l_9, l_10, l_11, l_12, l_13, l_15, l_16, l_20, l_24, l_30, l_32, l_40, l_48, l_50, l_60, l_64, l_80, l_99, l_100, l_120, l_150, l_200, l_300, l_500, l_600, l_900, l_m1, iz_add, iz_sub, iz_mul]; congr 1; omega, if_pos (by (first | exact iz_ib (by omega) | exact iz_nle (by omega) | exact iz_lei (by omega) | exact iz_nlt (by omega) | exact iz_lti (by omega) | exact iz_nei (by omega) | omega)), bd_eq, r_35_4, tnn _ (64 * h + s) (by omega) (by omega), show iz s + (1 : Int32) = iz ((s + 1 : Nat) : Int) from iz_add s 1]
    exact hF
theorem c_pair74 (N f n m : Nat) (g : Int32) (d0 : DY) (hN : 65 ≤ N) (hf : f < 7) (hn6 : n ≤ 6) (hm : m < 7) (hm' : gi d0 36 (f + 1) = iz m) : ∀ h k : Nat, ∀ dy : DY, h ≤ n → h < k → st40 d0 dy → (∀ h' s', h ≤ h' → h' ≤ n → s' < 2 ^ m → gi dy 40 (64 * h' + s') = tt (faC d0 f) g n m (n - h') s') → ∃ e : DY, st40 d0 e ∧ (∀ h' s', h' ≤ n → s' < 2 ^ m → gi e 40 (64 * h' + s') = tt (faC d0 f) g n m (n - h') s') ∧ F_X1_pair_74 Z0.1 N k 35 (iz f) g (iz m) (iz ((h : Int) - 1)) dy = F_X1_pair_131 Z0.1 N N 35 (iz f) 0 0 e := by
  have p64 : 2 ^ m ≤ 64 := Nat.pow_le_pow_right (n := 2) (by omega) (show m ≤ 6 by omega)
  intro h
  induction h with
  | zero =>
    intro k dy hh hk hst hu
    obtain ⟨k, rfl⟩ : ∃ j, k = j + 1 := ⟨k - 1, by omega⟩
    refine ⟨dy, hst, fun h' s' h2 h3 => hu h' s' (by omega) h2 h3, ?_⟩
    rw [F_X1_pair_74_s, if_pos (by decide)]
  | succ h ih =>
    intro k dy hh hk hst hu
    obtain ⟨k, rfl⟩ : ∃ j, k = j + 1 := ⟨k - 1, by omega⟩
    obtain ⟨e1, he1, hu1, hF1⟩ := c_pair82 N f h n m g d0 (by omega) hf hn6 (by omega) hm hm' (2 ^ m) N 0 dy (F_X1_pair_74 Z0.1 N k) (by omega) (by omega) hst (fun h' s' h1 h2 h3 => hu h' s' (by omega) h2 h3) (fun s' q => absurd q (by omega))
    obtain ⟨e, he, hu2, hF⟩ := ih k e1 (by omega) (by omega) he1 hu1
    refine ⟨e, he, hu2, ?_⟩
    rw [F_X1_pair_74_s, show iz (((h + 1 : Nat) : Int) - 1) = iz h by congr 1; omega, if_neg (show ¬ iz (h : Int) < 0 by rw [l_0]; (first | exact iz_ib (by omega) | exact iz_nle (by omega) | exact iz_lei (by omega) | exact iz_nlt (by omega) | exact iz_lti (by omega) | exact iz_nei (by omega) | omega))]
    exact hF1.trans hF
theorem c_pair131 (N f n m : Nat) (g : Int32) (d0 : DY) (hN : 8 ≤ N) (hf : f < 7) (hn6 : n ≤ 6) (hm : m < 7) (hn : gi d0 36 f = iz n) (hm' : gi d0 36 (f + 1) = iz m) : ∀ r k h : Nat, ∀ dy : DY, h + r = n → r < k → st40 d0 dy → (∀ h' s', h' ≤ n → s' < 2 ^ m → gi dy 40 (64 * h' + s') = tt (faC d0 f) g n m (n - h') s') → (∀ h', h' < h → gi dy 39 h' = pp (faC d0 f) g n m h' (gw (faC d0 f) g n m h')) → ∃ e : DY, st40 d0 e ∧ (∀ h', h' < n → gi e 39 h' = pp (faC d0 f) g n m h' (gw (faC d0 f) g n m h')) ∧ F_X1_pair_131 Z0.1 N k 35 (iz f) (iz (gw (faC d0 f) g n m h : Nat)) (iz h) dy = some (tt (faC d0 f) g n m n 0, e) := by
  have p64 : 2 ^ m ≤ 64 := Nat.pow_le_pow_right (n := 2) (by omega) (show m ≤ 6 by omega)
  intro r
  induction r with
  | zero =>
    intro k h dy hs hk hst hu hr
    obtain ⟨k, rfl⟩ : ∃ j, k = j + 1 := ⟨k - 1, by omega⟩
    have hn' : gi dy 36 f = iz n := by rw [hst.1 36 f (by decide) (by decide)]; exact hn
    refine ⟨dy, hst, fun h' q => hr h' (by omega), ?_⟩
    rw [F_X1_pair_131_s, if_pos (by (first | exact iz_ib (by omega) | exact iz_nle (by omega) | exact iz_lei (by omega) | exact iz_nlt (by omega) | exact iz_lti (by omega) | exact iz_nei (by omega) | omega)), r_35_0, tnn _ f rfl (by omega), hn', if_pos (by (first | exact iz_ib (by omega) | exact iz_nle (by omega) | exact iz_lei (by omega) | exact iz_nlt (by omega) | exact iz_lti (by omega) | exact iz_nei (by omega) | omega)), if_pos (by decide), r_35_4, tn_0]
    have := hu 0 0 (by omega) (Nat.two_pow_pos m)
    rw [show 64 * 0 + 0 = 0 from rfl] at this
    rw [this]
    rfl
  | succ r ih =>
    intro k h dy hs hk hst hu hr
    obtain ⟨k, rfl⟩ : ∃ j, k = j + 1 := ⟨k - 1, by omega⟩
    have hn' : gi dy 36 f = iz n := by rw [hst.1 36 f (by decide) (by decide)]; exact hn
    have hm2 : gi dy 36 (f + 1) = iz m := by rw [hst.1 36 _ (by decide) (by decide)]; exact hm'
    have hg := gw_lt (faC d0 f) g n m hm h
    have ev : lpI (gw (faC d0 f) g n m h) (cpC dy f h (gw (faC d0 f) g n m h)) (gi dy 40 (64 * h + gw (faC d0 f) g n m h)) m m = pp (faC d0 f) g n m h (gw (faC d0 f) g n m h) := by
      unfold pp
      rw [hu h _ (by omega) hg]
      refine lpI_congr _ _ _ _ _ _ (Nat.le_refl m) (fun b hb hb2 => ?_)
      show faC dy f h b + gi dy 40 (64 * (h + 1) + (gw (faC d0 f) g n m h ||| 2 ^ b)) = _
      rw [st40_far d0 dy hst, hu (h + 1) _ (by omega) (bt_cmp3 m hm b hb _ hg hb2)]
    obtain ⟨e, he, hr', hF⟩ := ih k (h + 1) (si dy 39 h (pp (faC d0 f) g n m h (gw (faC d0 f) g n m h))) (by omega) (by omega) (st40_si2 d0 dy hst _ _) (fun h' s' h2 h3 => by
      rw [gi_si_if, if_neg (fun z => absurd z.1 (by decide))]; exact hu h' s' h2 h3) (fun h' q => by
      rw [gi_si_if]
      by_cases q2 : h' = h
      · rw [if_pos ⟨rfl, q2⟩, q2]
      · rw [if_neg (fun z => q2 z.2)]; exact hr h' (by omega))
    refine ⟨e, he, hr', ?_⟩
    have eg : gi (si dy 39 h (pp (faC d0 f) g n m h (gw (faC d0 f) g n m h))) 39 h = pp (faC d0 f) g n m h (gw (faC d0 f) g n m h) := by rw [gi_si_if, if_pos ⟨rfl, rfl⟩]
    rw [F_X1_pair_131_s, if_pos (by (first | exact iz_ib (by omega) | exact iz_nle (by omega) | exact iz_lei (by omega) | exact iz_nlt (by omega) | exact iz_lti (by omega) | exact iz_nei (by omega) | omega)), r_35_0, tnn _ f rfl (by omega), hn', if_neg (show ¬ iz (n : Int) ≤ iz (h : Int) by (first | exact iz_ib (by omega) | exact iz_nle (by omega) | exact iz_lei (by omega) | exact iz_nlt (by omega) | exact iz_lti (by omega) | exact iz_nei (by omega) | omega)), c_leastPartner N f h _ m dy hN hf (by omega) hm hg hm2, sb_eq, ev, if_pos (iz_ib (by omega)), bd_eq, if_pos (iz_ib (by omega)), r_35_3, tnn _ h rfl (by omega)]
    show (if gi (si dy 39 h (pp (faC d0 f) g n m h (gw (faC d0 f) g n m h))) 39 h = -1 then _ else _) = _
    rw [eg]
    have a1 : iz h + (1 : Int32) = iz ((h + 1 : Nat) : Int) := iz_add h 1
    rw [a1]
    by_cases q : pp (faC d0 f) g n m h (gw (faC d0 f) g n m h) = -1
    · rw [if_pos q]
      have : gw (faC d0 f) g n m (h + 1) = gw (faC d0 f) g n m h := if_pos q
      rw [this] at hF
      rw [Int32.or_zero]
      exact hF
    · rw [if_neg q, if_pos (iz_ib (by omega))]
      have : gw (faC d0 f) g n m (h + 1) = gw (faC d0 f) g n m h ||| 2 ^ (pp (faC d0 f) g n m h (gw (faC d0 f) g n m h)).toNatClampNeg := if_neg q
      rw [this] at hF
      rcases lpI_cases (gw (faC d0 f) g n m h) (fun b => (faC d0 f) h b + tt (faC d0 f) g n m (n - (h + 1)) (gw (faC d0 f) g n m h ||| 2 ^ b)) (tt (faC d0 f) g n m (n - h) (gw (faC d0 f) g n m h)) m m (Nat.le_refl m) with e | ⟨b, hb, hb2, e⟩
      · exact absurd e q
      · have e' : pp (faC d0 f) g n m h (gw (faC d0 f) g n m h) = iz b := e
        rw [e', tnn _ b rfl (by omega)] at hF
        rw [e', bt_or b (by omega) _ (by omega)]
        exact hF
theorem c_pair (N f n m : Nat) (g : Int32) (dy : DY) (hN : 65 ≤ N) (hf : f < 7) (hn6 : n ≤ 6) (hm : m < 7) (hn : gi dy 36 f = iz n) (hm' : gi dy 36 (f + 1) = iz m) : ∃ e : DY, st40 dy e ∧ (∀ h', h' < n → gi e 39 h' = pp (faC dy f) g n m h' (gw (faC dy f) g n m h')) ∧ F_X1_pair Z0.1 N 35 (iz f) g dy = some (tt (faC dy f) g n m n 0, e) := by
  have p64 : 2 ^ m ≤ 64 := Nat.pow_le_pow_right (n := 2) (by omega) (show m ≤ 6 by omega)
  obtain ⟨e1, s1, u1, F1⟩ := c_pair24 N f n m g dy hf hn6 hm hn (2 ^ m) N 0 dy (by omega) (by omega) ⟨fun _ _ _ _ => rfl, fun _ _ => rfl⟩ (fun s' q => absurd q (by omega))
  obtain ⟨e2, s2, u2, F2⟩ := c_pair74 N f n m g dy hN hf hn6 hm hm' n N e1 (by omega) (by omega) s1 (fun h' s' h1 h2 h3 => by
    rw [show h' = n by omega, Nat.sub_self]; exact u1 s' h3)
  obtain ⟨e3, s3, u3, F3⟩ := c_pair131 N f n m g dy (by omega) hf hn6 hm hn hm' n N 0 e2 (by omega) (by omega) s2 u2 (fun h' q => absurd q (by omega))
  refine ⟨e3, s3, u3, ?_⟩
  have a1 : iz f + (1 : Int32) = iz ((f + 1 : Nat) : Int) := iz_add f 1
  rw [F_X1_pair_s, if_neg (show ¬ iz (f : Int) < 0 by rw [l_0]; (first | exact iz_ib (by omega) | exact iz_nle (by omega) | exact iz_lei (by omega) | exact iz_nlt (by omega) | exact iz_lti (by omega) | exact iz_nei (by omega) | omega)), if_pos (show iz (f : Int) < 7 by rw [l_7]; (first | exact iz_ib (by omega) | exact iz_nle (by omega) | exact iz_lei (by omega) | exact iz_nlt (by omega) | exact iz_lti (by omega) | exact iz_nei (by omega) | omega)), a1, if_pos (by (first | exact iz_ib (by omega) | exact iz_nle (by omega) | exact iz_lei (by omega) | exact iz_nlt (by omega) | exact iz_lti (by omega) | exact iz_nei (by omega) | omega)), r_35_0, tnn _ (f + 1) rfl (by omega), hm']
  exact F1.trans (F2.trans F3)
