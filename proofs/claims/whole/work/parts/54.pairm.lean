/-! match, the reference's side -/
theorem ones_bit : ∀ l : Nat, l < 64 → (0 : Int32) + ((iz (l : Int) >>> ((0 : Int32) &&& 31)) &&& 1) + ((iz (l : Int) >>> (((0 : Int32) + 1) &&& 31)) &&& 1) + ((iz (l : Int) >>> (((0 : Int32) + 1 + 1) &&& 31)) &&& 1) + ((iz (l : Int) >>> (((0 : Int32) + 1 + 1 + 1) &&& 31)) &&& 1) + ((iz (l : Int) >>> (((0 : Int32) + 1 + 1 + 1 + 1) &&& 31)) &&& 1) + ((iz (l : Int) >>> (((0 : Int32) + 1 + 1 + 1 + 1 + 1) &&& 31)) &&& 1) = iz ((pc l : Nat) : Int) := by decide +kernel
theorem m_ones (S : ST) (N l : Nat) (dy : DY) (hN : 7 ≤ N) (hl : l < 64) : F_X10_ones S N (iz l) dy = some (iz (pc l : Nat), dy) := by
  obtain ⟨k, rfl⟩ : ∃ j, N = j + 7 := ⟨N - 7, by omega⟩
  rw [F_X10_ones_s, F_X10_ones_4_s, if_neg (by decide), F_X10_ones_4_s, if_neg (by decide), F_X10_ones_4_s, if_neg (by decide), F_X10_ones_4_s, if_neg (by decide), F_X10_ones_4_s, if_neg (by decide), F_X10_ones_4_s, if_neg (by decide), F_X10_ones_4_s, if_pos (by decide)]
  exact congrArg (fun v => some (v, dy)) (ones_bit l hl)
theorem bt_ge : ∀ n : Nat, n < 6 → ∀ s : Nat, s < 64 → s.testBit n = true → 2 ^ n ≤ s := by decide +kernel
theorem bt_cmp5 : ∀ m : Nat, m < 7 → ∀ n : Nat, n < m → ∀ s : Nat, s < 2 ^ m → s.testBit n = true → 2 ^ m - 1 - (s - 2 ^ n) = (2 ^ m - 1 - s) ||| 2 ^ n := by decide +kernel
theorem pc_cmp : ∀ m : Nat, m < 7 → ∀ s : Nat, s < 2 ^ m → iz (m : Int) - iz (pc (2 ^ m - 1 - s) : Nat) = iz (pc s : Nat) := by decide +kernel
/-- what stays: all but the reference's tables of a match -/
def st43 (d e : DY) : Prop := (∀ x k : Nat, ¬ (x = 510 ∧ k = 58) → x ≠ 543 → x ≠ 544 → gi e x k = gi d x k) ∧ ∀ x k : Nat, gl e x k = gl d x k
theorem st43_si43 (d e : DY) (h : st43 d e) (k : Nat) (v : Int32) : st43 d (si e 543 k v) :=
  ⟨fun x j h0 h1 h2 => by rw [gi_si_if, if_neg (fun q => h1 q.1)]; exact h.1 x j h0 h1 h2, fun x j => by rw [gl_si_eq]; exact h.2 x j⟩
theorem st43_si44 (d e : DY) (h : st43 d e) (k : Nat) (v : Int32) : st43 d (si e 544 k v) :=
  ⟨fun x j h0 h1 h2 => by rw [gi_si_if, if_neg (fun q => h2 q.1)]; exact h.1 x j h0 h1 h2, fun x j => by rw [gl_si_eq]; exact h.2 x j⟩
theorem st43_cost (d e : DY) (h : st43 d e) (v : Int32) : st43 d (si e 510 58 v) :=
  ⟨fun x j h0 h1 h2 => by rw [gi_si_if, if_neg h0]; exact h.1 x j h0 h1 h2, fun x j => by rw [gl_si_eq]; exact h.2 x j⟩
def faM (dy : DY) (f a b : Nat) : Int32 := farI dy 526 527 (6 * f + a) (6 * (f + 1) + b)
theorem st43_far (d e : DY) (h : st43 d e) (f a b : Nat) : faM e f a b = faM d f a b := by
  unfold faM farI
  rw [h.1 526 _ (fun q => absurd q.1 (by decide)) (by decide) (by decide), h.1 526 _ (fun q => absurd q.1 (by decide)) (by decide) (by decide), h.1 527 _ (fun q => absurd q.1 (by decide)) (by decide) (by decide), h.1 527 _ (fun q => absurd q.1 (by decide)) (by decide) (by decide)]
theorem m_couple (N f a b : Nat) (dy : DY) (hf : f < 7) (ha : a < 6) (hb : b < 6) : F_X10_couple Z0.1 N 510 (iz f) (iz a) (iz b) dy = some (faM dy f a b, dy) := by
  have m1 : (6 : Int32) * iz f + iz a = iz ((6 * f + a : Nat) : Int) := by
    rw [l_6, iz_mul, iz_add]; exact congrArg iz (by omega)
  have m2 : (6 : Int32) * (iz f + (1 : Int32)) + iz b = iz ((6 * (f + 1) + b : Nat) : Int) := by
    rw [l_6, l_1, iz_add, iz_mul, iz_add]; exact congrArg iz (by omega)
  have i1 : ib (iz ((6 * f + a : Nat) : Int)) 192 := (ib_iz (by omega) (by omega)).mpr ⟨by omega, by omega⟩
  have i2 : ib (iz ((6 * (f + 1) + b : Nat) : Int)) 192 := (ib_iz (by omega) (by omega)).mpr ⟨by omega, by omega⟩
  rw [F_X10_couple_s, m1, m2, if_pos i1, if_pos i2, if_pos i1, if_pos i2, tnn _ (6 * f + a) rfl (by omega), tnn _ (6 * (f + 1) + b) rfl (by omega), r_510_16, r_510_17]
  unfold faM farI
  by_cases q : 0 ≤ gi dy 526 (6 * f + a) - gi dy 526 (6 * (f + 1) + b)
  · rw [if_pos q, F_X10_couple_67_s]
    by_cases q2 : 0 ≤ gi dy 527 (6 * f + a) - gi dy 527 (6 * (f + 1) + b)
    · rw [if_pos q2, if_pos q, if_pos q2]
    · rw [if_neg q2, if_pos q, if_neg q2, i32_neg]
  · rw [if_neg q, F_X10_couple_67_s]
    by_cases q2 : 0 ≤ gi dy 527 (6 * f + a) - gi dy 527 (6 * (f + 1) + b)
    · rw [if_pos q2, if_neg q, if_pos q2, i32_neg]
    · rw [if_neg q2, if_neg q, if_neg q2, i32_neg, i32_neg]
theorem m_fm96 (N f a n m l : Nat) (g : Int32) (fa : Nat → Nat → Int32) (d0 : DY) (hf : f < 7) (ha : a < n) (hn6 : n ≤ 6) (hm : m < 7) (hm' : gi d0 525 (f + 1) = iz m) (hfa : ∀ a b, a < 6 → b < 6 → faM d0 f a b = fa a b) (hl : l < 2 ^ m) (v0 : Int32) (K) (dy : DY) (hst : st43 d0 dy) (hu : ∀ l', l' < 2 ^ m → gi dy 543 (64 * (a + 1) + l') = tt fa g n m (n - (a + 1)) (2 ^ m - 1 - l')) : ∀ r k b : Nat, b + r = m → r < k → F_X10_findMatch_96 Z0.1 N K k 510 (iz f) g (iz n) (iz (2 ^ m : Nat)) (iz a) (iz l) (mfI (2 ^ m - 1 - l) (fun b => fa a b + tt fa g n m (n - (a + 1)) ((2 ^ m - 1 - l) ||| 2 ^ b)) v0 b) (iz b) dy = K 510 (iz f) g (iz n) (iz (2 ^ m : Nat)) (iz a) (iz ((l + 1 : Nat) : Int)) (si dy 543 (64 * a + l) (mfI (2 ^ m - 1 - l) (fun b => fa a b + tt fa g n m (n - (a + 1)) ((2 ^ m - 1 - l) ||| 2 ^ b)) v0 m)) := by
  have p64 : 2 ^ m ≤ 64 := Nat.pow_le_pow_right (n := 2) (by omega) (show m ≤ 6 by omega)
  have hm2 : gi dy 525 (f + 1) = iz m := by rw [hst.1 525 _ (fun q => absurd q.1 (by decide)) (by decide) (by decide)]; exact hm'
  have a1 : iz f + (1 : Int32) = iz ((f + 1 : Nat) : Int) := iz_add f 1
  have i1 : ib (iz ((f + 1 : Nat) : Int)) 32 := (ib_iz (by omega) (by omega)).mpr ⟨by omega, by omega⟩
  intro r
  induction r with
  | zero =>
    intro k b hb hk
    obtain ⟨k, rfl⟩ : ∃ j, k = j + 1 := ⟨k - 1, by omega⟩
    obtain rfl : b = m := by omega
    have m3 : (64 : Int32) * iz a + iz l = iz ((64 * a + l : Nat) : Int) := by
      rw [l_64, iz_mul, iz_add]; exact congrArg iz (by omega)
    have i3 : ib (iz ((64 * a + l : Nat) : Int)) 448 := (ib_iz (by omega) (by omega)).mpr ⟨by omega, by omega⟩
    rw [F_X10_findMatch_96_s, a1, if_pos i1, r_510_15, tnn _ (f + 1) rfl (by omega), hm2, if_pos (Int32.le_refl _), m3, if_pos i3, bd_eq, r_510_56, tnn _ (64 * a + l) rfl (by omega), show iz l + (1 : Int32) = iz ((l + 1 : Nat) : Int) from iz_add l 1]
  | succ r ih =>
    intro k b hb hk
    obtain ⟨k, rfl⟩ : ∃ j, k = j + 1 := ⟨k - 1, by omega⟩
    have ih' := ih k (b + 1) (by omega) (by omega)
    have a2 : iz b + (1 : Int32) = iz ((b + 1 : Nat) : Int) := iz_add b 1
    rw [F_X10_findMatch_96_s, a1, if_pos i1, r_510_15, tnn _ (f + 1) rfl (by omega), hm2, if_neg (show ¬ iz (m : Int) ≤ iz (b : Int) by (first | exact iz_ib (by omega) | exact iz_nle (by omega) | exact iz_lei (by omega) | exact iz_nlt (by omega) | exact iz_lti (by omega) | exact iz_nei (by omega) | omega))]
    by_cases q : l.testBit b = false
    · have hs := bt_cmp2 m hm b (by omega) l hl q
      rw [if_pos ((bt_get b (by omega) l (by omega)).mpr q), F_X10_findMatch_154_s, if_pos (Int32.le_refl _), a2]
      have e : mfI (2 ^ m - 1 - l) (fun b => fa a b + tt fa g n m (n - (a + 1)) ((2 ^ m - 1 - l) ||| 2 ^ b)) v0 (b + 1) = mfI (2 ^ m - 1 - l) (fun b => fa a b + tt fa g n m (n - (a + 1)) ((2 ^ m - 1 - l) ||| 2 ^ b)) v0 b := if_neg (by rw [hs]; decide)
      rw [e] at ih'
      exact ih'
    · have q1 : l.testBit b = true := by
        cases h : l.testBit b with
        | true => rfl
        | false => exact absurd h q
      have hs := bt_cmp1 m hm b (by omega) l hl q1
      have hg := bt_ge b (by omega) l (by omega) q1
      have pb : 0 < 2 ^ b := Nat.two_pow_pos b
      have m3 : (64 : Int32) * (iz a + (1 : Int32)) + iz l - (1 : Int32) <<< (iz b &&& 31) = iz ((64 * (a + 1) + (l - 2 ^ b) : Nat) : Int) := by
        rw [bt_shl b (by omega), l_64, l_1, iz_add, iz_mul, iz_add, iz_sub]; exact congrArg iz (by omega)
      have i3 : ib (iz ((64 * (a + 1) + (l - 2 ^ b) : Nat) : Int)) 448 := (ib_iz (by omega) (by omega)).mpr ⟨by omega, by omega⟩
      have ev : faM dy f a b + gi dy 543 (64 * (a + 1) + (l - 2 ^ b)) = fa a b + tt fa g n m (n - (a + 1)) ((2 ^ m - 1 - l) ||| 2 ^ b) := by
        rw [st43_far d0 dy hst, hfa a b (by omega) (by omega), hu _ (by omega), bt_cmp5 m hm b (by omega) l hl q1]
      rw [if_neg (fun z => q ((bt_get b (by omega) l (by omega)).mp z)), m_couple N f a b dy hf (by omega) (by omega), sb_eq, m3, if_pos i3, r_510_56, tnn _ (64 * (a + 1) + (l - 2 ^ b)) rfl (by omega), F_X10_findMatch_154_s]
      show (if _ ≤ faM dy f a b + gi dy 543 (64 * (a + 1) + (l - 2 ^ b)) then _ else _) = _
      rw [ev, a2]
      have e : mfI (2 ^ m - 1 - l) (fun b => fa a b + tt fa g n m (n - (a + 1)) ((2 ^ m - 1 - l) ||| 2 ^ b)) v0 (b + 1) = if fa a b + tt fa g n m (n - (a + 1)) ((2 ^ m - 1 - l) ||| 2 ^ b) < mfI (2 ^ m - 1 - l) (fun b => fa a b + tt fa g n m (n - (a + 1)) ((2 ^ m - 1 - l) ||| 2 ^ b)) v0 b then fa a b + tt fa g n m (n - (a + 1)) ((2 ^ m - 1 - l) ||| 2 ^ b) else mfI (2 ^ m - 1 - l) (fun b => fa a b + tt fa g n m (n - (a + 1)) ((2 ^ m - 1 - l) ||| 2 ^ b)) v0 b := if_pos hs
      rw [e] at ih'
      by_cases c : fa a b + tt fa g n m (n - (a + 1)) ((2 ^ m - 1 - l) ||| 2 ^ b) < mfI (2 ^ m - 1 - l) (fun b => fa a b + tt fa g n m (n - (a + 1)) ((2 ^ m - 1 - l) ||| 2 ^ b)) v0 b
      · rw [if_pos c] at ih'
        rw [if_neg (Int32.not_le.mpr c)]
        exact ih'
      · rw [if_neg c] at ih'
        rw [if_pos (Int32.not_lt.mp c)]
        exact ih'
theorem m_fm67 (N f a n m : Nat) (g : Int32) (fa : Nat → Nat → Int32) (d0 : DY) (hN : 8 ≤ N) (hf : f < 7) (ha : a < n) (hn6 : n ≤ 6) (hm : m < 7) (hm' : gi d0 525 (f + 1) = iz m) (hfa : ∀ a b, a < 6 → b < 6 → faM d0 f a b = fa a b) (K) : ∀ r k l : Nat, ∀ dy : DY, l + r = 2 ^ m → r < k → st43 d0 dy → (∀ h' l', a < h' → h' ≤ n → l' < 2 ^ m → gi dy 543 (64 * h' + l') = tt fa g n m (n - h') (2 ^ m - 1 - l')) → (∀ l', l' < l → gi dy 543 (64 * a + l') = tt fa g n m (n - a) (2 ^ m - 1 - l')) → ∃ e : DY, st43 d0 e ∧ (∀ h' l', a ≤ h' → h' ≤ n → l' < 2 ^ m → gi e 543 (64 * h' + l') = tt fa g n m (n - h') (2 ^ m - 1 - l')) ∧ F_X10_findMatch_67 Z0.1 N K k 510 (iz f) g (iz n) (iz (2 ^ m : Nat)) (iz a) (iz l) dy = K 510 (iz f) g (iz n) (iz (2 ^ m : Nat)) (iz ((a : Int) - 1)) e := by
  have p64 : 2 ^ m ≤ 64 := Nat.pow_le_pow_right (n := 2) (by omega) (show m ≤ 6 by omega)
  intro r
  induction r with
  | zero =>
    intro k l dy hs hk hst hu hr
    obtain ⟨k, rfl⟩ : ∃ j, k = j + 1 := ⟨k - 1, by omega⟩
    refine ⟨dy, hst, fun h' l' h1 h2 h3 => ?_, ?_⟩
    · by_cases q : h' = a
      · rw [q]; exact hr l' (by omega)
      · exact hu h' l' (by omega) h2 h3
    rw [F_X10_findMatch_67_s, if_pos (show iz ((2 ^ m : Nat) : Int) ≤ iz (l : Int) by (first | exact iz_ib (by omega) | exact iz_nle (by omega) | exact iz_lei (by omega) | exact iz_nlt (by omega) | exact iz_lti (by omega) | exact iz_nei (by omega) | omega)), show iz a + (-1 : Int32) = iz ((a : Int) - 1) from by rw [l_m1, iz_add]; exact congrArg iz (by omega)]
  | succ r ih =>
    intro k l dy hs hk hst hu hr
    obtain ⟨k, rfl⟩ : ∃ j, k = j + 1 := ⟨k - 1, by omega⟩
    have ev : mfI (2 ^ m - 1 - l) (fun b => fa a b + tt fa g n m (n - (a + 1)) ((2 ^ m - 1 - l) ||| 2 ^ b)) (g + gi dy 543 (64 * (a + 1) + l)) m = tt fa g n m (n - a) (2 ^ m - 1 - l) := by
      rw [tt_succ fa g n m a _ ha, hu (a + 1) l (by omega) (by omega) (by omega)]
    obtain ⟨e, he, hr', hF⟩ := ih k (l + 1) (si dy 543 (64 * a + l) (tt fa g n m (n - a) (2 ^ m - 1 - l))) (by omega) (by omega) (st43_si43 d0 dy hst _ _) (fun h' l' h1 h2 h3 => by
      rw [gi_si_if, if_neg (fun z => by omega)]; exact hu h' l' h1 h2 h3) (fun l' h' => by
      rw [gi_si_if]
      by_cases q : l' = l
      · rw [if_pos ⟨rfl, by omega⟩, q]
      · rw [if_neg (fun z => q (by omega))]; exact hr l' (by omega))
    refine ⟨e, he, hr', ?_⟩
    have m3 : (64 : Int32) * (iz a + (1 : Int32)) + iz l = iz ((64 * (a + 1) + l : Nat) : Int) := by
      rw [l_64, l_1, iz_add, iz_mul, iz_add]; exact congrArg iz (by omega)
    have i3 : ib (iz ((64 * (a + 1) + l : Nat) : Int)) 448 := (ib_iz (by omega) (by omega)).mpr ⟨by omega, by omega⟩
    have h96 := m_fm96 N f a n m l g fa d0 hf ha hn6 hm hm' hfa (by omega) (g + gi dy 543 (64 * (a + 1) + l)) (F_X10_findMatch_67 Z0.1 N K k) dy hst (fun l' h' => hu (a + 1) l' (by omega) (by omega) h') m N 0 (by omega) (by omega)
    rw [ev] at h96
    rw [F_X10_findMatch_67_s, if_neg (show ¬ iz ((2 ^ m : Nat) : Int) ≤ iz (l : Int) by (first | exact iz_ib (by omega) | exact iz_nle (by omega) | exact iz_lei (by omega) | exact iz_nlt (by omega) | exact iz_lti (by omega) | exact iz_nei (by omega) | omega)), m3, if_pos i3, r_510_56, tnn _ (64 * (a + 1) + l) rfl (by omega)]
    exact h96.trans hF
theorem m_fm59 (N f n m : Nat) (g : Int32) (fa : Nat → Nat → Int32) (d0 : DY) (hN : 65 ≤ N) (hf : f < 7) (hn6 : n ≤ 6) (hm : m < 7) (hm' : gi d0 525 (f + 1) = iz m) (hfa : ∀ a b, a < 6 → b < 6 → faM d0 f a b = fa a b) : ∀ a k : Nat, ∀ dy : DY, a ≤ n → a < k → st43 d0 dy → (∀ h' l', a ≤ h' → h' ≤ n → l' < 2 ^ m → gi dy 543 (64 * h' + l') = tt fa g n m (n - h') (2 ^ m - 1 - l')) → ∃ e : DY, st43 d0 e ∧ gi e 510 58 = tt fa g n m n 0 ∧ (∀ h' l', h' ≤ n → l' < 2 ^ m → gi e 543 (64 * h' + l') = tt fa g n m (n - h') (2 ^ m - 1 - l')) ∧ F_X10_findMatch_59 Z0.1 N k 510 (iz f) g (iz n) (iz (2 ^ m : Nat)) (iz ((a : Int) - 1)) dy = F_X10_findMatch_227 Z0.1 N N 510 (iz f) (iz n) (iz ((2 ^ m - 1 : Nat) : Int)) 0 e := by
  have p64 : 2 ^ m ≤ 64 := Nat.pow_le_pow_right (n := 2) (by omega) (show m ≤ 6 by omega)
  have p1 : 0 < 2 ^ m := Nat.two_pow_pos m
  intro a
  induction a with
  | zero =>
    intro k dy hh hk hst hu
    obtain ⟨k, rfl⟩ : ∃ j, k = j + 1 := ⟨k - 1, by omega⟩
    have e0 : gi dy 543 (2 ^ m - 1) = tt fa g n m n 0 := by
      have := hu 0 (2 ^ m - 1) (by omega) (by omega) (by omega)
      rw [Nat.mul_zero, Nat.zero_add, Nat.sub_self] at this
      exact this
    refine ⟨si dy 510 58 (tt fa g n m n 0), st43_cost d0 dy hst _, by rw [gi_si_if, if_pos ⟨rfl, rfl⟩], fun h' l' h2 h3 => ?_, ?_⟩
    · rw [gi_si_if, if_neg (fun z => absurd z.1 (by decide))]
      exact hu h' l' (by omega) h2 h3
    · have a3 : iz ((2 ^ m : Nat) : Int) - (1 : Int32) = iz ((2 ^ m - 1 : Nat) : Int) := by
        rw [l_1, iz_sub]; exact congrArg iz (by omega)
      have i3 : ib (iz ((2 ^ m - 1 : Nat) : Int)) 448 := (ib_iz (by omega) (by omega)).mpr ⟨by omega, by omega⟩
      rw [F_X10_findMatch_59_s, if_pos (by decide), a3, if_pos i3, bd_eq, r_510_56, tnn _ (2 ^ m - 1) rfl (by omega), e0]
  | succ a ih =>
    intro k dy hh hk hst hu
    obtain ⟨k, rfl⟩ : ∃ j, k = j + 1 := ⟨k - 1, by omega⟩
    obtain ⟨e1, he1, hu1, hF1⟩ := m_fm67 N f a n m g fa d0 (by omega) hf (by omega) hn6 hm hm' hfa (F_X10_findMatch_59 Z0.1 N k) (2 ^ m) N 0 dy (by omega) (by omega) hst (fun h' l' h1 h2 h3 => hu h' l' (by omega) h2 h3) (fun l' q => absurd q (by omega))
    obtain ⟨e, he, hc, hu2, hF⟩ := ih k e1 (by omega) (by omega) he1 hu1
    refine ⟨e, he, hc, hu2, ?_⟩
    rw [F_X10_findMatch_59_s, show iz (((a + 1 : Nat) : Int) - 1) = iz a from congrArg iz (by omega), if_neg (show ¬ iz (a : Int) < 0 by rw [l_0]; (first | exact iz_ib (by omega) | exact iz_nle (by omega) | exact iz_lei (by omega) | exact iz_nlt (by omega) | exact iz_lti (by omega) | exact iz_nei (by omega) | omega))]
    exact hF1.trans hF
theorem m_fm22 (N f n m : Nat) (g : Int32) (fa : Nat → Nat → Int32) (d0 : DY) (hN : 65 ≤ N) (hf : f < 7) (hn6 : n ≤ 6) (hm : m < 7) : ∀ r k l : Nat, ∀ dy : DY, l + r = 2 ^ m → r < k → st43 d0 dy → (∀ l', l' < l → gi dy 543 (64 * n + l') = tt fa g n m 0 (2 ^ m - 1 - l')) → ∃ e : DY, st43 d0 e ∧ (∀ l', l' < 2 ^ m → gi e 543 (64 * n + l') = tt fa g n m 0 (2 ^ m - 1 - l')) ∧ F_X10_findMatch_22 Z0.1 N k 510 (iz f) g (iz n) (iz (2 ^ m : Nat)) (iz l) dy = F_X10_findMatch_59 Z0.1 N N 510 (iz f) g (iz n) (iz (2 ^ m : Nat)) (iz ((n : Int) - 1)) e := by
  have p64 : 2 ^ m ≤ 64 := Nat.pow_le_pow_right (n := 2) (by omega) (show m ≤ 6 by omega)
  intro r
  induction r with
  | zero =>
    intro k l dy hs hk hst hr
    obtain ⟨k, rfl⟩ : ∃ j, k = j + 1 := ⟨k - 1, by omega⟩
    refine ⟨dy, hst, fun l' h' => hr l' (by omega), ?_⟩
    rw [F_X10_findMatch_22_s, if_pos (show iz ((2 ^ m : Nat) : Int) ≤ iz (l : Int) by (first | exact iz_ib (by omega) | exact iz_nle (by omega) | exact iz_lei (by omega) | exact iz_nlt (by omega) | exact iz_lti (by omega) | exact iz_nei (by omega) | omega)), show iz n - (1 : Int32) = iz ((n : Int) - 1) from iz_sub n 1]
  | succ r ih =>
    intro k l dy hs hk hst hr
    obtain ⟨k, rfl⟩ : ∃ j, k = j + 1 := ⟨k - 1, by omega⟩
    have ev : tt fa g n m 0 (2 ^ m - 1 - l) = g * iz (pc l : Nat) := by
      show g * (iz m - iz (pc (2 ^ m - 1 - l) : Nat)) = _
      rw [pc_cmp m hm l (by omega)]
    obtain ⟨e, he, hr', hF⟩ := ih k (l + 1) (si dy 543 (64 * n + l) (g * iz (pc l : Nat))) (by omega) (by omega) (st43_si43 d0 dy hst _ _) (fun l' h' => by
      rw [gi_si_if]
      by_cases q : l' = l
      · rw [if_pos ⟨rfl, by omega⟩, q, ev]
      · rw [if_neg (fun z => q (by omega))]; exact hr l' (by omega))
    refine ⟨e, he, hr', ?_⟩
    have m3 : (64 : Int32) * iz n + iz l = iz ((64 * n + l : Nat) : Int) := by
      rw [l_64, iz_mul, iz_add]; exact congrArg iz (by omega)
    have i3 : ib (iz ((64 * n + l : Nat) : Int)) 448 := (ib_iz (by omega) (by omega)).mpr ⟨by omega, by omega⟩
    rw [F_X10_findMatch_22_s, if_neg (show ¬ iz ((2 ^ m : Nat) : Int) ≤ iz (l : Int) by (first | exact iz_ib (by omega) | exact iz_nle (by omega) | exact iz_lei (by omega) | exact iz_nlt (by omega) | exact iz_lti (by omega) | exact iz_nei (by omega) | omega)), m_ones Z0.1 N l dy (by omega) (by omega), sb_eq, m3, if_pos i3, bd_eq, r_510_56, tnn _ (64 * n + l) rfl (by omega), show iz l + (1 : Int32) = iz ((l + 1 : Nat) : Int) from iz_add l 1]
    exact hF
theorem m_fm253 (N f a n m s : Nat) (g : Int32) (fa : Nat → Nat → Int32) (d0 : DY) (hf : f < 7) (ha : a < n) (hn6 : n ≤ 6) (hm : m < 7) (hs : s < 2 ^ m) (hfa : ∀ a b, a < 6 → b < 6 → faM d0 f a b = fa a b) (K) : ∀ b k : Nat, ∀ dy : DY, b ≤ m → b < k → st43 d0 dy → (∀ h' l', h' ≤ n → l' < 2 ^ m → gi dy 543 (64 * h' + l') = tt fa g n m (n - h') (2 ^ m - 1 - l')) → gi dy 544 a = lpI s (fun b => fa a b + tt fa g n m (n - (a + 1)) (s ||| 2 ^ b)) (tt fa g n m (n - a) s) m (m - b) → ∃ e : DY, st43 d0 e ∧ gi e 510 58 = gi dy 510 58 ∧ (∀ k', gi e 543 k' = gi dy 543 k') ∧ (∀ h', h' ≠ a → gi e 544 h' = gi dy 544 h') ∧ gi e 544 a = pp fa g n m a s ∧ F_X10_findMatch_253 Z0.1 N K k 510 (iz f) (iz n) (iz ((2 ^ m - 1 - s : Nat) : Int)) (iz a) (iz ((b : Int) - 1)) dy = K 510 (iz f) (iz n) (if pp fa g n m a s = -1 then iz ((2 ^ m - 1 - s : Nat) : Int) - 0 else iz ((2 ^ m - 1 - s : Nat) : Int) - (1 : Int32) <<< (pp fa g n m a s &&& 31)) (iz ((a + 1 : Nat) : Int)) e := by
  have p64 : 2 ^ m ≤ 64 := Nat.pow_le_pow_right (n := 2) (by omega) (show m ≤ 6 by omega)
  have ia : ib (iz (a : Int)) 6 := (ib_iz (by omega) (by omega)).mpr ⟨by omega, by omega⟩
  have ta : (iz (a : Int)).toNatClampNeg = a := tnn _ a rfl (by omega)
  intro b
  induction b with
  | zero =>
    intro k dy hb hk hst hu hp
    obtain ⟨k, rfl⟩ : ∃ j, k = j + 1 := ⟨k - 1, by omega⟩
    have hp' : gi dy 544 a = pp fa g n m a s := hp
    refine ⟨dy, hst, rfl, fun _ => rfl, fun _ _ => rfl, hp', ?_⟩
    rw [F_X10_findMatch_253_s, if_pos (by decide), if_pos ia, r_510_57, ta, hp', show iz a + (1 : Int32) = iz ((a + 1 : Nat) : Int) from iz_add a 1]
    by_cases q : pp fa g n m a s = -1
    · rw [if_pos q, if_pos q]
    · rw [if_neg q, if_neg q, if_pos ia]
  | succ b ih =>
    intro k dy hb hk hst hu hp
    obtain ⟨k, rfl⟩ : ∃ j, k = j + 1 := ⟨k - 1, by omega⟩
    have fin : ∀ v : Int32, v = lpI s (fun b => fa a b + tt fa g n m (n - (a + 1)) (s ||| 2 ^ b)) (tt fa g n m (n - a) s) m (m - b) → ∃ e : DY, st43 d0 e ∧ gi e 510 58 = gi dy 510 58 ∧ (∀ k', gi e 543 k' = gi dy 543 k') ∧ (∀ h', h' ≠ a → gi e 544 h' = gi dy 544 h') ∧ gi e 544 a = pp fa g n m a s ∧ F_X10_findMatch_253 Z0.1 N K k 510 (iz f) (iz n) (iz ((2 ^ m - 1 - s : Nat) : Int)) (iz a) (iz ((b : Int) - 1)) (si dy 544 a v) = K 510 (iz f) (iz n) (if pp fa g n m a s = -1 then iz ((2 ^ m - 1 - s : Nat) : Int) - 0 else iz ((2 ^ m - 1 - s : Nat) : Int) - (1 : Int32) <<< (pp fa g n m a s &&& 31)) (iz ((a + 1 : Nat) : Int)) e := by
      intro v hv
      obtain ⟨e, h1, h2, h3, h4, h5, h6⟩ := ih k (si dy 544 a v) (by omega) (by omega) (st43_si44 d0 dy hst _ _) (fun h' l' q1 q2 => by
        rw [gi_si_if, if_neg (fun z => absurd z.1 (by decide))]; exact hu h' l' q1 q2) (by rw [gi_si_if, if_pos ⟨rfl, rfl⟩]; exact hv)
      refine ⟨e, h1, ?_, fun k' => ?_, fun h' q => ?_, h5, h6⟩
      · rw [h2, gi_si_if, if_neg (fun z => absurd z.1 (by decide))]
      · rw [h3, gi_si_if, if_neg (fun z => absurd z.1 (by decide))]
      · rw [h4 h' q, gi_si_if, if_neg (fun z => q z.2)]
    have hd : m - b = (m - (b + 1)) + 1 := by omega
    have el : m - ((m - (b + 1)) + 1) = b := by omega
    have ls : lpI s (fun b => fa a b + tt fa g n m (n - (a + 1)) (s ||| 2 ^ b)) (tt fa g n m (n - a) s) m (m - b) = if s.testBit b = false then (if fa a b + tt fa g n m (n - (a + 1)) (s ||| 2 ^ b) = tt fa g n m (n - a) s then iz (b : Int) else lpI s (fun b => fa a b + tt fa g n m (n - (a + 1)) (s ||| 2 ^ b)) (tt fa g n m (n - a) s) m (m - (b + 1))) else lpI s (fun b => fa a b + tt fa g n m (n - (a + 1)) (s ||| 2 ^ b)) (tt fa g n m (n - a) s) m (m - (b + 1)) := by
      rw [hd]
      show (if s.testBit (m - ((m - (b + 1)) + 1)) = false then (if fa a (m - ((m - (b + 1)) + 1)) + tt fa g n m (n - (a + 1)) (s ||| 2 ^ (m - ((m - (b + 1)) + 1))) = tt fa g n m (n - a) s then iz ((m - ((m - (b + 1)) + 1) : Nat) : Int) else _) else _) = _
      rw [el]
    have ab : iz (((b + 1 : Nat) : Int) - 1) = iz (b : Int) := congrArg iz (by omega)
    have am : iz (b : Int) + (-1 : Int32) = iz ((b : Int) - 1) := by rw [l_m1, iz_add]; exact congrArg iz (by omega)
    rw [F_X10_findMatch_253_s, ab, if_neg (show ¬ iz (b : Int) < 0 by rw [l_0]; (first | exact iz_ib (by omega) | exact iz_nle (by omega) | exact iz_lei (by omega) | exact iz_nlt (by omega) | exact iz_lti (by omega) | exact iz_nei (by omega) | omega))]
    by_cases q : s.testBit b = false
    · have q1 := bt_cmp2 m hm b (by omega) s hs q
      have hg := bt_ge b (by omega) (2 ^ m - 1 - s) (by omega) q1
      have pb : 0 < 2 ^ b := Nat.two_pow_pos b
      have m3 : (64 : Int32) * (iz a + (1 : Int32)) + iz ((2 ^ m - 1 - s : Nat) : Int) - (1 : Int32) <<< (iz b &&& 31) = iz ((64 * (a + 1) + (2 ^ m - 1 - s - 2 ^ b) : Nat) : Int) := by
        rw [bt_shl b (by omega), l_64, l_1, iz_add, iz_mul, iz_add, iz_sub]; exact congrArg iz (by omega)
      have i3 : ib (iz ((64 * (a + 1) + (2 ^ m - 1 - s - 2 ^ b) : Nat) : Int)) 448 := (ib_iz (by omega) (by omega)).mpr ⟨by omega, by omega⟩
      have m4 : (64 : Int32) * iz a + iz ((2 ^ m - 1 - s : Nat) : Int) = iz ((64 * a + (2 ^ m - 1 - s) : Nat) : Int) := by
        rw [l_64, iz_mul, iz_add]; exact congrArg iz (by omega)
      have i4 : ib (iz ((64 * a + (2 ^ m - 1 - s) : Nat) : Int)) 448 := (ib_iz (by omega) (by omega)).mpr ⟨by omega, by omega⟩
      have s3 := bt_cmp3 m hm b (by omega) s hs q
      have s4 := bt_cmp4 m hm b (by omega) s hs q
      have ev : faM dy f a b + gi dy 543 (64 * (a + 1) + (2 ^ m - 1 - s - 2 ^ b)) = fa a b + tt fa g n m (n - (a + 1)) (s ||| 2 ^ b) := by
        rw [st43_far d0 dy hst, hfa a b (by omega) (by omega), hu _ _ (by omega) (by omega), ← s4, show 2 ^ m - 1 - (2 ^ m - 1 - (s ||| 2 ^ b)) = s ||| 2 ^ b by omega]
      have ev2 : gi dy 543 (64 * a + (2 ^ m - 1 - s)) = tt fa g n m (n - a) s := by
        rw [hu _ _ (by omega) (by omega), show 2 ^ m - 1 - (2 ^ m - 1 - s) = s by omega]
      rw [if_neg (fun z => by have := (bt_get b (by omega) (2 ^ m - 1 - s) (by omega)).mp z; rw [q1] at this; exact absurd this (by decide)), m_couple N f a b dy hf (by omega) (by omega), sb_eq, m3, if_pos i3, m4, if_pos i4, r_510_56, tnn _ (64 * (a + 1) + (2 ^ m - 1 - s - 2 ^ b)) rfl (by omega), tnn _ (64 * a + (2 ^ m - 1 - s)) rfl (by omega)]
      rw [if_pos q] at ls
      by_cases c : fa a b + tt fa g n m (n - (a + 1)) (s ||| 2 ^ b) = tt fa g n m (n - a) s
      · rw [if_pos c] at ls
        have c' : faM dy f a b + gi dy 543 (64 * (a + 1) + (2 ^ m - 1 - s - 2 ^ b)) = gi dy 543 (64 * a + (2 ^ m - 1 - s)) := by rw [ev, ev2]; exact c
        obtain ⟨e, h⟩ := fin (iz (b : Int)) ls.symm
        refine ⟨e, h.1, h.2.1, h.2.2.1, h.2.2.2.1, h.2.2.2.2.1, ?_⟩
        rw [if_pos c', F_X10_findMatch_319_s, if_neg (by decide : ¬ (1 : Int32) = 0), F_X10_findMatch_344_s, if_pos ia, bd_eq, r_510_57, ta, am]
        exact h.2.2.2.2.2
      · rw [if_neg c] at ls
        have c' : ¬ faM dy f a b + gi dy 543 (64 * (a + 1) + (2 ^ m - 1 - s - 2 ^ b)) = gi dy 543 (64 * a + (2 ^ m - 1 - s)) := by rw [ev, ev2]; exact c
        obtain ⟨e, h⟩ := fin (gi dy 544 a) (hp.trans ls.symm)
        refine ⟨e, h.1, h.2.1, h.2.2.1, h.2.2.2.1, h.2.2.2.2.1, ?_⟩
        rw [if_neg c', F_X10_findMatch_319_s, if_pos rfl, if_pos ia, F_X10_findMatch_344_s, if_pos ia, bd_eq, r_510_57, ta, am]
        exact h.2.2.2.2.2
    · have q0 : s.testBit b = true := by
        cases h : s.testBit b with
        | true => rfl
        | false => exact absurd h q
      have q1 := bt_cmp1 m hm b (by omega) s hs q0
      rw [if_neg q] at ls
      obtain ⟨e, h⟩ := fin (gi dy 544 a) (hp.trans ls.symm)
      refine ⟨e, h.1, h.2.1, h.2.2.1, h.2.2.2.1, h.2.2.2.2.1, ?_⟩
      rw [if_pos ((bt_get b (by omega) (2 ^ m - 1 - s) (by omega)).mpr q1), F_X10_findMatch_319_s, if_pos rfl, if_pos ia, F_X10_findMatch_344_s, if_pos ia, bd_eq, r_510_57, ta, am]
      exact h.2.2.2.2.2
theorem m_fm227 (N f n m : Nat) (g : Int32) (fa : Nat → Nat → Int32) (d0 : DY) (hN : 8 ≤ N) (hf : f < 7) (hn6 : n ≤ 6) (hm : m < 7) (hm' : gi d0 525 (f + 1) = iz m) (hfa : ∀ a b, a < 6 → b < 6 → faM d0 f a b = fa a b) : ∀ r k a : Nat, ∀ dy : DY, a + r = n → r < k → st43 d0 dy → (∀ h' l', h' ≤ n → l' < 2 ^ m → gi dy 543 (64 * h' + l') = tt fa g n m (n - h') (2 ^ m - 1 - l')) → (∀ h', h' < a → gi dy 544 h' = pp fa g n m h' (gw fa g n m h')) → ∃ e : DY, st43 d0 e ∧ gi e 510 58 = gi dy 510 58 ∧ (∀ h', h' < n → gi e 544 h' = pp fa g n m h' (gw fa g n m h')) ∧ F_X10_findMatch_227 Z0.1 N k 510 (iz f) (iz n) (iz ((2 ^ m - 1 - gw fa g n m a : Nat) : Int)) (iz a) dy = some e := by
  have p64 : 2 ^ m ≤ 64 := Nat.pow_le_pow_right (n := 2) (by omega) (show m ≤ 6 by omega)
  have a1 : iz f + (1 : Int32) = iz ((f + 1 : Nat) : Int) := iz_add f 1
  have i1 : ib (iz ((f + 1 : Nat) : Int)) 32 := (ib_iz (by omega) (by omega)).mpr ⟨by omega, by omega⟩
  intro r
  induction r with
  | zero =>
    intro k a dy hs hk hst hu hr
    obtain ⟨k, rfl⟩ : ∃ j, k = j + 1 := ⟨k - 1, by omega⟩
    refine ⟨dy, hst, rfl, fun h' q => hr h' (by omega), ?_⟩
    rw [F_X10_findMatch_227_s, if_pos (show iz (n : Int) ≤ iz (a : Int) by (first | exact iz_ib (by omega) | exact iz_nle (by omega) | exact iz_lei (by omega) | exact iz_nlt (by omega) | exact iz_lti (by omega) | exact iz_nei (by omega) | omega))]
  | succ r ih =>
    intro k a dy hs hk hst hu hr
    obtain ⟨k, rfl⟩ : ∃ j, k = j + 1 := ⟨k - 1, by omega⟩
    have ia : ib (iz (a : Int)) 6 := (ib_iz (by omega) (by omega)).mpr ⟨by omega, by omega⟩
    have hm2 : gi (si dy 544 a (-1)) 525 (f + 1) = iz m := by
      rw [gi_si_if, if_neg (fun z => absurd z.1 (by decide)), hst.1 525 _ (fun q => absurd q.1 (by decide)) (by decide) (by decide)]; exact hm'
    have hg := gw_lt fa g n m hm a
    obtain ⟨e1, s1, c1, t1, k1, v1, F1⟩ := m_fm253 N f a n m (gw fa g n m a) g fa d0 hf (by omega) hn6 hm hg hfa (F_X10_findMatch_227 Z0.1 N k) m N (si dy 544 a (-1)) (Nat.le_refl m) (by omega) (st43_si44 d0 dy hst _ _) (fun h' l' q1 q2 => by
      rw [gi_si_if, if_neg (fun z => absurd z.1 (by decide))]; exact hu h' l' q1 q2) (by rw [gi_si_if, if_pos ⟨rfl, rfl⟩, Nat.sub_self]; rfl)
    obtain ⟨e, s2, c2, r2, F2⟩ := ih k (a + 1) e1 (by omega) (by omega) s1 (fun h' l' q1 q2 => by
      rw [t1, gi_si_if, if_neg (fun z => absurd z.1 (by decide))]; exact hu h' l' q1 q2) (fun h' q => by
      by_cases q2 : h' = a
      · rw [q2]; exact v1
      · rw [k1 h' q2, gi_si_if, if_neg (fun z => q2 z.2)]; exact hr h' (by omega))
    refine ⟨e, s2, ?_, r2, ?_⟩
    · rw [c2, c1, gi_si_if, if_neg (fun z => absurd z.1 (by decide))]
    · have eg : (if pp fa g n m a (gw fa g n m a) = -1 then iz ((2 ^ m - 1 - gw fa g n m a : Nat) : Int) - 0 else iz ((2 ^ m - 1 - gw fa g n m a : Nat) : Int) - (1 : Int32) <<< (pp fa g n m a (gw fa g n m a) &&& 31)) = iz ((2 ^ m - 1 - gw fa g n m (a + 1) : Nat) : Int) := by
        by_cases q : pp fa g n m a (gw fa g n m a) = -1
        · rw [if_pos q, show gw fa g n m (a + 1) = gw fa g n m a from if_pos q, l_0, iz_sub]
          exact congrArg iz (by omega)
        · rw [if_neg q, show gw fa g n m (a + 1) = gw fa g n m a ||| 2 ^ (pp fa g n m a (gw fa g n m a)).toNatClampNeg from if_neg q]
          rcases lpI_cases (gw fa g n m a) (fun b => fa a b + tt fa g n m (n - (a + 1)) (gw fa g n m a ||| 2 ^ b)) (tt fa g n m (n - a) (gw fa g n m a)) m m (Nat.le_refl m) with e | ⟨b, hb, hb2, e⟩
          · exact absurd e q
          · have e' : pp fa g n m a (gw fa g n m a) = iz b := e
            have q1 := bt_cmp2 m hm b hb _ hg hb2
            have hge := bt_ge b (by omega) (2 ^ m - 1 - gw fa g n m a) (by omega) q1
            rw [e', tnn _ b rfl (by omega), bt_shl b (by omega), iz_sub, bt_cmp4 m hm b hb _ hg hb2]
            exact congrArg iz (by omega)
      rw [eg] at F1
      rw [F_X10_findMatch_227_s, if_neg (show ¬ iz (n : Int) ≤ iz (a : Int) by (first | exact iz_ib (by omega) | exact iz_nle (by omega) | exact iz_lei (by omega) | exact iz_nlt (by omega) | exact iz_lti (by omega) | exact iz_nei (by omega) | omega)), if_pos ia, bd_eq, a1, if_pos i1, r_510_57, r_510_15, tnn _ a rfl (by omega), tnn _ (f + 1) rfl (by omega), hm2, show iz m - (1 : Int32) = iz ((m : Int) - 1) from iz_sub m 1]
      exact F1.trans F2
theorem m_findMatch (N f n m : Nat) (g : Int32) (fa : Nat → Nat → Int32) (dy : DY) (hN : 65 ≤ N) (hf : f < 7) (hn6 : n ≤ 6) (hm : m < 7) (hn : gi dy 525 f = iz n) (hm' : gi dy 525 (f + 1) = iz m) (hfa : ∀ a b, a < 6 → b < 6 → faM dy f a b = fa a b) : ∃ e : DY, st43 dy e ∧ gi e 510 58 = tt fa g n m n 0 ∧ (∀ h', h' < n → gi e 544 h' = pp fa g n m h' (gw fa g n m h')) ∧ F_X10_findMatch Z0.1 N 510 (iz f) g dy = some e := by
  have p64 : 2 ^ m ≤ 64 := Nat.pow_le_pow_right (n := 2) (by omega) (show m ≤ 6 by omega)
  obtain ⟨e1, s1, u1, F1⟩ := m_fm22 N f n m g fa dy hN hf hn6 hm (2 ^ m) N 0 dy (by omega) (by omega) ⟨fun _ _ _ _ _ => rfl, fun _ _ => rfl⟩ (fun s' q => absurd q (by omega))
  obtain ⟨e2, s2, c2, u2, F2⟩ := m_fm59 N f n m g fa dy hN hf hn6 hm hm' hfa n N e1 (Nat.le_refl n) (by omega) s1 (fun h' l' h1 h2 h3 => by
    rw [show h' = n by omega, Nat.sub_self]; exact u1 l' h3)
  obtain ⟨e3, s3, c3, u3, F3⟩ := m_fm227 N f n m g fa dy (by omega) hf hn6 hm hm' hfa n N 0 e2 (by omega) (by omega) s2 u2 (fun h' q => absurd q (by omega))
  refine ⟨e3, s3, c3.trans c2, u3, ?_⟩
  have a1 : iz f + (1 : Int32) = iz ((f + 1 : Nat) : Int) := iz_add f 1
  rw [F_X10_findMatch_s, if_pos (show ib (iz (f : Int)) 32 by (first | exact iz_ib (by omega) | exact iz_nle (by omega) | exact iz_lei (by omega) | exact iz_nlt (by omega) | exact iz_lti (by omega) | exact iz_nei (by omega) | omega)), a1, if_pos (show ib (iz ((f + 1 : Nat) : Int)) 32 by (first | exact iz_ib (by omega) | exact iz_nle (by omega) | exact iz_lei (by omega) | exact iz_nlt (by omega) | exact iz_lti (by omega) | exact iz_nei (by omega) | omega)), r_510_15, tnn _ f rfl (by omega), tnn _ (f + 1) rfl (by omega), hn, hm', bt_shl m hm]
  exact F1.trans (F2.trans F3)
