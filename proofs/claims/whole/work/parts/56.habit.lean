/-! habit -/
def jz (z : Int) : Int64 := Int64.ofInt z
theorem jz_mul (a b : Int) : jz a * jz b = jz (a * b) := (Int64.ofInt_mul a b).symm
theorem iz_long {z : Int} (h : -2147483648 ≤ z ∧ z < 2147483648) : (iz z).toInt64 = jz z := by
  have h1 : Int32.minValue.toInt = -2147483648 := by decide
  have h2 : Int32.maxValue.toInt = 2147483647 := by decide
  exact Int32.toInt64_ofInt (by omega) (by omega)
theorem lgc0 : lg_cmp (jz ((0 : Nat) : Int)) 0 ≤ 0 := by decide
theorem lgc1 : ∀ z : Nat, z < 17 → 0 < z → ¬ lg_cmp (jz (z : Int)) 0 ≤ 0 := by decide +kernel
theorem mx_b : ∀ n : Nat, n < 9 → ∀ i : Nat, i < n + 1 → i * (n - i) < 17 ∧ (0 < i ∧ i < n ↔ 0 < i * (n - i)) := by decide +kernel
def mx (n i : Nat) : Int64 := jz ((i * (n - i) : Nat) : Int)
def hb (n : Nat) (C s pl ql : Int64) (to : Nat) : Nat → Nat → Int64
  | 0, i => if i = to then 1 else 0
  | m + 1, i => (C - s * mx n i) * hb n C s pl ql to m i + (if 0 < i ∧ i < n then (pl * mx n i) * hb n C s pl ql to m (i + 1) + (ql * mx n i) * hb n C s pl ql to m (i - 1) else 0)
theorem hb_far (n : Nat) (C s pl ql : Int64) (to : Nat) : ∀ m i : Nat, (i + m < to ∨ to + m < i) → hb n C s pl ql to m i = 0
  | 0, i, h => if_neg (by omega)
  | m + 1, i, h => by
    show (C - s * mx n i) * hb n C s pl ql to m i + (if 0 < i ∧ i < n then (pl * mx n i) * hb n C s pl ql to m (i + 1) + (ql * mx n i) * hb n C s pl ql to m (i - 1) else 0) = 0
    rw [hb_far n C s pl ql to m i (by omega), Int64.mul_zero]
    by_cases q : 0 < i ∧ i < n
    · rw [if_pos q, hb_far n C s pl ql to m (i + 1) (by omega), hb_far n C s pl ql to m (i - 1) (by omega), Int64.mul_zero, Int64.mul_zero]
      rfl
    · rw [if_neg q]
      rfl
theorem absI (z : Int) (h : -2147483647 ≤ z ∧ z < 2147483648) : (if 0 ≤ iz z then iz z else 0 - iz z) = iz (z.natAbs : Int) := by
  by_cases q : 0 ≤ z
  · rw [if_pos (show (0 : Int32) ≤ iz z from iz_lei (a := 0) (by omega))]
    exact congrArg iz (by omega)
  · rw [if_neg (show ¬ (0 : Int32) ≤ iz z from iz_nle (a := 0) (by omega)), l_0, iz_sub]
    exact congrArg iz (by omega)
theorem c_habitP (S : ST) (N n to : Nat) (pI qI : Int32) (hn : n ≤ 8) (ht : to ≤ 8) : ∀ (m dep i : Nat) (dy : DY), m < dep → i ≤ n → m ≤ 6 → F_X9_habitParts S N dep (iz n) (iz i) pI qI (iz m) (iz to) dy = some (hb n (((6 : Int64) * (iz n).toInt64) * (iz n - (1 : Int32)).toInt64) (pI + qI).toInt64 pI.toInt64 qI.toInt64 to m i, dy) := by
  intro m
  induction m with
  | zero =>
    intro dep i dy hd hi hm
    obtain ⟨dep, rfl⟩ : ∃ j, dep = j + 1 := ⟨dep - 1, by omega⟩
    rw [F_X9_habitParts_s, if_pos (by decide), F_X9_habitParts_17_s]
    show _ = some ((if i = to then 1 else 0), dy)
    by_cases q : i = to
    · rw [if_pos q, if_pos (by rw [q])]
    · rw [if_neg q, if_neg (show ¬ iz (i : Int) = iz (to : Int) from iz_nei (by omega))]
  | succ m ih =>
    intro dep i dy hd hi hm
    obtain ⟨dep, rfl⟩ : ∃ j, dep = j + 1 := ⟨dep - 1, by omega⟩
    have a1 : iz ((m + 1 : Nat) : Int) - (1 : Int32) = iz (m : Int) := by rw [l_1, iz_sub]; exact congrArg iz (by omega)
    have a2 : iz (i : Int) + (1 : Int32) = iz ((i + 1 : Nat) : Int) := iz_add i 1
    have a3 : iz (to : Int) - iz (i : Int) = iz ((to : Int) - i) := iz_sub _ _
    have em : (iz (i : Int)).toInt64 * (iz (n : Int) - iz (i : Int)).toInt64 = mx n i := by
      rw [iz_sub, iz_long (by omega), iz_long (by omega), jz_mul]
      unfold mx
      rw [show (n : Int) - (i : Int) = ((n - i : Nat) : Int) by omega]
      rfl
    obtain ⟨b1, b2⟩ := mx_b n (by omega) i (by omega)
    rw [F_X9_habitParts_s, if_neg (show ¬ iz ((m + 1 : Nat) : Int) ≤ 0 from iz_nle (b := 0) (by omega)), a3, absI _ (by omega), a1, em]
    by_cases nr : (((to : Int) - i).natAbs : Int) ≤ ((m + 1 : Nat) : Int)
    · rw [if_pos (iz_lei (by omega)), ih dep i dy (by omega) hi (by omega), sb_eq]
      show _ = some (_ * _ + (if 0 < i ∧ i < n then _ else 0), dy)
      by_cases q : 0 < i ∧ i < n
      · have g : ¬ lg_cmp (mx n i) 0 ≤ 0 := lgc1 _ b1 (b2.mp q)
        have a4 : iz (i : Int) - (1 : Int32) = iz ((i - 1 : Nat) : Int) := by rw [l_1, iz_sub]; exact congrArg iz (by omega)
        rw [if_neg g, if_pos q, a2, a4, ih dep (i + 1) _ (by omega) (by omega) (by omega), sb_eq, ih dep (i - 1) _ (by omega) (by omega) (by omega), sb_eq, Int64.add_assoc]
      · have g : lg_cmp (mx n i) 0 ≤ 0 := by
          have z : i * (n - i) = 0 := by
            have := mt b2.mpr q
            omega
          show lg_cmp (jz ((i * (n - i) : Nat) : Int)) 0 ≤ 0
          rw [z]
          exact lgc0
        rw [if_pos g, if_neg q, Int64.add_zero]
    · rw [if_neg (iz_nle (by omega)), F_X9_habitParts_17_s, if_neg (show ¬ iz (i : Int) = iz (to : Int) from iz_nei (by omega)), hb_far n _ _ _ _ to (m + 1) i (by omega)]
/-! the reference's rows -/
def sg (v H : Nat → Int64) : Nat → Int64
  | 0 => 0
  | n + 1 => sg v H n + v n * H n
theorem sg_congr (v w H : Nat → Int64) : ∀ n : Nat, (∀ i, i < n → v i = w i) → sg v H n = sg w H n
  | 0, _ => rfl
  | n + 1, h => by
    show sg v H n + v n * H n = sg w H n + w n * H n
    rw [sg_congr v w H n (fun i hi => h i (by omega)), h n (by omega)]
theorem sg_add (v w H : Nat → Int64) (x : Int64) (j : Nat) (hw : ∀ i, w i = if i = j then v i + x else v i) : ∀ n : Nat, sg w H n = sg v H n + (if j < n then x * H j else 0)
  | 0 => by rw [if_neg (by omega)]; rfl
  | n + 1 => by
    show sg w H n + w n * H n = sg v H n + v n * H n + _
    rw [sg_add v w H x j hw n, hw n]
    by_cases q : n = j
    · subst q
      rw [if_pos rfl, if_neg (by omega), if_pos (by omega)]
      grind
    · rw [if_neg q]
      by_cases q2 : j < n
      · rw [if_pos q2, if_pos (show j < n + 1 by omega)]
        grind
      · rw [if_neg q2, if_neg (show ¬ j < n + 1 by omega)]
        grind
theorem sg_pick (v H : Nat → Int64) (to : Nat) (hH : ∀ i, H i = if i = to then 1 else 0) : ∀ n : Nat, sg v H n = if to < n then v to else 0
  | 0 => by rw [if_neg (by omega)]; rfl
  | n + 1 => by
    show sg v H n + v n * H n = _
    rw [sg_pick v H to hH n, hH n]
    by_cases q : n = to
    · subst q
      rw [if_pos rfl, if_neg (by omega), if_pos (by omega)]
      grind
    · rw [if_neg q]
      by_cases q2 : to < n
      · rw [if_pos q2, if_pos (show to < n + 1 by omega)]
        grind
      · rw [if_neg q2, if_neg (show ¬ to < n + 1 by omega)]
        grind
theorem sg_pick2 (v H : Nat → Int64) (j : Nat) : ∀ n : Nat, (∀ i, i < n → v i = if i = j then 1 else 0) → sg v H n = if j < n then H j else 0
  | 0, _ => by rw [if_neg (by omega)]; rfl
  | n + 1, hv => by
    show sg v H n + v n * H n = _
    rw [sg_pick2 v H j n (fun i hi => hv i (by omega)), hv n (by omega)]
    by_cases q : n = j
    · subst q
      rw [if_pos rfl, if_neg (by omega), if_pos (by omega)]
      grind
    · rw [if_neg q]
      by_cases q2 : j < n
      · rw [if_pos q2, if_pos (show j < n + 1 by omega)]
        grind
      · rw [if_neg q2, if_neg (show ¬ j < n + 1 by omega)]
        grind
theorem sg_zero (v H : Nat → Int64) : ∀ n : Nat, (∀ i, i < n → v i = 0) → sg v H n = 0
  | 0, _ => rfl
  | n + 1, hv => by
    show sg v H n + v n * H n = 0
    rw [sg_zero v H n (fun i hi => hv i (by omega)), hv n (by omega)]
    grind
/-- what stays: all but the long row 545 -/
def st45 (d e : DY) : Prop := (∀ x k : Nat, gi e x k = gi d x k) ∧ ∀ x k : Nat, x ≠ 545 → gl e x k = gl d x k
theorem st45_sl (d e : DY) (h : st45 d e) (k : Nat) (v : Int64) : st45 d (sl e 545 k v) :=
  ⟨fun x j => h.1 x j, fun x j q => by rw [gl_sl_if, if_neg (fun z => q z.1)]; exact h.2 x j q⟩
theorem gl_45 (dy : DY) (k j : Nat) (v : Int64) : gl (sl dy 545 k v) 545 j = if j = k then v else gl dy 545 j := by
  rw [gl_sl_if]
  by_cases q : j = k
  · rw [if_pos ⟨rfl, q⟩, if_pos q]
  · rw [if_neg (fun z => q z.2), if_neg q]
theorem ib18 (z : Int) (k : Nat) (h : z = k) (hk : k < 18) : ib (iz z) 18 := iz_ib (by omega)
theorem m_hb154 (N n to s : Nat) (x3 x4 x5 x6 x9 : Int32) (C : Int64) (x7 : Int64) (K) (d0 : DY) (R : Nat → Int64) (hn : n ≤ 8) (hC : (12 : Int64) * x7 = C) : ∀ (r k i : Nat) (dy : DY), i + r = n + 1 → r < k → st45 d0 dy → (∀ x, x < 9 → gl dy 545 x = R x) → sg (fun x => gl dy 545 (9 + x)) (hb n C (x3 + x4).toInt64 x3.toInt64 x4.toInt64 to s) (n + 1) = sg R (hb n C (x3 + x4).toInt64 x3.toInt64 x4.toInt64 to (s + 1)) i → ∃ e : DY, st45 d0 e ∧ (∀ x, x < 9 → gl e 545 x = R x) ∧ sg (fun x => gl e 545 (9 + x)) (hb n C (x3 + x4).toInt64 x3.toInt64 x4.toInt64 to s) (n + 1) = sg R (hb n C (x3 + x4).toInt64 x3.toInt64 x4.toInt64 to (s + 1)) (n + 1) ∧ F_X10_habit_154 Z0.1 N K k 510 (iz n) x3 x4 x5 x6 x7 x9 (iz i) dy = F_X10_habit_275 Z0.1 N K N 510 (iz n) x3 x4 x5 x6 x7 x9 0 e := by
  intro r
  induction r with
  | zero =>
    intro k i dy hi hk hst hR hs
    obtain ⟨k, rfl⟩ : ∃ j, k = j + 1 := ⟨k - 1, by omega⟩
    refine ⟨dy, hst, hR, ?_, ?_⟩
    · rw [hs, show i = n + 1 by omega]
    · rw [F_X10_habit_154_s, if_pos (show iz (n : Int) < iz (i : Int) from iz_lti (by omega))]
  | succ r ih =>
    intro k i dy hi hk hst hR hs
    obtain ⟨k, rfl⟩ : ∃ j, k = j + 1 := ⟨k - 1, by omega⟩
    obtain ⟨b1, b2⟩ := mx_b n (by omega) i (by omega)
    have a2 : iz (i : Int) + (1 : Int32) = iz ((i + 1 : Nat) : Int) := iz_add i 1
    have a9 : (9 : Int32) + iz (i : Int) = iz ((9 + i : Nat) : Int) := iz_add 9 i
    have a8 : (8 : Int32) + iz (i : Int) = iz ((8 + i : Nat) : Int) := iz_add 8 i
    have a10 : (10 : Int32) + iz (i : Int) = iz ((10 + i : Nat) : Int) := iz_add 10 i
    have em : (iz (i : Int) * (iz (n : Int) - iz (i : Int))).toInt64 = mx n i := by
      rw [iz_sub, iz_mul, show (i : Int) * ((n : Int) - (i : Int)) = ((i * (n - i) : Nat) : Int) by rw [show (n : Int) - (i : Int) = ((n - i : Nat) : Int) by omega]; rfl, iz_long (by omega)]
      rfl
    rw [F_X10_habit_154_s, if_neg (show ¬ iz (n : Int) < iz (i : Int) from iz_nlt (by omega)), a9, if_pos (ib18 _ (9 + i) rfl (by omega)), if_pos (ib18 _ i rfl (by omega)), if_pos (ib18 _ (9 + i) rfl (by omega)), bd_eq, em, r_510_59, tnn _ (9 + i) rfl (by omega), tnn _ i rfl (by omega), hC, hR i (by omega), a2]
    have ws : ∀ x, (fun x => gl (sl dy 545 (9 + i) (gl dy 545 (9 + i) + R i * (C - mx n i * (x3 + x4).toInt64))) 545 (9 + x)) x = if x = i then (fun x => gl dy 545 (9 + x)) x + R i * (C - mx n i * (x3 + x4).toInt64) else (fun x => gl dy 545 (9 + x)) x := fun x => by
      show gl (sl dy 545 (9 + i) _) 545 (9 + x) = _
      rw [gl_45]
      by_cases q : x = i
      · rw [if_pos q, if_pos (by omega), q]
      · rw [if_neg q, if_neg (by omega)]
    have s1 := sg_add _ _ (hb n C (x3 + x4).toInt64 x3.toInt64 x4.toInt64 to s) _ i ws (n + 1)
    have R1 : ∀ x, x < 9 → gl (sl dy 545 (9 + i) (gl dy 545 (9 + i) + R i * (C - mx n i * (x3 + x4).toInt64))) 545 x = R x := fun x hx => by
      rw [gl_45, if_neg (by omega)]; exact hR x hx
    have t1 := st45_sl d0 dy hst (9 + i) (gl dy 545 (9 + i) + R i * (C - mx n i * (x3 + x4).toInt64))
    rw [if_pos (show i < n + 1 by omega), hs] at s1
    revert s1 R1 t1
    generalize sl dy 545 (9 + i) (gl dy 545 (9 + i) + R i * (C - mx n i * (x3 + x4).toInt64)) = dy3
    intro s1 R1 t1
    have Hs : sg R (hb n C (x3 + x4).toInt64 x3.toInt64 x4.toInt64 to (s + 1)) (i + 1) = sg R (hb n C (x3 + x4).toInt64 x3.toInt64 x4.toInt64 to (s + 1)) i + R i * ((C - (x3 + x4).toInt64 * mx n i) * hb n C (x3 + x4).toInt64 x3.toInt64 x4.toInt64 to s i + (if 0 < i ∧ i < n then (x3.toInt64 * mx n i) * hb n C (x3 + x4).toInt64 x3.toInt64 x4.toInt64 to s (i + 1) + (x4.toInt64 * mx n i) * hb n C (x3 + x4).toInt64 x3.toInt64 x4.toInt64 to s (i - 1) else 0)) := rfl
    by_cases q : 0 < i ∧ i < n
    · have g : ¬ lg_cmp (mx n i) 0 ≤ 0 := lgc1 _ b1 (b2.mp q)
      rw [if_pos q] at Hs
      rw [if_neg g, a10, a8, if_pos (ib18 _ (10 + i) rfl (by omega)), if_pos (ib18 _ i rfl (by omega)), if_pos (ib18 _ (10 + i) rfl (by omega)), bd_eq, if_pos (ib18 _ (8 + i) rfl (by omega)), if_pos (ib18 _ i rfl (by omega)), if_pos (ib18 _ (8 + i) rfl (by omega)), bd_eq, tnn _ (10 + i) rfl (by omega), tnn _ (8 + i) rfl (by omega), R1 i (by omega)]
      have ws2 : ∀ x, (fun x => gl (sl dy3 545 (10 + i) (gl dy3 545 (10 + i) + R i * mx n i * x3.toInt64)) 545 (9 + x)) x = if x = i + 1 then (fun x => gl dy3 545 (9 + x)) x + R i * mx n i * x3.toInt64 else (fun x => gl dy3 545 (9 + x)) x := fun x => by
        show gl (sl dy3 545 (10 + i) _) 545 (9 + x) = _
        rw [gl_45]
        by_cases q : x = i + 1
        · rw [if_pos q, if_pos (by omega), q]
          show _ = gl dy3 545 (9 + (i + 1)) + _
          rw [show 9 + (i + 1) = 10 + i by omega]
        · rw [if_neg q, if_neg (by omega)]
      have s2 := sg_add _ _ (hb n C (x3 + x4).toInt64 x3.toInt64 x4.toInt64 to s) _ (i + 1) ws2 (n + 1)
      have R2 : ∀ x, x < 9 → gl (sl dy3 545 (10 + i) (gl dy3 545 (10 + i) + R i * mx n i * x3.toInt64)) 545 x = R x := fun x hx => by
        rw [gl_45, if_neg (by omega)]; exact R1 x hx
      have t2 := st45_sl d0 dy3 t1 (10 + i) (gl dy3 545 (10 + i) + R i * mx n i * x3.toInt64)
      rw [if_pos (show i + 1 < n + 1 by omega), s1] at s2
      revert s2 R2 t2
      generalize sl dy3 545 (10 + i) (gl dy3 545 (10 + i) + R i * mx n i * x3.toInt64) = dy6
      intro s2 R2 t2
      rw [R2 i (by omega)]
      have ws3 : ∀ x, (fun x => gl (sl dy6 545 (8 + i) (gl dy6 545 (8 + i) + R i * mx n i * x4.toInt64)) 545 (9 + x)) x = if x = i - 1 then (fun x => gl dy6 545 (9 + x)) x + R i * mx n i * x4.toInt64 else (fun x => gl dy6 545 (9 + x)) x := fun x => by
        show gl (sl dy6 545 (8 + i) _) 545 (9 + x) = _
        rw [gl_45]
        by_cases q : x = i - 1
        · rw [if_pos q, if_pos (by omega), q]
          show _ = gl dy6 545 (9 + (i - 1)) + _
          rw [show 9 + (i - 1) = 8 + i by omega]
        · rw [if_neg q, if_neg (by omega)]
      have s3 := sg_add _ _ (hb n C (x3 + x4).toInt64 x3.toInt64 x4.toInt64 to s) _ (i - 1) ws3 (n + 1)
      have R3 : ∀ x, x < 9 → gl (sl dy6 545 (8 + i) (gl dy6 545 (8 + i) + R i * mx n i * x4.toInt64)) 545 x = R x := fun x hx => by
        rw [gl_45, if_neg (by omega)]; exact R2 x hx
      have t3 := st45_sl d0 dy6 t2 (8 + i) (gl dy6 545 (8 + i) + R i * mx n i * x4.toInt64)
      rw [if_pos (show i - 1 < n + 1 by omega), s2] at s3
      exact ih k (i + 1) _ (by omega) (by omega) t3 R3 (by rw [s3, Hs]; grind)
    · have g : lg_cmp (mx n i) 0 ≤ 0 := by
        have z : i * (n - i) = 0 := by
          have := mt b2.mpr q
          omega
        show lg_cmp (jz ((i * (n - i) : Nat) : Int)) 0 ≤ 0
        rw [z]
        exact lgc0
      rw [if_neg q] at Hs
      rw [if_pos g]
      exact ih k (i + 1) _ (by omega) (by omega) t1 R1 (by rw [s1, Hs]; grind)
theorem m_hb275 (N n : Nat) (x3 x4 x5 x6 x9 : Int32) (x7 : Int64) (K) (d0 : DY) (R : Nat → Int64) (hn : n ≤ 8) : ∀ (r k i : Nat) (dy : DY), i + r = n + 1 → r < k → st45 d0 dy → (∀ x, x ≤ n → gl dy 545 (9 + x) = R x) → (∀ x, x < i → gl dy 545 x = R x) → ∃ e : DY, st45 d0 e ∧ (∀ x, x ≤ n → gl e 545 x = R x) ∧ F_X10_habit_275 Z0.1 N K k 510 (iz n) x3 x4 x5 x6 x7 x9 (iz i) dy = K 510 (iz n) x3 x4 x5 x6 x7 (x9 + 1) e := by
  intro r
  induction r with
  | zero =>
    intro k i dy hi hk hst hR hs
    obtain ⟨k, rfl⟩ : ∃ j, k = j + 1 := ⟨k - 1, by omega⟩
    refine ⟨dy, hst, fun x hx => hs x (by omega), ?_⟩
    rw [F_X10_habit_275_s, if_pos (show iz (n : Int) < iz (i : Int) from iz_lti (by omega))]
  | succ r ih =>
    intro k i dy hi hk hst hR hs
    obtain ⟨k, rfl⟩ : ∃ j, k = j + 1 := ⟨k - 1, by omega⟩
    have a9 : (9 : Int32) + iz (i : Int) = iz ((9 + i : Nat) : Int) := iz_add 9 i
    rw [F_X10_habit_275_s, if_neg (show ¬ iz (n : Int) < iz (i : Int) from iz_nlt (by omega)), a9, if_pos (ib18 _ (9 + i) rfl (by omega)), if_pos (ib18 _ i rfl (by omega)), bd_eq, r_510_59, tnn _ (9 + i) rfl (by omega), tnn _ i rfl (by omega), hR i (by omega), show iz (i : Int) + (1 : Int32) = iz ((i + 1 : Nat) : Int) from iz_add i 1]
    exact ih k (i + 1) _ (by omega) (by omega) (st45_sl d0 dy hst _ _) (fun x hx => by rw [gl_45, if_neg (by omega)]; exact hR x hx) (fun x hx => by
      rw [gl_45]
      by_cases q : x = i
      · rw [if_pos q, q]
      · rw [if_neg q]; exact hs x (by omega))
theorem m_hb128 (N n : Nat) (x3 x4 x5 x6 x9 : Int32) (x7 : Int64) (K) (d0 : DY) (R : Nat → Int64) (hn : n ≤ 8) : ∀ (r k i : Nat) (dy : DY), i + r = n + 1 → r < k → st45 d0 dy → (∀ x, x < 9 → gl dy 545 x = R x) → (∀ x, x < i → gl dy 545 (9 + x) = 0) → ∃ e : DY, st45 d0 e ∧ (∀ x, x < 9 → gl e 545 x = R x) ∧ (∀ x, x < n + 1 → gl e 545 (9 + x) = 0) ∧ F_X10_habit_128 Z0.1 N K k 510 (iz n) x3 x4 x5 x6 x7 x9 (iz i) dy = F_X10_habit_154 Z0.1 N K N 510 (iz n) x3 x4 x5 x6 x7 x9 0 e := by
  intro r
  induction r with
  | zero =>
    intro k i dy hi hk hst hR hs
    obtain ⟨k, rfl⟩ : ∃ j, k = j + 1 := ⟨k - 1, by omega⟩
    refine ⟨dy, hst, hR, fun x hx => hs x (by omega), ?_⟩
    rw [F_X10_habit_128_s, if_pos (show iz (n : Int) < iz (i : Int) from iz_lti (by omega))]
  | succ r ih =>
    intro k i dy hi hk hst hR hs
    obtain ⟨k, rfl⟩ : ∃ j, k = j + 1 := ⟨k - 1, by omega⟩
    have a9 : (9 : Int32) + iz (i : Int) = iz ((9 + i : Nat) : Int) := iz_add 9 i
    rw [F_X10_habit_128_s, if_neg (show ¬ iz (n : Int) < iz (i : Int) from iz_nlt (by omega)), a9, if_pos (ib18 _ (9 + i) rfl (by omega)), bd_eq, r_510_59, tnn _ (9 + i) rfl (by omega), show iz (i : Int) + (1 : Int32) = iz ((i + 1 : Nat) : Int) from iz_add i 1]
    exact ih k (i + 1) _ (by omega) (by omega) (st45_sl d0 dy hst _ _) (fun x hx => by rw [gl_45, if_neg (by omega)]; exact hR x hx) (fun x hx => by
      rw [gl_45]
      by_cases q : x = i
      · rw [if_pos (by omega)]
      · rw [if_neg (by omega)]; exact hs x (by omega))
theorem m_hb118 (N n to m k0 : Nat) (x3 x4 : Int32) (C : Int64) (x7 : Int64) (d0 : DY) (hN : 10 ≤ N) (hn : n ≤ 8) (ht : to ≤ n) (hm : m ≤ 6) (hC : (12 : Int64) * x7 = C) : ∀ (d t k : Nat) (dy : DY), t + d = m → d < k → st45 d0 dy → sg (fun x => gl dy 545 x) (hb n C (x3 + x4).toInt64 x3.toInt64 x4.toInt64 to d) (n + 1) = hb n C (x3 + x4).toInt64 x3.toInt64 x4.toInt64 to m k0 → ∃ e : DY, st45 d0 e ∧ F_X10_habit_118 Z0.1 N k 510 (iz n) x3 x4 (iz m) (iz to) x7 (iz t) dy = some (hb n C (x3 + x4).toInt64 x3.toInt64 x4.toInt64 to m k0, e) := by
  intro d
  induction d with
  | zero =>
    intro t k dy hd hk hst hs
    obtain ⟨k, rfl⟩ : ∃ j, k = j + 1 := ⟨k - 1, by omega⟩
    refine ⟨dy, hst, ?_⟩
    rw [F_X10_habit_118_s, if_pos (show iz (m : Int) ≤ iz (t : Int) from iz_lei (by omega)), if_pos (ib18 _ to rfl (by omega)), r_510_59, tnn _ to rfl (by omega), ← hs, sg_pick _ (hb n C (x3 + x4).toInt64 x3.toInt64 x4.toInt64 to 0) to (fun i => rfl), if_pos (by omega)]
  | succ d ih =>
    intro t k dy hd hk hst hs
    obtain ⟨k, rfl⟩ : ∃ j, k = j + 1 := ⟨k - 1, by omega⟩
    obtain ⟨e1, s1, r1, z1, F1⟩ := m_hb128 N n x3 x4 (iz m) (iz to) (iz t) x7 (F_X10_habit_118 Z0.1 N k) d0 (fun x => gl dy 545 x) hn (n + 1) N 0 dy (by omega) (by omega) hst (fun _ _ => rfl) (fun x hx => absurd hx (by omega))
    obtain ⟨e2, s2, r2, g2, F2⟩ := m_hb154 N n to d x3 x4 (iz m) (iz to) (iz t) C x7 (F_X10_habit_118 Z0.1 N k) d0 (fun x => gl dy 545 x) hn hC (n + 1) N 0 e1 (by omega) (by omega) s1 r1 (by
      rw [sg_zero _ _ (n + 1) z1]; rfl)
    obtain ⟨e3, s3, r3, F3⟩ := m_hb275 N n x3 x4 (iz m) (iz to) (iz t) x7 (F_X10_habit_118 Z0.1 N k) d0 (fun x => gl e2 545 (9 + x)) hn (n + 1) N 0 e2 (by omega) (by omega) s2 (fun _ _ => rfl) (fun x hx => absurd hx (by omega))
    obtain ⟨e, s4, F4⟩ := ih (t + 1) k e3 (by omega) (by omega) s3 (by
      rw [sg_congr _ (fun x => gl e2 545 (9 + x)) _ (n + 1) (fun i hi => r3 i (by omega)), g2]
      exact hs)
    refine ⟨e, s4, ?_⟩
    rw [F_X10_habit_118_s, if_neg (show ¬ iz (m : Int) ≤ iz (t : Int) from iz_nle (by omega))]
    have a1 : iz (t : Int) + (1 : Int32) = iz ((t + 1 : Nat) : Int) := iz_add t 1
    rw [a1] at F3
    exact F1.trans (F2.trans (F3.trans F4))
theorem m_hb75 (N n k0 : Nat) (x3 x4 x5 x6 : Int32) (d0 : DY) (hn : n ≤ 8) (hk0 : k0 ≤ n) : ∀ (r k i : Nat) (dy : DY), i + r = n + 1 → r < k → st45 d0 dy → (∀ x, x < i → gl dy 545 x = if x = k0 then 1 else 0) → ∃ e : DY, st45 d0 e ∧ (∀ x, x < n + 1 → gl e 545 x = if x = k0 then 1 else 0) ∧ F_X10_habit_75 Z0.1 N k 510 (iz n) (iz k0) x3 x4 x5 x6 (iz i) dy = F_X10_habit_118 Z0.1 N N 510 (iz n) x3 x4 x5 x6 ((iz n * (iz n - (1 : Int32))) / (2 : Int32)).toInt64 0 e := by
  intro r
  induction r with
  | zero =>
    intro k i dy hi hk hst hs
    obtain ⟨k, rfl⟩ : ∃ j, k = j + 1 := ⟨k - 1, by omega⟩
    refine ⟨dy, hst, fun x hx => hs x (by omega), ?_⟩
    rw [F_X10_habit_75_s, if_pos (show iz (n : Int) < iz (i : Int) from iz_lti (by omega)), if_neg (by decide : ¬ (2 : Int32) = 0)]
  | succ r ih =>
    intro k i dy hi hk hst hs
    obtain ⟨k, rfl⟩ : ∃ j, k = j + 1 := ⟨k - 1, by omega⟩
    have st : ∀ v : Int64, v = (if i = k0 then 1 else 0) → ∃ e : DY, st45 d0 e ∧ (∀ x, x < n + 1 → gl e 545 x = if x = k0 then 1 else 0) ∧ F_X10_habit_75 Z0.1 N k 510 (iz n) (iz k0) x3 x4 x5 x6 (iz ((i + 1 : Nat) : Int)) (sl dy 545 i v) = F_X10_habit_118 Z0.1 N N 510 (iz n) x3 x4 x5 x6 ((iz n * (iz n - (1 : Int32))) / (2 : Int32)).toInt64 0 e := fun v hv =>
      ih k (i + 1) _ (by omega) (by omega) (st45_sl d0 dy hst _ _) (fun x hx => by
        rw [gl_45]
        by_cases q : x = i
        · rw [if_pos q, hv, q]
        · rw [if_neg q]; exact hs x (by omega))
    rw [F_X10_habit_75_s, if_neg (show ¬ iz (n : Int) < iz (i : Int) from iz_nlt (by omega)), F_X10_habit_98_s, F_X10_habit_98_s, if_pos (ib18 _ i rfl (by omega)), bd_eq, bd_eq, r_510_59, tnn _ i rfl (by omega), show iz (i : Int) + (1 : Int32) = iz ((i + 1 : Nat) : Int) from iz_add i 1]
    by_cases q : i = k0
    · rw [if_pos (by rw [q])]
      exact st 1 (if_pos q).symm
    · rw [if_neg (show ¬ iz (i : Int) = iz (k0 : Int) from iz_nei (by omega)), if_pos (ib18 _ i rfl (by omega))]
      exact st 0 (if_neg q).symm
theorem hbC : ∀ n : Nat, n < 9 → (12 : Int64) * ((iz (n : Int) * (iz (n : Int) - (1 : Int32))) / (2 : Int32)).toInt64 = ((6 : Int64) * (iz (n : Int)).toInt64) * (iz (n : Int) - (1 : Int32)).toInt64 := by decide +kernel
theorem c_hab67 (N : Nat) (x1 x2 x3 x4 x6 y0 : Int32) (m : Int) (y1 : Int32) (dy : DY) (m1 : -2147483648 ≤ m) (m2 : m < 2147483648) (h : y1 = 0 ∨ y0 = 0 ∨ m < 0 ∨ 6 < m) : F_X9_habit_67 Z0.1 N x1 x2 x3 x4 (iz m) x6 y1 y0 dy = some (-1, dy) := by
  rw [F_X9_habit_67_s]
  by_cases q1 : y1 = 0
  · rw [if_pos q1]
  · rw [if_neg q1]
    by_cases q2 : y0 = 0
    · rw [if_pos q2]
    · rw [if_neg q2]
      by_cases q3 : m < 0
      · rw [if_pos (iz_lt0 (by omega))]
      · have h6 : 6 < m := by
          rcases h with h | h | h | h
          · exact absurd h q1
          · exact absurd h q2
          · exact absurd h q3
          · exact h
        rw [if_neg (iz_nlt0 (by omega)), if_neg (show ¬ iz m ≤ (6 : Int32) from iz_nle (b := 6) (by omega))]
theorem c_hab36 (N : Nat) (x1 x2 x5 x6 y : Int32) (p q : Int) (dy : DY) (p1 : -2147483648 ≤ p) (p2 : p < 2147483648) (q1 : -2147483648 ≤ q) (q2 : q < 2147483648) : F_X9_habit_36 Z0.1 N x1 x2 (iz p) (iz q) x5 x6 y dy = F_X9_habit_67 Z0.1 N x1 x2 (iz p) (iz q) x5 x6 y (if (0 ≤ p ∧ p ≤ 12) ∧ (0 ≤ q ∧ q ≤ 12 - p) then 1 else 0) dy := by
  rw [F_X9_habit_36_s]
  by_cases h1 : p < 0
  · rw [if_pos (iz_lt0 (by omega)), if_neg (show ¬ ((0 ≤ p ∧ p ≤ 12) ∧ (0 ≤ q ∧ q ≤ 12 - p)) by omega)]
  · rw [if_neg (iz_nlt0 (by omega))]
    by_cases h2 : 12 < p
    · rw [if_pos (show (12 : Int32) < iz p from iz_lti (a := 12) (by omega)), if_neg (show ¬ ((0 ≤ p ∧ p ≤ 12) ∧ (0 ≤ q ∧ q ≤ 12 - p)) by omega)]
    · rw [if_neg (show ¬ (12 : Int32) < iz p from iz_nlt (a := 12) (by omega))]
      by_cases h3 : q < 0
      · rw [if_pos (iz_lt0 (by omega)), if_neg (show ¬ ((0 ≤ p ∧ p ≤ 12) ∧ (0 ≤ q ∧ q ≤ 12 - p)) by omega)]
      · rw [if_neg (iz_nlt0 (by omega)), show (12 : Int32) - iz p = iz (12 - p) from iz_sub 12 p]
        by_cases h4 : 12 - p < q
        · rw [if_pos (iz_lti (by omega)), if_neg (show ¬ ((0 ≤ p ∧ p ≤ 12) ∧ (0 ≤ q ∧ q ≤ 12 - p)) by omega)]
        · rw [if_neg (iz_nlt (by omega)), if_pos (show ((0 ≤ p ∧ p ≤ 12) ∧ (0 ≤ q ∧ q ≤ 12 - p)) by omega)]
theorem c_hab (N : Nat) (x3 x4 x5 : Int32) (n k to : Int) (dy : DY) (n1 : -2147483648 ≤ n) (n2 : n < 2147483648) (k1 : -2147483648 ≤ k) (k2 : k < 2147483648) (t1 : -2147483648 ≤ to) (t2 : to < 2147483648) : F_X9_habit Z0.1 N 1 (iz n) (iz k) x3 x4 x5 (iz to) dy = F_X9_habit_36 Z0.1 N (iz n) (iz k) x3 x4 x5 (iz to) (if (2 ≤ n ∧ n ≤ 8) ∧ (0 ≤ k ∧ k ≤ n) ∧ (0 ≤ to ∧ to ≤ n) then 1 else 0) dy := by
  rw [F_X9_habit_s]
  by_cases h1 : n < 2
  · rw [if_pos (show iz n < (2 : Int32) from iz_lti (b := 2) (by omega)), if_neg (show ¬ ((2 ≤ n ∧ n ≤ 8) ∧ (0 ≤ k ∧ k ≤ n) ∧ (0 ≤ to ∧ to ≤ n)) by omega)]
  · rw [if_neg (show ¬ iz n < (2 : Int32) from iz_nlt (b := 2) (by omega))]
    by_cases h2 : 8 < n
    · rw [if_pos (show (8 : Int32) < iz n from iz_lti (a := 8) (by omega)), if_neg (show ¬ ((2 ≤ n ∧ n ≤ 8) ∧ (0 ≤ k ∧ k ≤ n) ∧ (0 ≤ to ∧ to ≤ n)) by omega)]
    · rw [if_neg (show ¬ (8 : Int32) < iz n from iz_nlt (b := n) (a := 8) (by omega))]
      by_cases h3 : k < 0
      · rw [if_pos (iz_lt0 (by omega)), if_neg (show ¬ ((2 ≤ n ∧ n ≤ 8) ∧ (0 ≤ k ∧ k ≤ n) ∧ (0 ≤ to ∧ to ≤ n)) by omega)]
      · rw [if_neg (iz_nlt0 (by omega))]
        by_cases h4 : n < k
        · rw [if_pos (iz_lti (by omega)), if_neg (show ¬ ((2 ≤ n ∧ n ≤ 8) ∧ (0 ≤ k ∧ k ≤ n) ∧ (0 ≤ to ∧ to ≤ n)) by omega)]
        · rw [if_neg (iz_nlt (by omega))]
          by_cases h5 : to < 0
          · rw [if_pos (iz_lt0 (by omega)), if_neg (show ¬ ((2 ≤ n ∧ n ≤ 8) ∧ (0 ≤ k ∧ k ≤ n) ∧ (0 ≤ to ∧ to ≤ n)) by omega)]
          · rw [if_neg (iz_nlt0 (by omega))]
            by_cases h6 : n < to
            · rw [if_pos (iz_lti (by omega)), if_neg (show ¬ ((2 ≤ n ∧ n ≤ 8) ∧ (0 ≤ k ∧ k ≤ n) ∧ (0 ≤ to ∧ to ≤ n)) by omega)]
            · rw [if_neg (iz_nlt (by omega)), if_pos (show ((2 ≤ n ∧ n ≤ 8) ∧ (0 ≤ k ∧ k ≤ n) ∧ (0 ≤ to ∧ to ≤ n)) by omega)]
theorem eq_habit (N : Nat) (a b c d e f : Int32) (dy : DY) (hN : 10 ≤ N) : ∃ r dy1 dy2, F_X9_habit Z0.1 N 1 a b c d e f dy = some (r, dy1) ∧ F_X10_habit Z0.1 N 510 a b c d e f dy1 = some (r, dy2) ∧ (∀ x k : Nat, ¬ (x = 510 ∧ k = 0) → gi dy2 x k = gi dy x k) ∧ ∀ x k : Nat, x ≠ 545 → gl dy2 x k = gl dy x k := by
  obtain ⟨n, rfl, n1, n2⟩ := iz_ex a
  obtain ⟨k, rfl, k1, k2⟩ := iz_ex b
  obtain ⟨p, rfl, p1, p2⟩ := iz_ex c
  obtain ⟨q, rfl, q1, q2⟩ := iz_ex d
  obtain ⟨m, rfl, m1, m2⟩ := iz_ex e
  obtain ⟨to, rfl, t1, t2⟩ := iz_ex f
  have o1 : ¬ (1 : Int32) = 0 := by decide
  have hc := c_hab N (iz p) (iz q) (iz m) n k to dy n1 n2 k1 k2 t1 t2
  rw [c_hab36 N _ _ _ _ _ p q dy p1 p2 q1 q2] at hc
  have fr : ∀ x k : Nat, ¬ (x = 510 ∧ k = 0) → gi (si dy 510 0 0) x k = gi dy x k := fun x k q => by rw [gi_si_if, if_neg q]
  have i1 : ∀ e : DY, F_X10_in Z0.1 N (iz n) 2 8 e = some (if 2 ≤ n ∧ n ≤ 8 then 1 else 0, e) := fun e => m_inz _ _ n 2 8 e n1 n2 (by omega) (by omega) (by omega) (by omega)
  have i2 : ∀ e : DY, F_X10_in Z0.1 N (iz k) 0 (iz n) e = some (if 0 ≤ k ∧ k ≤ n then 1 else 0, e) := fun e => m_inz _ _ k 0 n e k1 k2 (by omega) (by omega) n1 n2
  have i3 : ∀ e : DY, F_X10_in Z0.1 N (iz p) 0 12 e = some (if 0 ≤ p ∧ p ≤ 12 then 1 else 0, e) := fun e => m_inz _ _ p 0 12 e p1 p2 (by omega) (by omega) (by omega) (by omega)
  have i5 : ∀ e : DY, F_X10_in Z0.1 N (iz m) 0 6 e = some (if 0 ≤ m ∧ m ≤ 6 then 1 else 0, e) := fun e => m_inz _ _ m 0 6 e m1 m2 (by omega) (by omega) (by omega) (by omega)
  have i6 : ∀ e : DY, F_X10_in Z0.1 N (iz to) 0 (iz n) e = some (if 0 ≤ to ∧ to ≤ n then 1 else 0, e) := fun e => m_inz _ _ to 0 n e t1 t2 (by omega) (by omega) n1 n2
  have hM := F_X10_habit_s Z0.1 N 510 (iz n) (iz k) (iz p) (iz q) (iz m) (iz to) dy
  have bad : ((2 ≤ n ∧ n ≤ 8) ∧ (0 ≤ k ∧ k ≤ n) ∧ (0 ≤ to ∧ to ≤ n) → (0 ≤ p ∧ p ≤ 12) ∧ (0 ≤ q ∧ q ≤ 12 - p) → 0 ≤ m ∧ m ≤ 6 → False) → F_X9_habit Z0.1 N 1 (iz n) (iz k) (iz p) (iz q) (iz m) (iz to) dy = some (-1, dy) := fun w => by
    rw [hc]
    refine c_hab67 N _ _ _ _ _ _ m _ dy m1 m2 ?_
    by_cases w1 : (2 ≤ n ∧ n ≤ 8) ∧ (0 ≤ k ∧ k ≤ n) ∧ (0 ≤ to ∧ to ≤ n)
    · by_cases w2 : (0 ≤ p ∧ p ≤ 12) ∧ (0 ≤ q ∧ q ≤ 12 - p)
      · have : ¬ (0 ≤ m ∧ m ≤ 6) := fun h => w w1 w2 h
        omega
      · exact Or.inr (Or.inl (if_neg w2))
    · exact Or.inl (if_neg w1)
  rw [bd_eq, i1, sb_eq] at hM
  by_cases h1 : 2 ≤ n ∧ n ≤ 8
  · rw [if_pos h1, if_neg o1, i2, sb_eq] at hM
    by_cases h2 : 0 ≤ k ∧ k ≤ n
    · rw [if_pos h2, if_neg o1, i3, sb_eq] at hM
      by_cases h3 : 0 ≤ p ∧ p ≤ 12
      · have i4 : ∀ e : DY, F_X10_in Z0.1 N (iz q) 0 ((12 : Int32) - iz p) e = some (if 0 ≤ q ∧ q ≤ 12 - p then 1 else 0, e) := fun e => by
          rw [show (12 : Int32) - iz p = iz (12 - p) from iz_sub 12 p]
          exact m_inz _ _ q 0 (12 - p) e q1 q2 (by omega) (by omega) (by omega) (by omega)
        rw [if_pos h3, if_neg o1, i4, sb_eq] at hM
        by_cases h4 : 0 ≤ q ∧ q ≤ 12 - p
        · rw [if_pos h4, if_neg o1, i5, sb_eq] at hM
          by_cases h5 : 0 ≤ m ∧ m ≤ 6
          · rw [if_pos h5, if_neg o1, i6, sb_eq] at hM
            by_cases h6 : 0 ≤ to ∧ to ≤ n
            · rw [if_pos h6, if_neg o1] at hM
              obtain ⟨n, rfl⟩ : ∃ x : Nat, n = x := ⟨n.toNat, by omega⟩
              obtain ⟨k, rfl⟩ : ∃ x : Nat, k = x := ⟨k.toNat, by omega⟩
              obtain ⟨m, rfl⟩ : ∃ x : Nat, m = x := ⟨m.toNat, by omega⟩
              obtain ⟨to, rfl⟩ : ∃ x : Nat, to = x := ⟨to.toNat, by omega⟩
              rw [if_pos ⟨h1, h2, h6⟩, if_pos ⟨h3, h4⟩, F_X9_habit_67_s, if_neg o1, if_neg o1, if_neg (iz_nlt0 (by omega)), if_pos (show iz (m : Int) ≤ (6 : Int32) from iz_lei (b := 6) (by omega)), c_habitP Z0.1 N n to (iz p) (iz q) (by omega) (by omega) m 8 k dy (by omega) (by omega) (by omega), sb_eq] at hc
              obtain ⟨e1, s1, u1, F1⟩ := m_hb75 N n k (iz p) (iz q) (iz m) (iz to) (si dy 510 0 0) (by omega) (by omega) (n + 1) N 0 (si dy 510 0 0) (by omega) (by omega) ⟨fun _ _ => rfl, fun _ _ _ => rfl⟩ (fun x hx => absurd hx (by omega))
              obtain ⟨e2, s2, F2⟩ := m_hb118 N n to m k (iz p) (iz q) _ _ (si dy 510 0 0) hN (by omega) (by omega) (by omega) (hbC n (by omega)) m 0 N e1 (by omega) (by omega) s1 (by
                rw [sg_pick2 _ _ k (n + 1) u1, if_pos (by omega)])
              refine ⟨_, dy, e2, hc, ?_, fun x j w => ?_, fun x j w => ?_⟩
              · rw [hM]
                exact F1.trans F2
              · rw [s2.1, fr x j w]
              · rw [s2.2 x j w]; rfl
            · rw [if_neg h6, if_pos rfl] at hM
              exact ⟨_, dy, si dy 510 0 0, bad (fun w1 w2 w3 => h6 w1.2.2), hM, fr, fun _ _ _ => rfl⟩
          · rw [if_neg h5, if_pos rfl] at hM
            exact ⟨_, dy, si dy 510 0 0, bad (fun w1 w2 w3 => h5 w3), hM, fr, fun _ _ _ => rfl⟩
        · rw [if_neg h4, if_pos rfl] at hM
          exact ⟨_, dy, si dy 510 0 0, bad (fun w1 w2 w3 => h4 w2.2), hM, fr, fun _ _ _ => rfl⟩
      · rw [if_neg h3, if_pos rfl] at hM
        exact ⟨_, dy, si dy 510 0 0, bad (fun w1 w2 w3 => h3 w2.1), hM, fr, fun _ _ _ => rfl⟩
    · rw [if_neg h2, if_pos rfl] at hM
      exact ⟨_, dy, si dy 510 0 0, bad (fun w1 w2 w3 => h2 w1.2.1), hM, fr, fun _ _ _ => rfl⟩
  · rw [if_neg h1, if_pos rfl] at hM
    exact ⟨_, dy, si dy 510 0 0, bad (fun w1 w2 w3 => h1 w1.1), hM, fr, fun _ _ _ => rfl⟩
