/-! a trial's ground against what is told, whoever is away -/
def FRG (dy : DY) (g q : Nat) (ι : Nat → Nat) (n M i : Nat) : Prop := (∃ j : Nat, j < n ∧ gi dy (g + 9) i = iz j ∧ gi dy 521 (8 * (12 * q + ι i) + 7) = iz (ι j : Nat)) ∨ ((∀ j : Nat, j < n → gi dy (g + 9) i ≠ iz j) ∧ (gi dy 521 (8 * (12 * q + ι i) + 7) = -1 ∨ ∃ a : Nat, a < M ∧ gi dy 521 (8 * (12 * q + ι i) + 7) = iz a ∧ ∀ j : Nat, j < n → ι j ≠ a))
def PRG (dy : DY) (g q : Nat) (ι : Nat → Nat) (L W n M : Nat) : Prop := (L ≤ 16 ∧ W ≤ 6 ∧ n ≤ 12 ∧ M ≤ 12) ∧ (gi dy g 0 = iz L ∧ gi dy 516 q = iz L) ∧ (gi dy g 1 = iz W ∧ gi dy 517 q = iz W) ∧ (gi dy g 3 = iz n ∧ gi dy 518 q = iz M) ∧ (∀ i : Nat, i < 96 → gi dy (g + 1) i = gi dy 520 (96 * q + i) ∧ (gi dy (g + 1) i = 0 ∨ gi dy (g + 1) i = 1)) ∧ ((∀ i : Nat, i < n → ι i < M) ∧ (∀ i j : Nat, i < j → j < n → ι i < ι j)) ∧ ∀ i : Nat, i < n → (∃ x : Nat, x < L ∧ gi dy (g + 2) i = iz x ∧ gi dy 521 (8 * (12 * q + ι i)) = iz x) ∧ (∃ y : Nat, y < W ∧ gi dy (g + 3) i = iz y ∧ gi dy 521 (8 * (12 * q + ι i) + 1) = iz y) ∧ TW dy g i 521 (8 * (12 * q + ι i) + 2) ∧ FRG dy g q ι n M i
def PREP (dy : DY) (k j : Nat) (ι : Nat → Nat) (L W n M : Nat) : Prop := PRG dy 95 k ι L W n M ∧ LR dy 105 (gi dy 523 j) 524 (288 * j)
theorem PRG_cells {d e : DY} {g q : Nat} {ι : Nat → Nat} {L W n M : Nat} (h : PRG d g q ι L W n M) (h1 : ∀ x i : Nat, g ≤ x → x ≤ g + 9 → gi e x i = gi d x i) (h2 : ∀ x i : Nat, 511 ≤ x → x ≤ 527 → gi e x i = gi d x i) : PRG e g q ι L W n M := by
  obtain ⟨k1, k2, k3, k4, k5, k6, k7⟩ := h
  refine ⟨k1, ?_, ?_, ?_, fun i hi => ?_, k6, fun i hi => ?_⟩
  · rw [h1 g 0 (by omega) (by omega), h2 516 _ (by omega) (by omega)]; exact k2
  · rw [h1 g 1 (by omega) (by omega), h2 517 _ (by omega) (by omega)]; exact k3
  · rw [h1 g 3 (by omega) (by omega), h2 518 _ (by omega) (by omega)]; exact k4
  · rw [h1 (g + 1) i (by omega) (by omega), h2 520 _ (by omega) (by omega)]; exact k5 i hi
  · obtain ⟨a1, a2, a3, a4⟩ := k7 i hi
    refine ⟨?_, ?_, TW_of a3 (fun x q1 q2 => h1 _ _ (by omega) (by omega)) (fun x _ => h2 _ _ (by omega) (by omega)), ?_⟩
    · rw [h1 (g + 2) i (by omega) (by omega), h2 521 _ (by omega) (by omega)]; exact a1
    · rw [h1 (g + 3) i (by omega) (by omega), h2 521 _ (by omega) (by omega)]; exact a2
    · unfold FRG
      rw [h1 (g + 9) i (by omega) (by omega), h2 521 _ (by omega) (by omega)]
      exact a4
theorem PREP_cells {d e : DY} {k j : Nat} {ι : Nat → Nat} {L W n M : Nat} (h : PREP d k j ι L W n M) (h1 : ∀ x i : Nat, 95 ≤ x → x ≤ 111 → gi e x i = gi d x i) (h2 : ∀ x i : Nat, 511 ≤ x → x ≤ 527 → gi e x i = gi d x i) : PREP e k j ι L W n M := ⟨PRG_cells h.1 (fun x i q1 q2 => h1 x i q1 (by omega)) h2, LR_of h.2 ⟨fun f hf => h1 _ _ (by omega) (by omega), fun p hp i _ => h1 _ _ (by omega) (by have := lC_le p hp; omega)⟩ (h2 523 _ (by omega) (by omega)) (fun i _ => h2 524 _ (by omega) (by omega))⟩
theorem PREP_mix {c m c' m' : DY} {k j : Nat} {ι : Nat → Nat} {L W n M : Nat} (h : PREP (mixD c m) k j ι L W n M) (h1 : ∀ x i : Nat, 95 ≤ x → x ≤ 111 → gi c' x i = gi c x i) (h2 : ∀ x i : Nat, 511 ≤ x → x ≤ 527 → gi m' x i = gi m x i) : PREP (mixD c' m') k j ι L W n M := PREP_cells h (fun x i q1 q2 => by
  rw [mix_c _ _ _ _ (by omega), mix_c _ _ _ _ (by omega)]
  exact h1 x i q1 q2) (fun x i q1 q2 => by
  rw [mix_m _ _ _ _ (by omega), mix_m _ _ _ _ (by omega)]
  exact h2 x i q1 q2)
theorem LAID_self {m e : DY} {r q lw M : Nat} {seed x5 x6 : Int32} (h : LAID m e r q lw M seed x5 x6) : LAID e e r q lw M seed x5 x6 := by
  obtain ⟨a1, a2, ⟨a3, a4, a5, a6, a7, a8⟩, z, aw, a9, a10, a11⟩ := h
  have o : ∀ x y : Nat, x ≠ 531 → gi e x y = gi m x y := fun x y hx => a1 x y (by omega)
  refine ⟨fun _ _ _ => rfl, fun _ _ => rfl, ⟨?_, ?_, ?_, a6, ?_, a8⟩, z, fun j hj => ⟨⟨fun y hy => ?_, fun y h1 h2 => ?_, (aw j hj).1.2.2⟩, (aw j hj).2⟩, fun j hj => ?_, fun j hj => ?_, a11⟩
  · rw [o 516 _ (by omega)]; exact a3
  · rw [o 517 _ (by omega)]; exact a4
  · rw [o 518 _ (by omega)]; exact a5
  · rw [o 523 _ (by omega)]; exact a7
  · rw [o 521 _ (by omega), o 521 _ (by omega)]; exact (aw j hj).1.1 y hy
  · rw [o 521 _ (by omega)]; exact (aw j hj).1.2.1 y h1 h2
  · rw [o 520 _ (by omega)]; exact a9 j hj
  · rw [o 524 _ (by omega)]; exact a10 j hj
theorem RRx_layG {E : DY} {g l w r q lw : Nat} {ι : Nat → Nat} {L W n M : Nat} {seed x5 x6 : Int32} (hP : PRG E g q ι L W n M) (hL : LR E l (gi E 523 lw) 524 (288 * lw)) (hB : BEG E E g w seed) (hO : ORD E g w n) (hA : LAID E E r q lw M seed x5 x6) (hx : ∀ a : Nat, a < M → (awy x5 x6 a ↔ ∀ i : Nat, i < n → ι i ≠ a)) : RRx E g l w r ι L W n M := by
  obtain ⟨⟨k1, k1', k1'', k1m⟩, ⟨k2, k2'⟩, ⟨k3, k3'⟩, ⟨k5, k5'⟩, k6, ⟨kι, kmo⟩, k7⟩ := hP
  obtain ⟨_, _, ⟨a3, a4, a5, a6, a7, a8⟩, ⟨z3, z5⟩, aw, a9, a10, a11⟩ := hA
  obtain ⟨⟨b3, b2, b4, b5, b6, b7⟩, bl1, bl2, bl3, _⟩ := hB
  refine ⟨⟨k1, k1', k1'', k1m⟩, ⟨k2, a3.trans k2'⟩, ⟨k3, a4.trans k3'⟩, ⟨k5, a5.trans k5'⟩, fun i hi => ?_, LR_of hL ⟨fun _ _ => rfl, fun _ _ _ _ => rfl⟩ a7 a10, ⟨b2.trans z3.symm, b3.trans a6.symm, b4.trans (z5 5 (by omega) (by omega)).symm, b5.trans (z5 6 (by omega) (by omega)).symm, b6.trans (z5 8 (by omega) (by omega)).symm, b7.trans (z5 7 (by omega) (by omega)).symm⟩, ⟨kι, kmo⟩, fun m hm ha t ht => ?_, fun i hi => ?_, fun x hx => ?_, hO⟩
  · rw [a9 i hi]
    exact k6 i hi
  · exact ((aw m hm).1.1 t ht).1 ((hx m hm).mpr ha)
  · obtain ⟨⟨x, x1, x2, x3⟩, ⟨y, y1, y2, y3⟩, tw, fr⟩ := k7 i hi
    have hιi := kι i hi
    obtain ⟨⟨W1, W2, W3⟩, W4⟩ := aw (ι i) hιi
    have i12 : i < 12 := by omega
    have nA : ¬ awy x5 x6 (ι i) := fun z => (hx (ι i) hιi).mp z i hi rfl
    refine ⟨fun t ht => ?_, TW_of tw (fun x h1 h2 => rfl) (fun x hx => ?_), ?_, ⟨?_, ?_, ?_, ?_⟩, 0, by omega, (bl2 i i12).2.2.2.2, W4 18 (by omega) (by omega)⟩
    · obtain ⟨p1, p2⟩ := bl1 t i ht i12
      obtain ⟨p3, p4⟩ := (W1 t ht).2 nA
      exact Or.inr ⟨x, y, x1, y1, p1.trans x2, p2.trans y2, p3.trans x3, p4.trans y3⟩
    · have := W2 (2 + x) (by omega) (by omega)
      rw [← Nat.add_assoc, ← Nat.add_assoc] at this
      exact this
    · have w13 : gi E 531 (720 * r + 16 + 20 * ι i + 13) = gi E 521 (8 * (12 * q + ι i) + 7) := W2 7 (by omega) (by omega)
      rw [w13]
      exact fr
    · rw [(bl2 i i12).1, W3]
    · rw [(bl2 i i12).2.1, W4 15 (by omega) (by omega)]
    · rw [(bl2 i i12).2.2.1, W4 16 (by omega) (by omega)]
    · rw [(bl2 i i12).2.2.2.1, W4 17 (by omega) (by omega)]
  · have q : ∀ y : Nat, y < 5 → gi E (w + 11) (5 * x + y) = 0 ∧ gi E 531 (720 * r + 640 + 5 * x + y) = 0 := fun y hy => by
      have := a11 (640 + 5 * x + y) (by omega) (by omega)
      rw [← Nat.add_assoc, ← Nat.add_assoc] at this
      exact ⟨bl3 _ (by omega), this⟩
    have q0 := q 0 (by omega)
    rw [Nat.add_zero (5 * x), Nat.add_zero (720 * r + 640 + 5 * x)] at q0
    rw [q0.1, q0.2, (q 1 (by omega)).1, (q 1 (by omega)).2, (q 2 (by omega)).1, (q 2 (by omega)).2, (q 3 (by omega)).1, (q 3 (by omega)).2, (q 4 (by omega)).1, (q 4 (by omega)).2]
    exact ⟨rfl, rfl, rfl, rfl, rfl⟩
/-- a walk w begun, a row r laid -/
theorem layB {g l w r q lw : Nat} {ι : Nat → Nat} {L W n M : Nat} {seed x5 x6 : Int32} {c m c' m' : DY} (hG : CVg g l w) (hP : PRG (mixD c m) g q ι L W n M) (hL : LR (mixD c m) l (gi (mixD c m) 523 lw) 524 (288 * lw)) (hx : ∀ a : Nat, a < M → (awy x5 x6 a ↔ ∀ i : Nat, i < n → ι i ≠ a)) (B3 : BEG c c' g w seed) (O3 : ORD c' g w n) (A4 : LAID m m' r q lw M seed x5 x6) : RRx (mixD c' m') g l w r ι L W n M := by
  obtain ⟨d1, d2, d3, d4, d5⟩ := cv_dj hG
  obtain ⟨bb1, bb2, bb3, bb4, bb5, bb6⟩ := B3
  have e3 : ∀ x i : Nat, x < 510 → gi (mixD c' m') x i = gi c' x i := fun x i h1 => mix_c _ _ _ _ h1
  have eM : ∀ x i : Nat, 510 ≤ x → gi (mixD c' m') x i = gi m' x i := fun x i h1 => mix_m _ _ _ _ h1
  have sC : ∀ x i : Nat, x < 510 → (x < w ∨ w + 11 < x) → gi (mixD c' m') x i = gi (mixD c m) x i := fun x i h1 h2 => by
    rw [e3 x i h1, mix_c _ _ _ _ h1, bb5 x i h2]
  have sM : ∀ x i : Nat, 511 ≤ x → x ≤ 527 → gi (mixD c' m') x i = gi (mixD c m) x i := fun x i h1 h2 => by
    rw [eM x i (by omega), mix_m _ _ _ _ (by omega), A4.1 x i (by omega)]
  refine RRx_layG (PRG_cells hP (fun x i h1 h2 => sC x i (by omega) (by omega)) sM) (LR_of hL ⟨fun f hf => sC _ _ (by omega) (by omega), fun p hp i _ => sC _ _ (by have := lC_le p hp; omega) (by have := lC_le p hp; omega)⟩ (sM 523 _ (by omega) (by omega)) (fun i _ => sM 524 _ (by omega) (by omega))) (seed := seed) ⟨?_, fun t i ht hi => ?_, fun i hi => ?_, fun i hi => ?_, fun _ _ _ => rfl, fun _ _ => rfl⟩ ?_ ?_ hx
  · rw [e3 w 3 (by omega), e3 w 2 (by omega), e3 w 4 (by omega), e3 w 5 (by omega), e3 w 6 (by omega), e3 w 7 (by omega)]
    exact bb1
  · rw [e3 (w + 1) _ (by omega), e3 (w + 2) _ (by omega), e3 (g + 2) i (by omega), e3 (g + 3) i (by omega), bb5 (g + 2) i (by omega), bb5 (g + 3) i (by omega)]
    exact bb2 t i ht hi
  · rw [e3 (w + 3) _ (by omega), e3 (w + 4) _ (by omega), e3 (w + 5) _ (by omega), e3 (w + 6) _ (by omega), e3 (w + 7) _ (by omega)]
    exact bb3 i hi
  · rw [e3 _ _ (by omega)]
    exact bb4 i hi
  · have hh : ∀ i : Nat, hsI (mixD c' m') g i = hsI c' g i := fun i => by
      unfold hsI
      rw [e3 _ _ (by omega)]
    obtain ⟨od, o1, o2, o3⟩ := O3
    refine ⟨od, fun p hp => ?_, fun p q hpq hq => ?_, o3⟩
    · rw [e3 _ _ (by omega)]
      exact o1 p hp
    · unfold bef
      rw [hh, hh]
      exact o2 p q hpq hq
  · have A5 := LAID_self A4
    obtain ⟨a1, a2, ⟨a3, a4, a5, a6, a7, a8⟩, ⟨z3, z5⟩, aw, a9, a10, a11⟩ := A5
    refine ⟨fun x y q => rfl, fun x y => rfl, ⟨?_, ?_, ?_, ?_, ?_, ?_⟩, ⟨?_, fun y h1 h2 => ?_⟩, fun i hi => ⟨⟨fun y hy => ?_, fun y h1 h2 => ?_, ?_⟩, fun y h1 h2 => ?_⟩, fun i hi => ?_, fun i hi => ?_, fun y h1 h2 => ?_⟩
    · rw [eM _ _ (by omega), eM _ _ (by omega)]; exact a3
    · rw [eM _ _ (by omega), eM _ _ (by omega)]; exact a4
    · rw [eM _ _ (by omega), eM _ _ (by omega)]; exact a5
    · rw [eM _ _ (by omega)]; exact a6
    · rw [eM _ _ (by omega), eM _ _ (by omega)]; exact a7
    · rw [eM _ _ (by omega)]; exact a8
    · rw [eM _ _ (by omega)]; exact z3
    · rw [eM _ _ (by omega)]; exact z5 y h1 h2
    · rw [eM 531 _ (by omega), eM 531 (720 * r + 16 + 20 * i + 4 + y) (by omega), eM 521 (8 * (12 * q + i)) (by omega), eM 521 (8 * (12 * q + i) + 1) (by omega)]
      exact (aw i hi).1.1 y hy
    · rw [eM 531 _ (by omega), eM 521 _ (by omega)]; exact (aw i hi).1.2.1 y h1 h2
    · rw [eM _ _ (by omega)]; exact (aw i hi).1.2.2
    · rw [eM _ _ (by omega)]; exact (aw i hi).2 y h1 h2
    · rw [eM 531 _ (by omega), eM 520 _ (by omega)]; exact a9 i hi
    · rw [eM 531 _ (by omega), eM 524 _ (by omega)]; exact a10 i hi
    · rw [eM _ _ (by omega)]; exact a11 y h1 h2
/-- laid and begun: w the walk, r the row -/
theorem layG {g l w r q lw : Nat} {ι : Nat → Nat} {L W n M : Nat} (N : Nat) (seed x5 x6 : Int32) (c m : DY) (hN : 900 ≤ N) (hG : CVg g l w) (r14 : r < 14) (q12 : q < 12) (l12 : lw < 12) (hP : PRG (mixD c m) g q ι L W n M) (hL : LR (mixD c m) l (gi (mixD c m) 523 lw) 524 (288 * lw)) (hx : ∀ a : Nat, a < M → (awy x5 x6 a ↔ ∀ i : Nat, i < n → ι i ≠ a)) : ∃ c' m' : DY, F_X8_begin Z0.1 N w seed c = some c' ∧ F_X10_lay Z0.1 N 510 (iz r) (iz q) (iz lw) seed x5 x6 m = some m' ∧ RRx (mixD c' m') g l w r ι L W n M ∧ BEG c c' g w seed ∧ LAID m m' r q lw M seed x5 x6 := by
  obtain ⟨d1, d2, d3, d4, d5⟩ := cv_dj hG
  obtain ⟨⟨_, _, n12, M12⟩, _, _, ⟨g3, m518⟩, _, _, kw⟩ := id hP
  rw [mix_c _ _ _ _ (by omega)] at g3
  rw [mix_m _ _ _ _ (by omega)] at m518
  obtain ⟨c', E3, B3, O3⟩ := c_begin N c n seed (by omega) hG n12 g3 (fun o ho => by
    obtain ⟨_, _, ⟨_, _, _, ⟨v, v9, v2, _⟩, _⟩, _⟩ := kw o ho
    rw [mix_c _ _ _ _ (by omega)] at v2
    exact ⟨v, v9, v2⟩)
  obtain ⟨m', E4, A4⟩ := m_lay N r q lw M seed x5 x6 m hN r14 q12 l12 M12 m518
  exact ⟨c', m', E3, E4, layB hG hP hL hx B3 O3 A4, B3, A4⟩
theorem BG0_of {c c' d : DY} {seed : Int32} {n k : Nat} {ι : Nat → Nat} {L W M : Nat} (hB : BEG c c' 95 112 seed) (hP : PRG d 95 k ι L W n M) (hc : ∀ i : Nat, gi d 97 i = gi c 97 i) : BG0 c' n := by
  obtain ⟨⟨_, b2, _, b5, _⟩, l1, l2, _⟩ := hB
  refine ⟨b2, b5, fun i hi => ⟨?_, (l2 i (by have := hP.1.2.2.1; omega)).1⟩⟩
  obtain ⟨⟨x, x1, x2, _⟩, _⟩ := hP.2.2.2.2.2.2 i hi
  have i12 : i < 12 := by have := hP.1.2.2.1; omega
  have := (l1 0 i (by omega) i12).1
  rw [Nat.mul_zero, Nat.zero_add] at this
  rw [show (113 : Nat) = 112 + 1 from rfl, this, show (95 + 2 : Nat) = 97 from rfl, ← hc, show (97 : Nat) = 95 + 2 from rfl, x2, l_m1]
  exact iz_nei (by have := hP.1.1; omega)
theorem frT1_beg {c c' : DY} {seed : Int32} (hB : BEG c c' 95 112 seed) : frT1 c c' := ⟨fun x k hx => hB.2.2.2.2.1 x k (by omega), hB.2.2.2.2.2⟩
theorem frT2_laid {m m' : DY} {q lw M : Nat} {seed x5 x6 : Int32} (h : LAID m m' 4 q lw M seed x5 x6) : frT2 m m' := ⟨fun x k h1 h2 h3 => h.1 x k (by omega), h.2.1⟩
