/-! two who go: the class alone -/
def updI (f : Nat → Int) (i : Nat) (v : Int) : Nat → Int := fun o => if o = i then v else f o
/-- how far one is: who he is, what he aims at -/
def AIMOK (c : DY) (g w i am : Nat) (wy : Int) : Prop := gi c (g + 4) i = iz wy ∧ (wy = 1 ∨ wy = -1) ∧ am ≤ 2 ∧ (gi c (w + 8) i = 5 ∨ gi c (w + 8) i ≠ 5 ∧ (if gi c (w + 8) i = 3 then gi c (g + 8) i else gi c (w + 8) i) = iz am)
theorem c_go1 (N k p i mvd : Nat) (c : DY) (g l w L W n am : Nat) (px py : Nat → Int) (wy : Int) (hN : 20 ≤ N) (h : CGO c g l w L W n px py) (hp : p < n) (hi : i < n) (h9 : gi c (w + 9) p = iz i) (ha : AIMOK c g w i am wy) : ∃ (mv : Nat) (X Y : Int) (c' : DY), mv ≤ 1 ∧ F_X8_move_36 Z0.1 N (k + 1) w (iz mvd) (iz p) c = F_X8_move_36 Z0.1 N k w (iz ((mvd + mv : Nat) : Int)) (iz ((p + 1 : Nat) : Int)) c' ∧ GFP L W n (fun x y => gi c (g + 1) (6 * x + y).toNat = 1) px py i (gi c (w + 8) i = 5) am wy mv X Y ∧ CGO c' g l w L W n (updI px i X) (updI py i Y) ∧ (∀ x k : Nat, ¬ (x = w ∧ k = 5) → ¬ ((w + 1 ≤ x ∧ x ≤ w + 7) ∧ k = i) → x ≠ w + 11 → gi c' x k = gi c x k) ∧ gi c' (w + 7) i = if mv = 1 then 0 else wtI (gi c (w + 7) i) := by
  obtain ⟨a1, a2, a3, a4⟩ := ha
  obtain ⟨mv, X, Y, c1, m1, F, x1, y1, xy, G, ch, w7⟩ := c_goesF N c g l w L W n i am px py wy hN h hi a1 a2 a3 a4
  obtain ⟨hG, ⟨L16, W6, n12⟩, ⟨c0, c1', c3⟩, hw01, hpos⟩ := id h
  obtain ⟨d1, d2, d3, d4, d5⟩ := cv_dj hG
  have st := c_m36 N k n p i mv c c1 mvd hG n12 hp hi c3 h9 m1 F
  have o : ∀ x k : Nat, ¬ (x = w ∧ k = 5) → ¬ ((w + 1 ≤ x ∧ x ≤ w + 7) ∧ k = i) → x ≠ w + 11 → gi (fin1 c1 w i mv) x k = gi c x k := fun x k q1 q2 q3 => by
    rw [← ch.1 x k q1 q2 q3]
    unfold fin1
    by_cases z : mv = 0
    · rw [if_pos z, gi_si_if, if_neg (by omega)]
    · rw [if_neg z, gi_si_if, if_neg (by omega), gi_si_if, if_neg (by omega)]
  have e : ∀ x k : Nat, x ≠ w + 7 → x ≠ w + 4 → gi (fin1 c1 w i mv) x k = gi c1 x k := fun x k q1 q2 => fin1_o _ _ _ _ _ _ q1 q2
  refine ⟨mv, X, Y, fin1 c1 w i mv, m1, st, G, ⟨hG, ⟨L16, W6, n12⟩, ⟨(o _ _ (by omega) (by omega) (by omega)).trans c0, (o _ _ (by omega) (by omega) (by omega)).trans c1', (o _ _ (by omega) (by omega) (by omega)).trans c3⟩, fun k hk => ?_, fun q hq => ?_⟩, o, ?_⟩
  · rw [o _ _ (by omega) (by omega) (by omega)]; exact hw01 k hk
  · unfold updI
    by_cases z : q = i
    · rw [if_pos z, if_pos z, z, e _ _ (by omega) (by omega), e _ _ (by omega) (by omega)]
      exact ⟨x1, y1, xy⟩
    · rw [if_neg z, if_neg z, o _ _ (by omega) (by omega) (by omega), o _ _ (by omega) (by omega) (by omega)]
      exact hpos q hq
  · unfold fin1
    have M : mv = 0 ∨ mv = 1 := by omega
    rcases M with z | z
    · rw [z, if_pos rfl, if_neg (by decide), gi_si_if, if_pos ⟨rfl, rfl⟩, w7]
    · rw [z, if_neg (by decide), if_pos rfl, gi_si_if, if_pos ⟨rfl, rfl⟩]
theorem dCN_same {c c' : DY} {g w n : Nat} (h2 : ∀ i : Nat, i < n → gi c' (w + 2) i = gi c (w + 2) i ∧ gi c' (w + 2) (12 + i) = gi c (w + 2) (12 + i) ∧ gi c' (w + 1) (12 + i) = gi c (w + 1) (12 + i) ∧ gi c' (g + 4) i = gi c (g + 4) i) : dCN c' g w n = dCN c g w n := by
  unfold dCN
  refine S1_same n (fun a ha => S1_same n (fun b hb => ?_))
  unfold dC2 dC1
  rw [(h2 a ha).1, (h2 a ha).2.1, (h2 a ha).2.2.1, (h2 a ha).2.2.2, (h2 b hb).1, (h2 b hb).2.1, (h2 b hb).2.2.1, (h2 b hb).2.2.2]
/-- all that a tenth of two does -/
theorem c_move2 (N : Nat) (c : DY) (g l w L W o0 o1 : Nat) (px py wy : Nat → Int) (am : Nat → Nat) (hN : 20 ≤ N) (h : CGO c g l w L W 2 px py) (h0 : gi c (w + 9) 0 = iz o0) (h1 : gi c (w + 9) 1 = iz o1) (ho : o0 = 0 ∧ o1 = 1 ∨ o0 = 1 ∧ o1 = 0) (ha : ∀ i : Nat, i < 2 → AIMOK c g w i (am i) (wy i)) : ∃ (m0 m1 : Nat) (X0 Y0 X1 Y1 : Int) (s : Int32) (c' : DY), (m0 ≤ 1 ∧ m1 ≤ 1) ∧ F_X8_move Z0.1 N w c = some (s, c') ∧ GFP L W 2 (fun x y => gi c (g + 1) (6 * x + y).toNat = 1) px py o0 (gi c (w + 8) o0 = 5) (am o0) (wy o0) m0 X0 Y0 ∧ GFP L W 2 (fun x y => gi c (g + 1) (6 * x + y).toNat = 1) (updI px o0 X0) (updI py o0 Y0) o1 (gi c (w + 8) o1 = 5) (am o1) (wy o1) m1 X1 Y1 ∧ (∀ i : Nat, i < 2 → gi c' (w + 1) i = iz (updI (updI px o0 X0) o1 X1 i) ∧ gi c' (w + 2) i = iz (updI (updI py o0 Y0) o1 Y1 i)) ∧ (∀ t i : Nat, t < 3 → i < 2 → gi c' (w + 1) (12 * (t + 1) + i) = gi c (w + 1) (12 * t + i) ∧ gi c' (w + 2) (12 * (t + 1) + i) = gi c (w + 2) (12 * t + i)) ∧ gi c' (w + 7) o0 = (if m0 = 1 then 0 else wtI (gi c (w + 7) o0)) ∧ gi c' (w + 7) o1 = (if m1 = 1 then 0 else wtI (gi c (w + 7) o1)) ∧ gi c' w 6 = gi c w 6 + iz (dCN c' g w 2 : Nat) ∧ gi c' w 2 = gi c w 2 + 1 ∧ (∀ k : Nat, gi c' (w + 9) k = gi c (w + 9) k) := by
  obtain ⟨hG, ⟨L16, W6, n12⟩, ⟨c0, c1, c3⟩, hw01, hpos⟩ := id h
  obtain ⟨d1, d2, d3, d4, d5⟩ := cv_dj hG
  obtain ⟨c2, s1, s2, s3, _⟩ := c_shift N c hG
  obtain ⟨K, hK⟩ : ∃ K, N = K + 3 := ⟨N - 3, by omega⟩
  have g2 : CGO c2 g l w L W 2 px py := ⟨hG, ⟨L16, W6, n12⟩, ⟨(s2 _ _ (by omega)).trans c0, (s2 _ _ (by omega)).trans c1, (s2 _ _ (by omega)).trans c3⟩, fun k hk => by rw [s2 _ _ (by omega)]; exact hw01 k hk, fun o hq => by rw [s2 _ _ (by omega), s2 _ _ (by omega)]; exact hpos o hq⟩
  have A2 : ∀ i : Nat, i < 2 → AIMOK c2 g w i (am i) (wy i) := fun i hi => by
    have := ha i hi
    unfold AIMOK at this ⊢
    rw [s2 _ _ (by omega), s2 _ _ (by omega), s2 _ _ (by omega)]
    exact this
  obtain ⟨m0, X0, Y0, e3, b1, b2, b3, b4, b5, b6⟩ := c_go1 N (K + 2) 0 o0 0 c2 g l w L W 2 (am o0) px py (wy o0) hN g2 (by omega) (by omega) (by rw [s2 _ _ (by omega)]; exact h0) (A2 o0 (by omega))
  have A3 : AIMOK e3 g w o1 (am o1) (wy o1) := by
    have := A2 o1 (by omega)
    unfold AIMOK at this ⊢
    rw [b5 _ _ (by omega) (by omega) (by omega), b5 _ _ (by omega) (by omega) (by omega), b5 _ _ (by omega) (by omega) (by omega)]
    exact this
  obtain ⟨m1, X1, Y1, e4, f1, f2, f3, f4, f5, f6⟩ := c_go1 N (K + 1) 1 o1 (0 + m0) e3 g l w L W 2 (am o1) (updI px o0 X0) (updI py o0 Y0) (wy o1) hN b4 (by omega) (by omega) (by rw [b5 _ _ (by omega) (by omega) (by omega), s2 _ _ (by omega)]; exact h1) A3
  have last := c_last N K e4 2 (iz ((0 + m0 + m1 : Nat) : Int)) hN hG n12 f4.2.2.1.2.2
  have mv : F_X8_move Z0.1 N w c = some (iz ((0 + m0 + m1 : Nat) : Int), lstC e4 g w 2 (iz ((0 + m0 + m1 : Nat) : Int))) := by
    rw [s1]
    have e : F_X8_move_36 Z0.1 N N w 0 0 c2 = F_X8_move_36 Z0.1 N (K + 3) w (iz ((0 : Nat) : Int)) (iz ((0 : Nat) : Int)) c2 := by rw [← hK]; rfl
    rw [e]
    exact b2.trans (f2.trans last)
  have lo : ∀ x k : Nat, ¬ (x = w ∧ (k = 2 ∨ k = 6 ∨ k = 7)) → gi (lstC e4 g w 2 (iz ((0 + m0 + m1 : Nat) : Int))) x k = gi e4 x k := fun x k q => by rw [gi_lstC, if_neg (by omega), if_neg (by omega), if_neg (by omega)]
  have oo : ∀ x k : Nat, ¬ (x = w ∧ k = 5) → ¬ ((w + 1 ≤ x ∧ x ≤ w + 7) ∧ (k = 0 ∨ k = 1)) → x ≠ w + 11 → gi e4 x k = gi c2 x k := fun x k q1 q2 q3 => by rw [f5 x k q1 (by omega) q3, b5 x k q1 (by omega) q3]
  refine ⟨m0, m1, X0, Y0, X1, Y1, _, _, ⟨b1, f1⟩, mv, ?_, ?_, fun i hi => ?_, fun t i ht hi => ?_, ?_, ?_, ?_, ?_, fun k => ?_⟩
  · refine GFP_cg (by omega) (fun x y _ => ?_) (fun o _ => ⟨rfl, rfl⟩) ?_ b3
    · show gi c (g + 1) _ = 1 ↔ gi c2 (g + 1) _ = 1
      rw [s2 _ _ (by omega)]
    · rw [s2 _ _ (by omega)]
  · refine GFP_cg (by omega) (fun x y _ => ?_) (fun o _ => ⟨rfl, rfl⟩) ?_ f3
    · show gi c (g + 1) _ = 1 ↔ gi e3 (g + 1) _ = 1
      rw [b5 _ _ (by omega) (by omega) (by omega), s2 _ _ (by omega)]
    · rw [b5 _ _ (by omega) (by omega) (by omega), s2 _ _ (by omega)]
  · rw [lo _ _ (by omega), lo _ _ (by omega)]
    obtain ⟨y1, y2, _⟩ := f4.2.2.2.2 i hi
    exact ⟨y1, y2⟩
  · rw [lo _ _ (by omega), lo _ _ (by omega), oo _ _ (by omega) (by omega) (by omega), oo _ _ (by omega) (by omega) (by omega)]
    exact s3 t i ht (by omega)
  · rw [lo _ _ (by omega), f5 _ _ (by omega) (by omega) (by omega), b6, s2 _ _ (by omega)]
  · rw [lo _ _ (by omega), f6, b5 _ _ (by omega) (by omega) (by omega), s2 _ _ (by omega)]
  · rw [gi_lstC, if_neg (by omega), if_neg (by omega), if_pos ⟨rfl, rfl⟩, oo _ _ (by omega) (by omega) (by omega), s2 _ _ (by omega)]
    refine congrArg (fun z : Nat => gi c w 6 + iz (z : Int)) (dCN_same (fun i hi => ?_)).symm
    rw [lo _ _ (by omega), lo _ _ (by omega), lo _ _ (by omega), lo _ _ (by omega)]
    exact ⟨rfl, rfl, rfl, rfl⟩
  · rw [gi_lstC, if_pos ⟨rfl, rfl⟩, oo _ _ (by omega) (by omega) (by omega), s2 _ _ (by omega)]
  · rw [lo _ _ (by omega), oo _ _ (by omega) (by omega) (by omega), s2 _ _ (by omega)]
