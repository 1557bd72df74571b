/-! the class's look, whole -/
def soonI (a p q f : Int32) : Int32 := if (if f = 0 then q - p else p + q) ≤ 0 then 99 else if (a * p * q) / (if f = 0 then q - p else p + q) < 99 then (a * p * q) / (if f = 0 then q - p else p + q) else 99
theorem c_soon (S : ST) (N : Nat) (a p q f : Int32) (dy : DY) : F_X8_soon S N a p q f dy = some (soonI a p q f, dy) := by
  have h : ∀ y : Int32, F_X8_soon_13 S N a p q y dy = some (if y ≤ 0 then 99 else if (a * p * q) / y < 99 then (a * p * q) / y else 99, dy) := fun y => by
    rw [F_X8_soon_13_s]
    by_cases c : y ≤ 0
    · rw [if_pos c, if_pos c]
    · rw [if_neg c, if_neg c, if_neg (fun z => c (by rw [z]; exact Int32.le_refl _))]
  rw [F_X8_soon_s]
  unfold soonI
  by_cases c : f = 0
  · rw [if_pos c, if_pos c]
    exact h _
  · rw [if_neg c, if_neg c]
    exact h _
/-- whether the one whom he meets goes the other way -/
def facI (d : DY) (g i : Nat) (m : Int) : Int32 := if m = -1 then 0 else if gi d (g + 4) m.toNat = gi d (g + 4) i then 0 else 1
def sooI (d : DY) (g i : Nat) (a m : Int) : Int32 := if m = -1 then 99 else soonI (iz a) (gi d (g + 5) i) (gi d (g + 5) m.toNat) (facI d g i m)
def wyI (d : DY) (g i : Nat) : Int := (gi d (g + 4) i).toInt
theorem wy_eq {d : DY} {g l w L W n : Nat} (hv : CV d g l w L W n) (i : Nat) (hi : i < n) : gi d (g + 4) i = iz (wyI d g i) ∧ (wyI d g i = 1 ∨ wyI d g i = -1) := by
  obtain ⟨_, _, _, _, _, hwk⟩ := hv
  obtain ⟨h, _⟩ := hwk i hi
  unfold wyI
  rcases h with e | e
  · rw [e]; exact ⟨rfl, Or.inl rfl⟩
  · rw [e]; exact ⟨rfl, Or.inr rfl⟩
theorem FSt_m {d : DY} {g w L W n i : Nat} {dx dy a m : Int} (h : FSt d g w L W n i dx dy a m) : m = -1 ∨ ∃ o : Nat, o < n ∧ m = o := by
  obtain ⟨s, V, _, _, _, h⟩ := h
  rcases h with ⟨h, _⟩ | ⟨o, b, h1, _, _, _, h2, _⟩
  · exact Or.inl h
  · exact Or.inr ⟨o, h1, h2⟩
theorem FSt_a {d : DY} {g w L W n i : Nat} {dx dy a m : Int} (h : FSt d g w L W n i dx dy a m) : 0 ≤ a ∧ a ≤ 9 := by
  obtain ⟨s, V, h1, h2, h3, h⟩ := h
  have s1 := h1.1
  have v1 : 1 ≤ V := by
    by_cases q : inS L W (cx d w 0 i + s * dx) (cy d w 0 i + s * dy)
    · have := h3.1 q; omega
    · have := h3.2 q
      by_cases q2 : dy = 0
      · rw [if_pos q2] at this; omega
      · rw [if_neg q2] at this; omega
  rcases h with ⟨_, h, _⟩ | ⟨o, b, h1, b1, _, _, h2, h, _⟩
  · unfold min9 at h
    by_cases c : V - 1 < 9
    · rw [if_pos c] at h; omega
    · rw [if_neg c] at h; omega
  · unfold min9 at h
    by_cases c : (b : Int) - 1 < 9
    · rw [if_pos c] at h; omega
    · rw [if_neg c] at h; omega
/-- all that he finds, number by number -/
def SGT (d : DY) (g w L W n i : Nat) (v : Nat → Int32) : Prop := ∃ a m ar mr al ml : Int, FSt d g w L W n i (wyI d g i) 0 a m ∧ FSt d g w L W n i 0 (wyI d g i) ar mr ∧ FSt d g w L W n i 0 (-(wyI d g i)) al ml ∧ v 0 = iz a ∧ v 1 = sooI d g i a m ∧ v 2 = iz ((itr (ncf d g w i) n (99, 0)).1 : Nat) ∧ v 3 = iz ar ∧ v 4 = iz al ∧ v 5 = gi d (w + 7) i ∧ v 6 = gi d (g + 7) i ∧ v 7 = iz ((itr (ncf d g w i) n (99, 0)).2 : Nat) ∧ v 8 = (if a = 0 then 1 else 0) ∧ v 9 = facI d g i m ∧ PDR d g w i n (v 10)
theorem c_look134 {dS : DY} (N : Nat) (d0 d : DY) (g l w L W n i : Nat) (y2 : Int32) (hN : 20 ≤ N) (hv : CV d0 g l w L W n) (hi : i < n) (hp : inS L W (cx d0 w 0 i) (cy d0 w 0 i)) (hc : lkC w d0 dS d) : ∃ (ar mr al ml : Int) (e : DY), FSt d0 g w L W n i 0 (wyI d0 g i) ar mr ∧ FSt d0 g w L W n i 0 (-(wyI d0 g i)) al ml ∧ lkC w d0 dS e ∧ F_X8_look_134 Z0.1 N w (iz i) (iz (wyI d0 g i)) (w + 10) 1 y2 d = some e ∧ gi e (w + 10) 0 = gi d (w + 10) 0 ∧ gi e (w + 10) 1 = y2 ∧ gi e (w + 10) 2 = iz ((itr (ncf d0 g w i) n (99, 0)).1 : Nat) ∧ gi e (w + 10) 3 = iz ar ∧ gi e (w + 10) 4 = iz al ∧ gi e (w + 10) 5 = gi d0 (w + 7) i ∧ gi e (w + 10) 6 = gi d0 (g + 7) i ∧ gi e (w + 10) 7 = iz ((itr (ncf d0 g w i) n (99, 0)).2 : Nat) ∧ gi e (w + 10) 8 = gi d (w + 10) 8 ∧ gi e (w + 10) 9 = gi d (w + 10) 9 ∧ PDR d0 g w i n (gi e (w + 10) 10) := by
  have hv' := hv
  obtain ⟨hG, ⟨L16, W6, n12⟩, _⟩ := hv'
  obtain ⟨dj, dj2⟩ := cv_dj hG
  obtain ⟨wy1, wy2⟩ := wy_eq hv i hi
  have d1 : dirs 0 (wyI d0 g i) := by
    unfold dirs
    omega
  have d2 : dirs 0 (-(wyI d0 g i)) := by
    unfold dirs
    omega
  have c1 := lkC_sight hc 1 y2
  obtain ⟨ar, mr, e1, f1, E1, _, c2, g1⟩ := c_free N d0 _ g l w L W n i 0 (wyI d0 g i) hN hv c1 hi d1 hp
  have c3 := lkC_sight c2 3 (iz ar)
  obtain ⟨al, ml, e2, f2, E2, _, c4, g2⟩ := c_free N d0 _ g l w L W n i 0 (-(wyI d0 g i)) hN hv c3 hi d2 hp
  have c5 := lkC_sight c4 4 (iz al)
  have c6 := lkC_sight c5 5 (gi d0 (w + 7) i)
  have c7 := lkC_sight c6 6 (gi d0 (g + 7) i)
  obtain ⟨e, k1, k2, k3, k4, k5, k6⟩ := c_around N d0 _ g l w L W n i hN hv hi hp c7
  have x5 : gi (si e2 (w + 10) 4 (iz al)) (w + 7) i = gi d0 (w + 7) i := c5.1 _ _ (by omega) (by omega)
  have x6 : gi (si (si e2 (w + 10) 4 (iz al)) (w + 10) 5 (gi d0 (w + 7) i)) (g + 7) i = gi d0 (g + 7) i := c6.1 _ _ (by omega) (by omega)
  have ii : ib (iz (i : Int)) 12 := iz_ib (by omega)
  refine ⟨ar, mr, al, ml, e, f1, f2, k1, ?_, ?_, ?_, k3, ?_, ?_, ?_, ?_, k4, ?_, ?_, k5⟩
  · rw [F_X8_look_134_s, if_pos (by decide), bd_eq]
    refine bnd E1 ?_
    show (if ib (3 : Int32) 11 then _ else _) = _
    rw [if_pos (by decide), bd_eq, cv_w10 hG]
    refine bnd (show F_X8_freeSteps Z0.1 N w (iz i) 0 (-iz (wyI d0 g i)) (si e1 (w + 10) 3 (iz ar)) = some (iz al, e2) from by rw [iz_neg]; exact E2) ?_
    show (if ib (4 : Int32) 11 then _ else _) = _
    rw [if_pos (by decide), bd_eq, if_pos ii, if_pos (by decide), bd_eq, if_pos ii, if_pos (by decide), bd_eq, cv_w7 hG, cv_r0 hG, cv_g7 hG, tnn _ i rfl (by omega)]
    show (F_X8_lookAround Z0.1 N w (iz i) (si (si (si e2 (w + 10) 4 (iz al)) (w + 10) 5 (gi (si e2 (w + 10) 4 (iz al)) (w + 7) i)) (w + 10) 6 (gi (si (si e2 (w + 10) 4 (iz al)) (w + 10) 5 (gi (si e2 (w + 10) 4 (iz al)) (w + 7) i)) (g + 7) i))).bind _ = _
    rw [x5, x6]
    exact bnd k2 rfl
  · rw [k6 0 (by decide) (by decide) (by decide), gi_si_if, if_neg (by omega), gi_si_if, if_neg (by omega), gi_si_if, if_neg (by omega), g2, gi_si_if, if_neg (by omega), g1, gi_si_if, if_neg (by omega)]
  · rw [k6 1 (by decide) (by decide) (by decide), gi_si_if, if_neg (by omega), gi_si_if, if_neg (by omega), gi_si_if, if_neg (by omega), g2, gi_si_if, if_neg (by omega), g1, gi_si_if, if_pos ⟨rfl, rfl⟩]
  · rw [k6 3 (by decide) (by decide) (by decide), gi_si_if, if_neg (by omega), gi_si_if, if_neg (by omega), gi_si_if, if_neg (by omega), g2, gi_si_if, if_pos ⟨rfl, rfl⟩]
  · rw [k6 4 (by decide) (by decide) (by decide), gi_si_if, if_neg (by omega), gi_si_if, if_neg (by omega), gi_si_if, if_pos ⟨rfl, rfl⟩]
  · rw [k6 5 (by decide) (by decide) (by decide), gi_si_if, if_neg (by omega), gi_si_if, if_pos ⟨rfl, rfl⟩]
  · rw [k6 6 (by decide) (by decide) (by decide), gi_si_if, if_pos ⟨rfl, rfl⟩]
  · rw [k6 8 (by decide) (by decide) (by decide), gi_si_if, if_neg (by omega), gi_si_if, if_neg (by omega), gi_si_if, if_neg (by omega), g2, gi_si_if, if_neg (by omega), g1, gi_si_if, if_neg (by omega)]
  · rw [k6 9 (by decide) (by decide) (by decide), gi_si_if, if_neg (by omega), gi_si_if, if_neg (by omega), gi_si_if, if_neg (by omega), g2, gi_si_if, if_neg (by omega), g1, gi_si_if, if_neg (by omega)]
theorem c_look {dS : DY} (N : Nat) (d0 d : DY) (g l w L W n i : Nat) (hN : 20 ≤ N) (hv : CV d0 g l w L W n) (hi : i < n) (hp : inS L W (cx d0 w 0 i) (cy d0 w 0 i)) (hc : lkC w d0 dS d) : ∃ e : DY, lkC w d0 dS e ∧ F_X8_look Z0.1 N w (iz i) d = some e ∧ SGT d0 g w L W n i (fun j => gi e (w + 10) j) := by
  have hv' := hv
  obtain ⟨hG, ⟨L16, W6, n12⟩, _⟩ := hv'
  obtain ⟨dj, dj2⟩ := cv_dj hG
  obtain ⟨wy1, wy2⟩ := wy_eq hv i hi
  have dd : dirs (wyI d0 g i) 0 := by
    unfold dirs
    omega
  obtain ⟨a, m, e1, f1, E1, m1, c1, g1⟩ := c_free N d0 d g l w L W n i (wyI d0 g i) 0 hN hv hc hi dd hp
  have m01 : m = -1 ∨ (¬ m = -1 ∧ 0 ≤ m ∧ m < n) := by
    rcases FSt_m f1 with h | ⟨o, h1, h2⟩
    · exact Or.inl h
    · right; omega
  have ha := FSt_a f1
  have ii : ib (iz (i : Int)) 12 := iz_ib (by omega)
  have n8 : ¬ (g + 5 = w ∧ i = 8) := by omega
  have n8' : ¬ (g + 5 = w ∧ m.toNat = 8) := by omega
  have n9 : g + 5 ≠ w + 10 := by omega
  have w0 : gi d (g + 4) i = iz (wyI d0 g i) := by rw [hc.1 _ _ (by omega) (by omega)]; exact wy1
  have c2 := lkC_sight c1 0 (iz a)
  have c3 := lkC_sight c2 8 (if a = 0 then 1 else 0)
  have c4 := lkC_sight c3 9 (facI d0 g i m)
  obtain ⟨ar, mr, al, ml, e, f2, f3, k1, k2, v0, v1, v2, v3, v4, v5, v6, v7, v8, v9, v10⟩ := c_look134 N d0 _ g l w L W n i (sooI d0 g i a m) hN hv hi hp c4
  have m4 : gi (si (si (si e1 (w + 10) 0 (iz a)) (w + 10) 8 (if a = 0 then 1 else 0)) (w + 10) 9 (facI d0 g i m)) w 8 = iz m := by
    rw [gi_si_if, if_neg (by omega), gi_si_if, if_neg (by omega), gi_si_if, if_neg (by omega)]; exact m1
  have L88 : F_X8_look_88 Z0.1 N w (iz i) (iz (wyI d0 g i)) (iz a) (facI d0 g i m) (w + 10) 9 (facI d0 g i m) (si (si e1 (w + 10) 0 (iz a)) (w + 10) 8 (if a = 0 then 1 else 0)) = some e := by
    rw [F_X8_look_88_s, if_pos (by decide), bd_eq, cv_w10 hG, show (9 : Int32).toNatClampNeg = 9 from rfl]
    show (if gi (si (si (si e1 (w + 10) 0 (iz a)) (w + 10) 8 (if a = 0 then 1 else 0)) (w + 10) 9 (facI d0 g i m)) w 8 = -1 then _ else _) = _
    rw [m4]
    rcases m01 with h | ⟨h, h1, h2⟩
    · rw [if_pos (by rw [h]; rfl)]
      have : sooI d0 g i a m = 99 := if_pos h
      rw [this] at k2
      exact k2
    · have : sooI d0 g i a m = soonI (iz a) (gi d0 (g + 5) i) (gi d0 (g + 5) m.toNat) (facI d0 g i m) := if_neg h
      rw [if_neg (show ¬ iz m = -1 from iz_nei (b := -1) (by omega)), if_pos ii, if_pos (iz_ib (by omega)), cv_r0 hG, cv_g5 hG, tnn _ i rfl (by omega), iz_tn (by omega) (by omega)]
      refine bnd (c_soon _ _ _ _ _ _ _) ?_
      have y1 := c4.1 (g + 5) i n8 ⟨n9, by omega⟩
      have y2 := c4.1 (g + 5) m.toNat n8' ⟨n9, by omega⟩
      rw [y1, y2]
      rw [this] at k2
      exact k2
  have L71 : ∀ y : Int32, y = (if a = 0 then 1 else 0) → F_X8_look_71 Z0.1 N w (iz i) (iz (wyI d0 g i)) (iz a) (facI d0 g i m) (w + 10) 8 y (si e1 (w + 10) 0 (iz a)) = some e := fun y hy => by
    rw [F_X8_look_71_s, if_pos (by decide), bd_eq, cv_w10 hG, hy]
    by_cases q : facI d0 g i m = 0
    · rw [if_pos q]
      rw [q] at L88 ⊢
      exact L88
    · have q1 : facI d0 g i m = 1 := by
        unfold facI at q ⊢
        by_cases z : m = -1
        · rw [if_pos z] at q; exact absurd rfl q
        · rw [if_neg z] at q ⊢
          by_cases z2 : gi d0 (g + 4) m.toNat = gi d0 (g + 4) i
          · rw [if_pos z2] at q; exact absurd rfl q
          · rw [if_neg z2]
      rw [if_neg q]
      rw [q1] at L88 ⊢
      exact L88
  have L47 : F_X8_look_47 Z0.1 N w (iz i) (iz (wyI d0 g i)) (iz a) (facI d0 g i m) e1 = some e := by
    rw [F_X8_look_47_s, if_pos (by decide), bd_eq, cv_w10 hG]
    by_cases q : a = 0
    · rw [if_pos (by rw [q]; rfl)]
      exact L71 1 (if_pos q).symm
    · rw [if_neg (show ¬ iz a = 0 from iz_nei (b := 0) (by omega))]
      exact L71 0 (if_neg q).symm
  refine ⟨e, k1, ?_, a, m, ar, mr, al, ml, f1, f2, f3, ?_, v1, v2, v3, v4, v5, v6, v7, ?_, ?_, v10⟩
  · rw [F_X8_look_s, if_pos ii, cv_r0 hG, cv_g4 hG, tnn _ i rfl (by omega), w0]
    refine bnd E1 ?_
    show (if gi e1 w 8 = -1 then _ else _) = _
    rw [m1]
    rcases m01 with h | ⟨h, h1, h2⟩
    · have : facI d0 g i m = 0 := if_pos h
      rw [this] at L47
      rw [if_pos (by rw [h]; rfl)]
      exact L47
    · have : facI d0 g i m = if gi d0 (g + 4) m.toNat = gi d0 (g + 4) i then 0 else 1 := if_neg h
      rw [this] at L47
      rw [if_neg (show ¬ iz m = -1 from iz_nei (b := -1) (by omega)), if_pos (iz_ib (by omega)), iz_tn (by omega) (by omega)]
      show (if gi e1 (g + 4) m.toNat = _ then _ else _) = _
      have y1 := c1.1 (g + 4) m.toNat (by omega) (by omega)
      rw [y1, ← wy1]
      rw [← wy1] at L47
      by_cases z2 : gi d0 (g + 4) m.toNat = gi d0 (g + 4) i
      · rw [if_pos z2] at L47 ⊢
        exact L47
      · rw [if_neg z2] at L47 ⊢
        exact L47
  · show gi e (w + 10) 0 = _
    rw [v0, gi_si_if, if_neg (by omega), gi_si_if, if_neg (by omega), gi_si_if, if_pos ⟨rfl, rfl⟩]
  · show gi e (w + 10) 8 = _
    rw [v8, gi_si_if, if_neg (by omega), gi_si_if, if_pos ⟨rfl, rfl⟩]
  · show gi e (w + 10) 9 = _
    rw [v9, gi_si_if, if_pos ⟨rfl, rfl⟩]
