/-! how far it is free: the class's side -/
def lt (d : DY) (g i : Nat) : Nat := (gi d (g + 6) i).toNatClampNeg
theorem lt_eq {d : DY} {g l w L W n : Nat} (hv : CV d g l w L W n) (i : Nat) (hi : i < n) : gi d (g + 6) i = iz (lt d g i : Nat) ∧ lt d g i ≤ 3 := by
  obtain ⟨_, _, _, _, _, hwk⟩ := hv
  obtain ⟨_, _, ⟨p, p3, e⟩, _⟩ := hwk i hi
  have : lt d g i = p := by
    unfold lt
    rw [e]
    exact tnn _ p rfl (by omega)
  rw [this]
  exact ⟨e, p3⟩
theorem clamp3 (d : DY) (p : Nat) (h : p < 4) : (if iz (p : Int) ≤ 0 then some ((0 : Int32), d) else (if (4 : Int32) ≤ iz (p : Int) then some ((0 : Int32), d) else some ((iz (p : Int) * (12 : Int32)), d))) = some (iz ((12 * p : Nat) : Int), d) := by
  have k : ∀ q : Nat, q < 4 → (if iz (q : Int) ≤ 0 then (0 : Int32) else (if (4 : Int32) ≤ iz (q : Int) then (0 : Int32) else iz (q : Int) * (12 : Int32))) = iz ((12 * q : Nat) : Int) := by decide +kernel
  rw [← k p h]
  by_cases h1 : iz (p : Int) ≤ 0
  · rw [if_pos h1, if_pos h1]
  · rw [if_neg h1, if_neg h1]
    by_cases h2 : (4 : Int32) ≤ iz (p : Int)
    · rw [if_pos h2, if_pos h2]
    · rw [if_neg h2, if_neg h2]
theorem c_past {dS : DY} (N : Nat) (d0 d : DY) (g l w L W n i : Nat) (hv : CV d0 g l w L W n) (hk : lkC w d0 dS d) (hi : i < n) : F_X8_pastOf Z0.1 N w (iz i) d = some (iz ((12 * lt d0 g i : Nat) : Int), d) := by
  obtain ⟨e, p3⟩ := lt_eq hv i hi
  have lt3 : lt d0 g i < 4 := by omega
  obtain ⟨hG, ⟨L16, W6, n12⟩, _⟩ := hv
  obtain ⟨dj, dj2⟩ := cv_dj hG
  have e' : gi d (g + 6) i = iz (lt d0 g i : Nat) := by rw [hk.1 _ _ (by omega) (by omega)]; exact e
  rw [F_X8_pastOf_s, if_pos (iz_ib (by omega)), cv_r0 hG, cv_g6 hG, tnn _ i rfl (by omega), e', clamp3 d _ lt3]
/-- walker o, as i sees him, stands on this square -/
def occ (d : DY) (g w i o : Nat) (x y : Int) : Prop := o ≠ i ∧ cx d w (lt d g i) o = x ∧ cy d w (lt d g i) o = y ∧ cx d w (lt d g i) o ≠ -1
theorem c_f24 {dS : DY} (N : Nat) (d0 d : DY) (g l w L W n i o k : Nat) (dx dy f : Int) (hv : CV d0 g l w L W n) (hk : lkC w d0 dS d) (hi : i < n) (ho : o < n) (hd : dirs dx dy) (hp : inS L W (cx d0 w 0 i) (cy d0 w 0 i)) (hf : 1 ≤ f ∧ f ≤ 1000) : ∃ (f' : Int) (d' : DY), (lkC w d0 dS d' ∧ ∀ j : Nat, gi d' (w + 10) j = gi d (w + 10) j) ∧ F_X8_freeSteps_24 Z0.1 N (k + 1) w (iz i) (iz dx) (iz dy) (iz f) (iz ((12 * lt d0 g i : Nat) : Int)) (iz o) d = F_X8_freeSteps_24 Z0.1 N k w (iz i) (iz dx) (iz dy) (iz f') (iz ((12 * lt d0 g i : Nat) : Int)) (iz ((o + 1 : Nat) : Int)) d' ∧ ((∃ a : Nat, 1 ≤ a ∧ (a : Int) < f ∧ occ d0 g w i o (cx d0 w 0 i + a * dx) (cy d0 w 0 i + a * dy) ∧ f' = a ∧ gi d' w 8 = iz o) ∨ ((∀ a : Nat, 1 ≤ a → (a : Int) < f → ¬ occ d0 g w i o (cx d0 w 0 i + a * dx) (cy d0 w 0 i + a * dy)) ∧ f' = f ∧ d' = d)) := by
  obtain ⟨e6, lt3⟩ := lt_eq hv i hi
  obtain ⟨hG, ⟨L16, W6, n12⟩, ⟨e0, e1, e3⟩, hwall, hpos, hwk⟩ := hv
  obtain ⟨dj, dj2⟩ := cv_dj hG
  have g3 : gi d g 3 = iz n := by rw [hk.1 g 3 (by omega) (by omega)]; exact e3
  obtain ⟨o1, o2, o3⟩ := hpos (lt d0 g i) o (by omega) ho
  obtain ⟨i1, i2, i3⟩ := hpos 0 i (by omega) hi
  rw [Nat.mul_zero, Nat.zero_add] at i1 i2
  have p1 : gi d (w + 1) (12 * lt d0 g i + o) = iz (cx d0 w (lt d0 g i) o) := by rw [hk.1 _ _ (by omega) (by omega)]; exact o1
  have p2 : gi d (w + 2) (12 * lt d0 g i + o) = iz (cy d0 w (lt d0 g i) o) := by rw [hk.1 _ _ (by omega) (by omega)]; exact o2
  have q1 : gi d (w + 1) i = iz (cx d0 w 0 i) := by rw [hk.1 _ _ (by omega) (by omega)]; exact i1
  have q2 : gi d (w + 2) i = iz (cy d0 w 0 i) := by rw [hk.1 _ _ (by omega) (by omega)]; exact i2
  have a1 : iz ((12 * lt d0 g i : Nat) : Int) + iz (o : Int) = iz ((12 * lt d0 g i + o : Nat) : Int) := iz_add _ _
  have a2 : iz (o : Int) + (1 : Int32) = iz ((o + 1 : Nat) : Int) := iz_add o 1
  have j1 : ib (iz ((12 * lt d0 g i + o : Nat) : Int)) 48 := iz_ib (by omega)
  have j2 : ib (iz (i : Int)) 48 := iz_ib (by omega)
  rw [F_X8_freeSteps_24_s, cv_r0 hG, g3, if_neg (show ¬ iz (n : Int) ≤ iz (o : Int) from iz_nle (by omega)), a2]
  unfold occ
  revert p1 p2 o3
  unfold inS at *
  generalize hX : cx d0 w (lt d0 g i) o = X
  generalize hY : cy d0 w (lt d0 g i) o = Y
  revert q1 q2 hp
  generalize hx : cx d0 w 0 i = x0
  generalize hy : cy d0 w 0 i = y0
  intro hp q1 q2 o3 p1 p2
  by_cases c1 : o = i
  · rw [if_pos (by rw [c1])]
    exact ⟨f, d, ⟨hk, fun _ => rfl⟩, rfl, Or.inr ⟨fun a _ _ z => z.1 c1, rfl, rfl⟩⟩
  · rw [if_neg (show ¬ iz (o : Int) = iz (i : Int) from iz_nei (by omega)), a1, if_pos j1, cv_w1 hG, cv_w2 hG, tnn _ (12 * lt d0 g i + o) rfl (by omega), tnn _ i rfl (by omega), p1, p2, q1, q2]
    by_cases c2 : X = -1
    · rw [if_pos (show iz X = -1 from by rw [c2]; rfl)]
      exact ⟨f, d, ⟨hk, fun _ => rfl⟩, rfl, Or.inr ⟨fun a _ _ z => z.2.2.2 c2, rfl, rfl⟩⟩
    · rw [if_neg (show ¬ iz X = -1 from iz_nei (b := -1) (by omega)), if_pos j1, if_pos j2, if_pos j1, if_pos j2, iz_sub, iz_sub, iz_mul, iz_mul, iz_mul, iz_mul, iz_add]
      have b1 : -20 ≤ X - x0 ∧ X - x0 ≤ 20 := by omega
      have b2 : -20 ≤ Y - y0 ∧ Y - y0 ≤ 20 := by omega
      have r1 : -20 ≤ (X - x0) * dy ∧ (X - x0) * dy ≤ 20 := by rcases hd with ⟨rfl, rfl⟩ | ⟨rfl, rfl⟩ | ⟨rfl, rfl⟩ | ⟨rfl, rfl⟩ <;> omega
      have r2 : -20 ≤ (Y - y0) * dx ∧ (Y - y0) * dx ≤ 20 := by rcases hd with ⟨rfl, rfl⟩ | ⟨rfl, rfl⟩ | ⟨rfl, rfl⟩ | ⟨rfl, rfl⟩ <;> omega
      have r3 : -40 ≤ (X - x0) * dx + (Y - y0) * dy ∧ (X - x0) * dx + (Y - y0) * dy ≤ 40 := by rcases hd with ⟨rfl, rfl⟩ | ⟨rfl, rfl⟩ | ⟨rfl, rfl⟩ | ⟨rfl, rfl⟩ <;> omega
      have key : ∀ a : Nat, (X = x0 + a * dx ∧ Y = y0 + a * dy) → ((X - x0) * dy = (Y - y0) * dx ∧ (X - x0) * dx + (Y - y0) * dy = a) := fun a z => by
        rcases hd with ⟨rfl, rfl⟩ | ⟨rfl, rfl⟩ | ⟨rfl, rfl⟩ | ⟨rfl, rfl⟩ <;> omega
      have key2 : (X - x0) * dy = (Y - y0) * dx → 0 < (X - x0) * dx + (Y - y0) * dy → X = x0 + ((((X - x0) * dx + (Y - y0) * dy).toNat : Nat) : Int) * dx ∧ Y = y0 + ((((X - x0) * dx + (Y - y0) * dy).toNat : Nat) : Int) * dy := fun z1 z2 => by
        rcases hd with ⟨rfl, rfl⟩ | ⟨rfl, rfl⟩ | ⟨rfl, rfl⟩ | ⟨rfl, rfl⟩ <;> omega
      by_cases c3 : (X - x0) * dy = (Y - y0) * dx
      · rw [if_pos (by rw [c3])]
        by_cases c4 : (X - x0) * dx + (Y - y0) * dy ≤ 0
        · rw [if_pos (show iz ((X - x0) * dx + (Y - y0) * dy) ≤ 0 from iz_lei (b := 0) (by omega))]
          refine ⟨f, d, ⟨hk, fun _ => rfl⟩, rfl, Or.inr ⟨fun a h1 _ z => ?_, rfl, rfl⟩⟩
          have := (key a ⟨z.2.1, z.2.2.1⟩).2
          omega
        · rw [if_neg (show ¬ iz ((X - x0) * dx + (Y - y0) * dy) ≤ 0 from iz_nle (b := 0) (by omega))]
          by_cases c5 : f ≤ (X - x0) * dx + (Y - y0) * dy
          · rw [if_pos (iz_lei (by omega))]
            refine ⟨f, d, ⟨hk, fun _ => rfl⟩, rfl, Or.inr ⟨fun a _ h2 z => ?_, rfl, rfl⟩⟩
            have := (key a ⟨z.2.1, z.2.2.1⟩).2
            omega
          · rw [if_neg (iz_nle (by omega)), bd_eq]
            obtain ⟨k1, k2⟩ := key2 c3 (by omega)
            have ta : ((((X - x0) * dx + (Y - y0) * dy).toNat : Nat) : Int) = (X - x0) * dx + (Y - y0) * dy := by omega
            refine ⟨(X - x0) * dx + (Y - y0) * dy, si d w 8 (iz o), ⟨lkC_met hk _, fun j => by rw [gi_si_if, if_neg (by omega)]⟩, rfl, Or.inl ⟨((X - x0) * dx + (Y - y0) * dy).toNat, by omega, by omega, ⟨c1, k1, k2, c2⟩, ta.symm, ?_⟩⟩
            rw [gi_si_if, if_pos ⟨rfl, rfl⟩]
      · rw [if_neg (iz_nei (by omega))]
        exact ⟨f, d, ⟨hk, fun _ => rfl⟩, rfl, Or.inr ⟨fun a _ _ z => c3 (key a ⟨z.2.1, z.2.2.1⟩).1, rfl, rfl⟩⟩
/-- nobody is seen before V -/
theorem c_fnone {dS : DY} (N : Nat) (d0 : DY) (g l w L W n i : Nat) (dx dy V : Int) (hv : CV d0 g l w L W n) (hi : i < n) (hd : dirs dx dy) (hp : inS L W (cx d0 w 0 i) (cy d0 w 0 i)) (hf : 1 ≤ V ∧ V ≤ 1000) (hno : ∀ o : Nat, o < n → ∀ a : Nat, 1 ≤ a → (a : Int) < V → ¬ occ d0 g w i o (cx d0 w 0 i + a * dx) (cy d0 w 0 i + a * dy)) : ∀ (r k o : Nat) (d : DY), o + r = n → r < k → lkC w d0 dS d → F_X8_freeSteps_24 Z0.1 N k w (iz i) (iz dx) (iz dy) (iz V) (iz ((12 * lt d0 g i : Nat) : Int)) (iz o) d = some (iz (if V - 1 < 9 then V - 1 else 9), d) := by
  intro r
  induction r with
  | zero =>
    intro k o d ho hk hc
    obtain ⟨k, rfl⟩ : ∃ j, k = j + 1 := ⟨k - 1, by omega⟩
    have hv' := hv
    obtain ⟨hG, ⟨L16, W6, n12⟩, ⟨e0, e1, e3⟩, _⟩ := hv'
    obtain ⟨dj, dj2⟩ := cv_dj hG
    have g3 : gi d g 3 = iz n := by rw [hc.1 g 3 (by omega) (by omega)]; exact e3
    rw [F_X8_freeSteps_24_s, cv_r0 hG, g3, if_pos (show iz (n : Int) ≤ iz (o : Int) from iz_lei (by omega)), show iz V - (1 : Int32) = iz (V - 1) from iz_sub V 1]
    by_cases q : V - 1 < 9
    · rw [if_pos q, if_pos (show iz (V - 1) < (9 : Int32) from iz_lti (b := 9) (by omega))]
    · rw [if_neg q, if_neg (show ¬ iz (V - 1) < (9 : Int32) from iz_nlt (b := 9) (by omega))]
      rfl
  | succ r ih =>
    intro k o d ho hk hc
    obtain ⟨k, rfl⟩ : ∃ j, k = j + 1 := ⟨k - 1, by omega⟩
    obtain ⟨f', d', h1, h2, h3⟩ := c_f24 N d0 d g l w L W n i o k dx dy V hv hc hi (by omega) hd hp hf
    rcases h3 with ⟨a, a1, a2, a3, _⟩ | ⟨_, a4, a5⟩
    · exact absurd a3 (hno o (by omega) a a1 a2)
    · rw [h2, a4, a5]
      exact ih k (o + 1) d (by omega) (by omega) hc
/-- o' is the first who is seen first, a steps on -/
theorem c_fmet {dS : DY} (N : Nat) (d0 : DY) (g l w L W n i o' a : Nat) (dx dy : Int) (hv : CV d0 g l w L W n) (hi : i < n) (ho' : o' < n) (hd : dirs dx dy) (hp : inS L W (cx d0 w 0 i) (cy d0 w 0 i)) (ha : 1 ≤ a ∧ a ≤ 900) (hoc : occ d0 g w i o' (cx d0 w 0 i + a * dx) (cy d0 w 0 i + a * dy)) (hno : ∀ o : Nat, o < n → ∀ b : Nat, 1 ≤ b → b < a → ¬ occ d0 g w i o (cx d0 w 0 i + b * dx) (cy d0 w 0 i + b * dy)) (hfi : ∀ o : Nat, o < o' → ¬ occ d0 g w i o (cx d0 w 0 i + a * dx) (cy d0 w 0 i + a * dy)) : ∀ (r k o : Nat) (f : Int) (d : DY), o + r = n → r < k → lkC w d0 dS d → f ≤ 1000 → (o ≤ o' → (a : Int) < f) → (o' < o → f = a ∧ gi d w 8 = iz o') → ∃ e : DY, (lkC w d0 dS e ∧ ∀ j : Nat, gi e (w + 10) j = gi d (w + 10) j) ∧ gi e w 8 = iz o' ∧ F_X8_freeSteps_24 Z0.1 N k w (iz i) (iz dx) (iz dy) (iz f) (iz ((12 * lt d0 g i : Nat) : Int)) (iz o) d = some (iz (if (a : Int) - 1 < 9 then (a : Int) - 1 else 9), e) := by
  intro r
  induction r with
  | zero =>
    intro k o f d ho hk hc hf h1 h2
    obtain ⟨k, rfl⟩ : ∃ j, k = j + 1 := ⟨k - 1, by omega⟩
    obtain ⟨rfl, hm⟩ := h2 (by omega)
    have hv' := hv
    obtain ⟨hG, ⟨L16, W6, n12⟩, ⟨e0, e1, e3⟩, _⟩ := hv'
    obtain ⟨dj, dj2⟩ := cv_dj hG
    have g3 : gi d g 3 = iz n := by rw [hc.1 g 3 (by omega) (by omega)]; exact e3
    refine ⟨d, ⟨hc, fun _ => rfl⟩, hm, ?_⟩
    rw [F_X8_freeSteps_24_s, cv_r0 hG, g3, if_pos (show iz (n : Int) ≤ iz (o : Int) from iz_lei (by omega)), show iz (a : Int) - (1 : Int32) = iz ((a : Int) - 1) from iz_sub _ 1]
    by_cases q : (a : Int) - 1 < 9
    · rw [if_pos q, if_pos (show iz ((a : Int) - 1) < (9 : Int32) from iz_lti (b := 9) (by omega))]
    · rw [if_neg q, if_neg (show ¬ iz ((a : Int) - 1) < (9 : Int32) from iz_nlt (b := 9) (by omega))]
      rfl
  | succ r ih =>
    intro k o f d ho hk hc hf h1 h2
    obtain ⟨k, rfl⟩ : ∃ j, k = j + 1 := ⟨k - 1, by omega⟩
    have f1 : 1 ≤ f := by
      rcases Nat.lt_or_ge o' o with z | z
      · have := (h2 z).1; omega
      · have := h1 z; omega
    obtain ⟨f', d', ⟨k1, ks⟩, k2, k3⟩ := c_f24 N d0 d g l w L W n i o k dx dy f hv hc hi (by omega) hd hp ⟨f1, hf⟩
    rw [k2]
    have same : ∀ b : Nat, occ d0 g w i o (cx d0 w 0 i + b * dx) (cy d0 w 0 i + b * dy) → occ d0 g w i o (cx d0 w 0 i + a * dx) (cy d0 w 0 i + a * dy) → b = a := fun b z1 z2 => by
      have u1 := z1.2.1
      have u2 := z1.2.2.1
      have u3 := z2.2.1
      have u4 := z2.2.2.1
      rcases hd with ⟨rfl, rfl⟩ | ⟨rfl, rfl⟩ | ⟨rfl, rfl⟩ | ⟨rfl, rfl⟩ <;> omega
    have go : ∀ (x1 : f' ≤ 1000) (x2 : o + 1 ≤ o' → (a : Int) < f') (x3 : o' < o + 1 → f' = a ∧ gi d' w 8 = iz o'), ∃ e : DY, (lkC w d0 dS e ∧ ∀ j : Nat, gi e (w + 10) j = gi d (w + 10) j) ∧ gi e w 8 = iz o' ∧ F_X8_freeSteps_24 Z0.1 N k w (iz i) (iz dx) (iz dy) (iz f') (iz ((12 * lt d0 g i : Nat) : Int)) (iz ((o + 1 : Nat) : Int)) d' = some (iz (if (a : Int) - 1 < 9 then (a : Int) - 1 else 9), e) := fun x1 x2 x3 => by
      obtain ⟨e, ⟨y1, y2⟩, y3, y4⟩ := ih k (o + 1) f' d' (by omega) (by omega) k1 x1 x2 x3
      exact ⟨e, ⟨y1, fun j => (y2 j).trans (ks j)⟩, y3, y4⟩
    refine go ?_ (fun z => ?_) (fun z => ?_)
    · rcases k3 with ⟨b, b1, b2, b3, b4, b5⟩ | ⟨_, b4, _⟩ <;> omega
    · have := h1 (by omega)
      rcases k3 with ⟨b, b1, b2, b3, b4, b5⟩ | ⟨_, b4, _⟩
      · have n1 : ¬ b < a := fun q => hno o (by omega) b b1 q b3
        have n2 : ¬ b = a := fun q => hfi o (by omega) (by rw [← q]; exact b3)
        omega
      · omega
    · by_cases q : o = o'
      · subst q
        have := h1 (by omega)
        rcases k3 with ⟨b, b1, b2, b3, b4, b5⟩ | ⟨b3, _, _⟩
        · have := same b b3 hoc
          exact ⟨by omega, b5⟩
        · exact absurd hoc (b3 a (by omega) this)
      · obtain ⟨q1, q2⟩ := h2 (by omega)
        rcases k3 with ⟨b, b1, b2, b3, b4, b5⟩ | ⟨b3, b4, b5⟩
        · exact absurd b3 (hno o (by omega) b b1 (by omega))
        · rw [b4, b5]
          exact ⟨q1, q2⟩
