/-! the class's look -/
theorem least_of (P : Nat → Prop) (k : Nat) : P k → ∃ m : Nat, m ≤ k ∧ P m ∧ ∀ j : Nat, j < m → ¬ P j := by
  induction k using Nat.strongRecOn with
  | ind k ih =>
    intro h
    by_cases q : ∃ j, j < k ∧ P j
    · obtain ⟨j, hj, hp⟩ := q
      obtain ⟨m, h1, h2, h3⟩ := ih j hj hp
      exact ⟨m, by omega, h2, h3⟩
    · exact ⟨k, Nat.le_refl k, h, fun j hj hp => q ⟨j, hj, hp⟩⟩
def min9 (z : Int) : Int := if z < 9 then z else 9
/-- so far it is free, so whom he meets -/
def FSt (d : DY) (g w L W n i : Nat) (dx dy : Int) (a m : Int) : Prop := ∃ (s : Nat) (V : Int), WStop L W (wlP d g) (cx d w 0 i) (cy d w 0 i) dx dy s ∧ s ≤ 16 ∧ ((inS L W (cx d w 0 i + s * dx) (cy d w 0 i + s * dy) → V = s) ∧ (¬ inS L W (cx d w 0 i + s * dx) (cy d w 0 i + s * dy) → V = if dy = 0 then 1000 else s)) ∧ ((m = -1 ∧ a = min9 (V - 1) ∧ ∀ o : Nat, o < n → ∀ b : Nat, 1 ≤ b → (b : Int) < V → ¬ occ d g w i o (cx d w 0 i + b * dx) (cy d w 0 i + b * dy)) ∨ ∃ o b : Nat, o < n ∧ 1 ≤ b ∧ (b : Int) < V ∧ b ≤ 20 ∧ m = o ∧ a = min9 ((b : Int) - 1) ∧ occ d g w i o (cx d w 0 i + b * dx) (cy d w 0 i + b * dy) ∧ (∀ o' : Nat, o' < n → ∀ b' : Nat, 1 ≤ b' → b' < b → ¬ occ d g w i o' (cx d w 0 i + b' * dx) (cy d w 0 i + b' * dy)) ∧ ∀ o' : Nat, o' < o → ¬ occ d g w i o' (cx d w 0 i + b * dx) (cy d w 0 i + b * dy))
theorem c_free {dS : DY} (N : Nat) (d0 d : DY) (g l w L W n i : Nat) (dx dy : Int) (hN : 20 ≤ N) (hv : CV d0 g l w L W n) (hk : lkC w d0 dS d) (hi : i < n) (hd : dirs dx dy) (hp : inS L W (cx d0 w 0 i) (cy d0 w 0 i)) : ∃ (a m : Int) (e : DY), FSt d0 g w L W n i dx dy a m ∧ F_X8_freeSteps Z0.1 N w (iz i) (iz dx) (iz dy) d = some (iz a, e) ∧ gi e w 8 = iz m ∧ lkC w d0 dS e ∧ ∀ j : Nat, gi e (w + 10) j = gi d (w + 10) j := by
  have hv' := hv
  obtain ⟨hG, ⟨L16, W6, n12⟩, ⟨e0, e1, e3⟩, hwall, hpos, hwk⟩ := hv'
  obtain ⟨dj, dj2⟩ := cv_dj hG
  obtain ⟨i1, i2, i3⟩ := hpos 0 i (by omega) hi
  rw [Nat.mul_zero, Nat.zero_add] at i1 i2
  have hp' := hp
  unfold inS at hp'
  have o16 : ¬ inS L W (cx d0 w 0 i + (16 : Nat) * dx) (cy d0 w 0 i + (16 : Nat) * dy) := fun z => by
    unfold inS at z
    rcases hd with ⟨rfl, rfl⟩ | ⟨rfl, rfl⟩ | ⟨rfl, rfl⟩ | ⟨rfl, rfl⟩ <;> omega
  obtain ⟨s, s16, ⟨s1, s2⟩, s3⟩ := least_of (fun k => 1 ≤ k ∧ (¬ inS L W (cx d0 w 0 i + k * dx) (cy d0 w 0 i + k * dy) ∨ wlP d0 g (cx d0 w 0 i + k * dx) (cy d0 w 0 i + k * dy))) 16 ⟨by omega, Or.inl o16⟩
  have hs : WStop L W (wlP d0 g) (cx d0 w 0 i) (cy d0 w 0 i) dx dy s := ⟨s1, fun j j1 js => by
    by_cases q1 : inS L W (cx d0 w 0 i + j * dx) (cy d0 w 0 i + j * dy)
    · by_cases q2 : wlP d0 g (cx d0 w 0 i + j * dx) (cy d0 w 0 i + j * dy)
      · exact absurd ⟨j1, Or.inr q2⟩ (s3 j js)
      · exact ⟨q1, q2⟩
    · exact absurd ⟨j1, Or.inl q1⟩ (s3 j js), s2⟩
  obtain ⟨V, hV, V1⟩ : ∃ V : Int, ((inS L W (cx d0 w 0 i + s * dx) (cy d0 w 0 i + s * dy) → V = s) ∧ (¬ inS L W (cx d0 w 0 i + s * dx) (cy d0 w 0 i + s * dy) → V = if dy = 0 then 1000 else s)) ∧ 1 ≤ V ∧ V ≤ 1000 := by
    by_cases q : inS L W (cx d0 w 0 i + s * dx) (cy d0 w 0 i + s * dy)
    · exact ⟨s, ⟨fun _ => rfl, fun z => absurd q z⟩, by omega, by omega⟩
    · by_cases q2 : dy = 0
      · exact ⟨1000, ⟨fun z => absurd z q, fun _ => by rw [if_pos q2]; rfl⟩, by omega, by omega⟩
      · exact ⟨s, ⟨fun z => absurd z q, fun _ => by rw [if_neg q2]⟩, by omega, by omega⟩
  have hst := c_steps N d0 g l w L W n s (cx d0 w 0 i) (cy d0 w 0 i) dx dy hv hp hd hs s16 V hV d hk (s - 1) 1 N (by omega) (by omega) (by omega)
  have F0 : ∀ r, F_X8_freeSteps_24 Z0.1 N N w (iz i) (iz dx) (iz dy) (iz V) (iz ((12 * lt d0 g i : Nat) : Int)) (iz ((0 : Nat) : Int)) (si d w 8 (-1)) = r → F_X8_freeSteps Z0.1 N w (iz i) (iz dx) (iz dy) d = r := fun r h => by
    have q1 : gi d (w + 1) i = iz (cx d0 w 0 i) := by rw [hk.1 _ _ (by omega) (by omega)]; exact i1
    have q2 : gi d (w + 2) i = iz (cy d0 w 0 i) := by rw [hk.1 _ _ (by omega) (by omega)]; exact i2
    have st : F_X8_stepsToWall Z0.1 N w (iz i) (iz dx) (iz dy) d = some (iz V, d) := by
      rw [F_X8_stepsToWall_s, if_pos (iz_ib (by omega)), if_pos (iz_ib (by omega)), cv_w1 hG, cv_w2 hG, tnn _ i rfl (by omega), q1, q2, iz_add, iz_add]
      rw [show cx d0 w 0 i + ((1 : Nat) : Int) * dx = cx d0 w 0 i + dx by omega, show cy d0 w 0 i + ((1 : Nat) : Int) * dy = cy d0 w 0 i + dy by omega] at hst
      exact hst
    rw [F_X8_freeSteps_s]
    refine bnd st ?_
    refine bnd (c_past N d0 d g l w L W n i hv hk hi) ?_
    exact h
  have hk1 := lkC_met hk (-1)
  have sg : ∀ (j : Nat) (v : Int32), gi (si d w 8 v) (w + 10) j = gi d (w + 10) j := fun j v => by rw [gi_si_if, if_neg (by omega)]
  have m9 : ∀ z : Int, iz (if z < 9 then z else 9) = iz (min9 z) := fun _ => rfl
  by_cases hq : ∃ b : Nat, 1 ≤ b ∧ (b : Int) < V ∧ ∃ o : Nat, o < n ∧ occ d0 g w i o (cx d0 w 0 i + b * dx) (cy d0 w 0 i + b * dy)
  · obtain ⟨b0, hb0⟩ := hq
    obtain ⟨b, _, ⟨b1, bV, o0, ho0⟩, bl⟩ := least_of (fun b : Nat => 1 ≤ b ∧ (b : Int) < V ∧ ∃ o : Nat, o < n ∧ occ d0 g w i o (cx d0 w 0 i + b * dx) (cy d0 w 0 i + b * dy)) b0 hb0
    obtain ⟨o, _, ⟨on, oo⟩, ol⟩ := least_of (fun o : Nat => o < n ∧ occ d0 g w i o (cx d0 w 0 i + b * dx) (cy d0 w 0 i + b * dy)) o0 ho0
    have hno : ∀ o' : Nat, o' < n → ∀ b' : Nat, 1 ≤ b' → b' < b → ¬ occ d0 g w i o' (cx d0 w 0 i + b' * dx) (cy d0 w 0 i + b' * dy) := fun o' h1 b' h2 h3 h4 => bl b' h3 ⟨h2, by omega, o', h1, h4⟩
    have hfi : ∀ o' : Nat, o' < o → ¬ occ d0 g w i o' (cx d0 w 0 i + b * dx) (cy d0 w 0 i + b * dy) := fun o' h1 h2 => ol o' h1 ⟨by omega, h2⟩
    have b20 : b ≤ 20 := by
      obtain ⟨_, lt3⟩ := lt_eq hv i hi
      obtain ⟨_, u1, u2, u3⟩ := oo
      obtain ⟨_, _, p3⟩ := hpos (lt d0 g i) o (by omega) on
      unfold inS at p3
      rcases hd with ⟨rfl, rfl⟩ | ⟨rfl, rfl⟩ | ⟨rfl, rfl⟩ | ⟨rfl, rfl⟩ <;> omega
    obtain ⟨e, ⟨k1, ks⟩, k2, k3⟩ := c_fmet N d0 g l w L W n i o b dx dy hv hi on hd hp ⟨b1, by omega⟩ oo hno hfi n N 0 V (si d w 8 (-1)) (by omega) (by omega) hk1 V1.2 (fun _ => bV) (fun z => absurd z (by omega))
    refine ⟨min9 ((b : Int) - 1), o, e, ⟨s, V, hs, s16, hV, Or.inr ⟨o, b, on, b1, bV, b20, rfl, rfl, oo, hno, hfi⟩⟩, F0 _ k3, k2, k1, fun j => (ks j).trans (sg j _)⟩
  · have hno : ∀ o : Nat, o < n → ∀ b : Nat, 1 ≤ b → (b : Int) < V → ¬ occ d0 g w i o (cx d0 w 0 i + b * dx) (cy d0 w 0 i + b * dy) := fun o h1 b h2 h3 h4 => hq ⟨b, h2, h3, o, h1, h4⟩
    have k := c_fnone N d0 g l w L W n i dx dy V hv hi hd hp V1 hno n N 0 (si d w 8 (-1)) (by omega) (by omega) hk1
    exact ⟨min9 (V - 1), -1, si d w 8 (-1), ⟨s, V, hs, s16, hV, Or.inl ⟨rfl, rfl, hno⟩⟩, F0 _ k, by rw [gi_si_if, if_pos ⟨rfl, rfl⟩]; rfl, hk1, fun j => sg j _⟩
