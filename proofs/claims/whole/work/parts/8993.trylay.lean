/-! a trial is laid on both sides -/
theorem try_lay (N k j : Nat) (seed : Int32) (dy c m : DY) (hN : 900 ≤ N) (h : Inv dy) (k3 : k < 3) (j3 : j < 3) (hc : CPD k j dy c) (hm : ∀ x i : Nat, 511 ≤ x → x ≤ 527 → gi m x i = gi dy x i) : ∃ (L W n : Nat) (c' m' : DY), F_X8_begin Z0.1 N 112 seed c = some c' ∧ F_X10_lay Z0.1 N 510 (iz ((4 : Nat) : Int)) (iz k) (iz j) seed 12 (-1) m = some m' ∧ gi dy (41 + 17 * k) 3 = iz n ∧ RRx (mixD c' m') 95 105 112 4 id L W n n ∧ BEG c c' 95 112 seed ∧ LAID m m' 4 k j n seed 12 (-1) := by
  obtain ⟨_, _, _, _, _, _, _, hPR, hLR, _⟩ := id h.1
  obtain ⟨C1, C2, C3, C4⟩ := hc
  have hp9 : ∀ p ∈ pC, p.1 ≤ 9 := by decide
  have hp6 : ∀ p ∈ lC, p.1 ≤ 6 := by decide
  have hP : PR dy (41 + 17 * k) k := by
    have := hPR k k3
    rw [show 2 + 39 + 17 * k = 41 + 17 * k by omega, show 3 * 0 + k = k by omega] at this
    exact this
  have hL : LR dy (51 + 17 * j) (gi dy 523 j) 524 (288 * j) := by
    have := hLR j j3
    rw [show 2 + 49 + 17 * j = 51 + 17 * j by omega, show 3 * 0 + j = j by omega] at this
    exact this
  obtain ⟨L0, W0, n, ⟨_, _, n12⟩, _, _, _, ⟨kn, kn'⟩, _, kw, _⟩ := id hP
  obtain ⟨c', E3, B3, O3⟩ := c_begin (g := 95) (l := 105) (w := 112) N c n seed (by omega) cvg_try n12 ((C1.1 3 (by decide)).trans kn) (fun o ho => by
    obtain ⟨_, _, ⟨_, _, _, ⟨v, v9, v2, _⟩, _⟩, _⟩ := kw o ho
    exact ⟨v, v9, (C1.2 (7, 12) (pC_in 7 (by omega) (by omega)) o (by omega)).trans v2⟩)
  obtain ⟨m', E4, A4⟩ := m_lay N 4 k j n seed 12 (-1) m hN (by omega) (by omega) (by omega) n12 (by rw [hm 518 k (by omega) (by omega)]; exact kn')
  obtain ⟨bb1, bb2, bb3, bb4, bb5, bb6⟩ := id B3
  have cc : ∀ x i : Nat, x < 95 → gi c' x i = gi dy x i := fun x i hx => by rw [bb5 x i (by omega), C3 x i (by omega)]
  have D1 : ∀ x i : Nat, x < 95 → gi (mixD c' m) x i = gi dy x i := fun x i hx => by rw [mix_c _ _ _ _ (by omega), cc x i hx]
  have D2 : ∀ x i : Nat, 511 ≤ x → x ≤ 527 → gi (mixD c' m) x i = gi dy x i := fun x i h1 h2 => by rw [mix_m _ _ _ _ (by omega), hm x i h1 h2]
  have hP' : PR (mixD c' m) (41 + 17 * k) k := PR_of hP ⟨fun f hf => D1 _ _ (by omega), fun p hp' i hi => D1 _ _ (by have := hp9 p hp'; omega)⟩ (D2 _ _ (by omega) (by omega)) (D2 _ _ (by omega) (by omega)) (D2 _ _ (by omega) (by omega)) (D2 _ _ (by omega) (by omega)) (fun i hi => D2 _ _ (by omega) (by omega)) (fun i hi => D2 _ _ (by omega) (by omega))
  have hL' : LR (mixD c' m) (51 + 17 * j) (gi (mixD c' m) 523 j) 524 (288 * j) := LR_of hL ⟨fun f hf => D1 _ _ (by omega), fun p hp' i hi => D1 _ _ (by have := hp6 p hp'; omega)⟩ (D2 _ _ (by omega) (by omega)) (fun i hi => D2 _ _ (by omega) (by omega))
  have e3 : ∀ x i : Nat, x < 510 → gi (mixD c' m') x i = gi c' x i := fun x i h1 => mix_c _ _ _ _ h1
  have eM : ∀ x i : Nat, 510 ≤ x → gi (mixD c' m') x i = gi m' x i := fun x i h1 => mix_m _ _ _ _ h1
  have dM' : ∀ x i : Nat, 510 ≤ x → gi (mixD c' m) x i = gi m x i := fun x i h1 => mix_m _ _ _ _ h1
  have LA : LAID (mixD c' m) (mixD c' m') 4 k j n seed 12 (-1) := by
    obtain ⟨a1, a2, ⟨a3, a4, a5, a6, a7, a8⟩, ⟨z3, z5⟩, aw, a9, a10, a11⟩ := id A4
    refine ⟨fun x y q => ?_, fun x y => a2 x y, ⟨?_, ?_, ?_, ?_, ?_, ?_⟩, ⟨?_, fun y h1 h2 => ?_⟩, fun i hi => ⟨⟨fun y hy => ?_, fun y h1 h2 => ?_, ?_⟩, fun y h1 h2 => ?_⟩, fun i hi => ?_, fun i hi => ?_, fun y h1 h2 => ?_⟩
    · by_cases z : x < 510
      · rw [mix_c _ _ _ _ z, mix_c _ _ _ _ z]
      · rw [mix_m _ _ _ _ (by omega), mix_m _ _ _ _ (by omega)]
        exact a1 x y q
    · rw [eM _ _ (by omega), dM' _ _ (by omega)]; exact a3
    · rw [eM _ _ (by omega), dM' _ _ (by omega)]; exact a4
    · rw [eM _ _ (by omega), dM' _ _ (by omega)]; exact a5
    · rw [eM _ _ (by omega)]; exact a6
    · rw [eM _ _ (by omega), dM' _ _ (by omega)]; exact a7
    · rw [eM _ _ (by omega)]; exact a8
    · rw [eM _ _ (by omega)]; exact z3
    · rw [eM _ _ (by omega)]; exact z5 y h1 h2
    · rw [eM _ _ (by omega), eM 531 (720 * 4 + 16 + 20 * i + 4 + y) (by omega), dM' 521 (8 * (12 * k + i)) (by omega), dM' 521 (8 * (12 * k + i) + 1) (by omega)]
      exact (aw i hi).1.1 y hy
    · rw [eM _ _ (by omega), dM' _ _ (by omega)]; exact (aw i hi).1.2.1 y h1 h2
    · rw [eM _ _ (by omega)]; exact (aw i hi).1.2.2
    · rw [eM _ _ (by omega)]; exact (aw i hi).2 y h1 h2
    · rw [eM _ _ (by omega), dM' _ _ (by omega)]; exact a9 i hi
    · rw [eM _ _ (by omega), dM' _ _ (by omega)]; exact a10 i hi
    · rw [eM _ _ (by omega)]; exact a11 y h1 h2
  have hh : ∀ i : Nat, hsI (mixD c' m') 95 i = hsI c' 95 i := fun i => by
    unfold hsI
    rw [e3 _ _ (by omega)]
  obtain ⟨od, o1, o2, o3⟩ := O3
  have hR : ∃ L W : Nat, RRx (mixD c' m') 95 105 112 4 id L W n n := by
    refine RRx_lay cvg_try (51 + 17 * j) hP' hL' ⟨?_, n12⟩ ⟨fun f hf => ?_, fun p hp' i hi => ?_⟩ ⟨fun f hf => ?_, fun p hp' i hi => ?_⟩ (seed := seed) ⟨?_, fun t i ht hi => ?_, fun i hi => ?_, fun i hi => ?_, fun _ _ _ => rfl, fun _ _ => rfl⟩ ⟨od, fun p hp => ?_, fun p q hpq hq => ?_, o3⟩ LA (fun i hi z => ?_)
    · rw [D1 _ _ (by omega)]
      exact kn
    · rw [e3 95 f (by omega), bb5 95 f (by omega), D1 _ _ (by omega)]
      exact C1.1 f hf
    · have := hp9 p hp'
      rw [e3 _ _ (by omega), bb5 _ _ (by omega), D1 _ _ (by omega)]
      exact C1.2 p hp' i hi
    · rw [e3 105 f (by omega), bb5 105 f (by omega), D1 _ _ (by omega)]
      exact C2.1 f hf
    · have := hp6 p hp'
      rw [e3 _ _ (by omega), bb5 _ _ (by omega), D1 _ _ (by omega)]
      exact C2.2 p hp' i hi
    · rw [e3 112 3 (by omega), e3 112 2 (by omega), e3 112 4 (by omega), e3 112 5 (by omega), e3 112 6 (by omega), e3 112 7 (by omega)]
      exact bb1
    · rw [e3 (112 + 1) _ (by omega), e3 (112 + 2) _ (by omega), e3 (95 + 2) i (by omega), e3 (95 + 3) i (by omega), bb5 (95 + 2) i (by omega), bb5 (95 + 3) i (by omega)]
      exact bb2 t i ht hi
    · rw [e3 (112 + 3) _ (by omega), e3 (112 + 4) _ (by omega), e3 (112 + 5) _ (by omega), e3 (112 + 6) _ (by omega), e3 (112 + 7) _ (by omega)]
      exact bb3 i hi
    · rw [e3 _ _ (by omega)]
      exact bb4 i hi
    · rw [e3 _ _ (by omega)]
      exact o1 p hp
    · unfold bef
      rw [hh, hh]
      exact o2 p q hpq hq
    · rcases z with z | z
      · exact iz_nle (a := 12) (b := i) (by omega) z
      · rw [l_m1] at z
        exact iz_nei (by omega) z
  obtain ⟨L, W, hR⟩ := hR
  exact ⟨L, W, n, c', m', E3, E4, kn, hR, B3, A4⟩
