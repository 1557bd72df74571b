/-! two: a told tenth on both sides -/
def aimT (x : Int32) (p b : Nat) : Int32 := if x = 4 ∨ (x = 3 ∧ p = 0) then (if b = 0 then 1 else 2) else x
def ndT (x : Int32) (p : Nat) : Nat := if x = 4 ∨ (x = 3 ∧ p = 0) then 1 else 0
theorem ndT_1 (x : Int32) (p : Nat) : ndT x p ≤ 1 := by
  unfold ndT
  by_cases z : x = 4 ∨ (x = 3 ∧ p = 0)
  · rw [if_pos z]; omega
  · rw [if_neg z]; omega
/-- a class's walk and a reference's row, but for the lots drawn -/
def SR (c m : DY) (w r L W : Nat) : Prop := CVg 95 105 w ∧ 111 < w ∧ r < 14 ∧ RRx (mixD c (si m 531 (720 * r + 5) (gi c w 4))) 95 105 w r id L W 2 2 ∧ gi m 510 45 = 1 ∧ gi c w 5 = iz (AWn c w 2 : Nat)
theorem RRx_pt {d e : DY} {g l w r : Nat} {ι : Nat → Nat} {L W n M : Nat} (hG : CVg g l w) (h : RRx d g l w r ι L W n M) (h1 : ∀ x k : Nat, x < 510 → gi e x k = gi d x k) (h2 : ∀ i : Nat, i < 720 → gi e 531 (720 * r + i) = gi d 531 (720 * r + i)) : RRx e g l w r ι L W n M := by
  obtain ⟨_, _, _, _, d5⟩ := cv_dj hG
  have k7 := h.2.2.2.2.2.2.1
  refine RRx_seed hG h (fun x k x1 _ _ _ => h1 x k x1) (fun i hi _ _ => h2 i hi) ?_ ?_
  · rw [h1 _ _ (by omega), h2 4 (by omega)]; exact k7.2.1
  · rw [h1 _ _ (by omega), h2 5 (by omega)]; exact k7.2.2.1
theorem told_step {c m : DY} {w r L W R p0 p1 : Nat} {x0 x1 : Int32} (N cd : Nat) (hN : 40 ≤ N) (hS : SR c m w r L W) (hRn : gi c 105 0 = iz R) (R16 : R ≤ 16) (hp0 : gi c (95 + 8) 0 = iz p0) (hp1 : gi c (95 + 8) 1 = iz p1) (p02 : p0 ≤ 2) (p12 : p1 ≤ 2) (hx0 : DD c w L W R 0 x0) (hx1 : DD c w L W R 1 x1) (hcd : cd < 4) (a0 : gi c (w + 8) 0 = aimT x0 p0 (cd % 2)) (a1 : gi c (w + 8) 1 = aimT x1 p1 (cd / 2 ^ ndT x0 p0 % 2)) : ∃ (s : Nat) (c' m' : DY), F_X8_move Z0.1 N w c = some (iz s, c') ∧ F_X10_step Z0.1 N 510 (iz r) (si m 510 46 (iz cd)) = some (iz s, m') ∧ SR c' m' w r L W ∧ gi m' 510 47 = iz ((ndT x0 p0 + ndT x1 p1 : Nat) : Int) ∧ frCT w c c' ∧ (∀ x k : Nat, ¬ (x = 510 ∧ (k = 42 ∨ k = 46 ∨ k = 47)) → (x < 532 ∨ 537 < x) → ¬ (x = 531 ∧ 720 * r ≤ k ∧ k < 720 * r + 720 ∧ k ≠ 720 * r + 10) → gi m' x k = gi m x k) ∧ ∀ x k : Nat, gl m' x k = gl m x k := by
  obtain ⟨hG, hw, r14, hR, h45, hAW⟩ := id hS
  obtain ⟨dj, dj2, _, _, d5⟩ := cv_dj hG
  obtain ⟨mP, hmP⟩ : ∃ mP : DY, mP = si m 531 (720 * r + 5) (gi c w 4) := ⟨_, rfl⟩
  rw [← hmP] at hR
  have oP : ∀ x k : Nat, ¬ (x = 531 ∧ k = 720 * r + 5) → gi mP x k = gi m x k := fun x k q => by rw [hmP, gi_si_if, if_neg q]
  have Dc : ∀ x k : Nat, x < 510 → gi (mixD c mP) x k = gi c x k := fun x k q => mix_c _ _ _ _ q
  have Dm : ∀ k : Nat, k < 720 → k ≠ 5 → gi (mixD c mP) 531 (720 * r + k) = gi m 531 (720 * r + k) := fun k _ q => by rw [mix_m _ _ _ _ (by omega), oP _ _ (by omega)]
  have hL0 : LR (mixD c mP) 105 _ 531 (720 * r + 352) := hR.2.2.2.2.2.1
  have hRn' : gi (mixD c mP) 105 0 = iz R := (Dc _ _ (by omega)).trans hRn
  have hWh := LR_wh hL0 hRn' R16
  have hWc : ∀ q k : Nat, q < R → k < (gi c (95 + 10 + 2) q).toNatClampNeg → ∃ wh : Nat, wh ≤ 10 ∧ gi c (95 + 10 + 3) (4 * q + k) = iz wh := fun q k hq hk => by
    rw [← Dc _ _ (by omega)] at hk ⊢
    exact hWh q k hq hk
  have X0 := DD_of hw (by omega) (by omega) (fun x k q _ => Dc x k q) hWc hx0
  have X1 := DD_of hw (by omega) (by omega) (fun x k q _ => Dc x k q) hWc hx1
  have n0 := ndT_1 x0 p0
  -- walker 0
  obtain ⟨m2, hm2⟩ : ∃ m2 : DY, m2 = si (si m 510 46 (iz cd)) 510 47 0 := ⟨_, rfl⟩
  have o2 : ∀ x k : Nat, ¬ (x = 510 ∧ (k = 46 ∨ k = 47)) → gi m2 x k = gi m x k := fun x k q => by rw [hm2, gi_si_if, if_neg (by omega), gi_si_if, if_neg (by omega)]
  obtain ⟨am0, mc0, t1, t2, t3, t4, t5⟩ := tell_one N 0 cd p0 m2 x0 hN hG hw r14 hR hRn' R16 (i := 0) (by omega) (fun k h1 h2 => by rw [o2 _ _ (by omega), Dm k h1 h2]) ((o2 _ _ (by omega)).trans h45) (by rw [hm2, gi_si_if, if_neg (by omega), gi_si_if, if_pos ⟨rfl, rfl⟩]) (by rw [hm2, gi_si_if, if_pos ⟨rfl, rfl⟩]; rfl) (by omega) hcd ((Dc _ _ (by omega)).trans hp0) p02 X0
  have N0 : NOWS m2 r 0 := fun o ho => by omega
  obtain ⟨m3, hm3⟩ : ∃ m3 : DY, m3 = si (si (si (si mc0 534 0 am0) 535 0 0) 536 0 (gi mc0 531 (720 * r + 16 + 20 * 0))) 537 0 (gi mc0 531 (720 * r + 16 + 20 * 0 + 4)) := ⟨_, rfl⟩
  have N1 : NOWS m3 r 1 := by
    rw [hm3]
    exact NOWS_st N0 (fun x k q => t4 x k (by omega) (by omega) (by omega) (by omega))
  have o3 : ∀ x k : Nat, (x < 534 ∨ 537 < x) → gi m3 x k = gi mc0 x k := fun x k q => by rw [hm3, gi_si_if, if_neg (by omega), gi_si_if, if_neg (by omega), gi_si_if, if_neg (by omega), gi_si_if, if_neg (by omega)]
  have u47 : gi mc0 510 47 = iz (ndT x0 p0 : Nat) := by
    unfold ndT
    by_cases z : x0 = 4 ∨ (x0 = 3 ∧ p0 = 0)
    · rw [if_pos z]; exact (t2 z).2
    · rw [if_neg z]; exact (t3 z).2
  -- walker 1
  obtain ⟨am1, mc1, v1, v2, v3, v4, v5⟩ := tell_one N (ndT x0 p0) cd p1 m3 x1 hN hG hw r14 hR hRn' R16 (i := 1) (by omega) (fun k h1 h2 => by rw [o3 _ _ (by omega), t4 _ _ (by omega) (by omega) (by omega) (by omega), o2 _ _ (by omega), Dm k h1 h2]) (by rw [o3 _ _ (by omega), t4 _ _ (by omega) (by omega) (by omega) (by omega), o2 _ _ (by omega)]; exact h45) (by rw [o3 _ _ (by omega), t4 _ _ (by omega) (by omega) (by omega) (by omega), hm2, gi_si_if, if_neg (by omega), gi_si_if, if_pos ⟨rfl, rfl⟩]) (by rw [o3 _ _ (by omega)]; exact u47) (by omega) hcd ((Dc _ _ (by omega)).trans hp1) p12 X1
  obtain ⟨m4, hm4⟩ : ∃ m4 : DY, m4 = si (si (si (si mc1 534 1 am1) 535 1 0) 536 1 (gi mc1 531 (720 * r + 16 + 20 * 1))) 537 1 (gi mc1 531 (720 * r + 16 + 20 * 1 + 4)) := ⟨_, rfl⟩
  have N2 : NOWS m4 r 2 := by
    rw [hm4]
    exact NOWS_st N1 (fun x k q => v4 x k (by omega) (by omega) (by omega) (by omega))
  have o4 : ∀ x k : Nat, (x < 534 ∨ 537 < x) → gi m4 x k = gi mc1 x k := fun x k q => by rw [hm4, gi_si_if, if_neg (by omega), gi_si_if, if_neg (by omega), gi_si_if, if_neg (by omega), gi_si_if, if_neg (by omega)]
  have w47 : gi mc1 510 47 = iz ((ndT x0 p0 + ndT x1 p1 : Nat) : Int) := by
    rw [show ndT x1 p1 = if x1 = 4 ∨ (x1 = 3 ∧ p1 = 0) then 1 else 0 from rfl]
    by_cases z : x1 = 4 ∨ (x1 = 3 ∧ p1 = 0)
    · rw [if_pos z]; exact (v2 z).2
    · rw [if_neg z]; exact (v3 z).2
  have o5 : ∀ x k : Nat, ¬ (x = 510 ∧ (k = 42 ∨ k = 46 ∨ k = 47)) → (x < 532 ∨ 537 < x) → ¬ (x = 531 ∧ k = 720 * r + 5) → gi m4 x k = gi m x k := fun x k q1 q2 q3 => by
    rw [o4 x k (by omega), v4 x k (by omega) (by omega) (by omega) q3, o3 x k (by omega), t4 x k (by omega) (by omega) (by omega) q3, o2 x k (by omega)]
  -- the aims
  have k534a : gi m4 534 0 = am0 := by
    rw [hm4, gi_si_if, if_neg (by omega), gi_si_if, if_neg (by omega), gi_si_if, if_neg (by omega), gi_si_if, if_neg (by omega), v4 534 0 (by omega) (by omega) (by omega) (by omega), hm3, gi_si_if, if_neg (by omega), gi_si_if, if_neg (by omega), gi_si_if, if_neg (by omega), gi_si_if, if_pos ⟨rfl, rfl⟩]
  have k534b : gi m4 534 1 = am1 := by
    rw [hm4, gi_si_if, if_neg (by omega), gi_si_if, if_neg (by omega), gi_si_if, if_neg (by omega), gi_si_if, if_pos ⟨rfl, rfl⟩]
  have aim : ∀ (x am : Int32) (p b : Nat), ((x = 4 ∨ (x = 3 ∧ p = 0)) → am = if b = 0 then 1 else 2) → (¬ (x = 4 ∨ (x = 3 ∧ p = 0)) → aimR x am (iz p)) → aimR (aimT x p b) am (iz p) := fun x am p b h1 h2 => by
    unfold aimT
    by_cases z : x = 4 ∨ (x = 3 ∧ p = 0)
    · rw [if_pos z, h1 z]
      by_cases y : b = 0
      · rw [if_pos y]; exact Or.inr ⟨rfl, Or.inr (Or.inl rfl)⟩
      · rw [if_neg y]; exact Or.inr ⟨rfl, Or.inr (Or.inr (Or.inl rfl))⟩
    · rw [if_neg z]; exact h2 z
  have t5' : ∀ p b : Nat, aimT 5 p b = 5 := fun p b => by
    unfold aimT
    exact if_neg (fun z => by
      rcases z with z | z
      · exact absurd z (by decide)
      · exact absurd z.1 (by decide))
  have gone : ∀ (i : Nat) (x : Int32), DD c w L W R i x → gi c (w + 1) i = -1 → x = 5 := fun i x h z => by
    rcases h with y | y
    · exact y.2
    · exfalso
      refine y.1 ?_
      unfold cx
      rw [Nat.mul_zero, Nat.zero_add, z]
      rfl
  have hA : AIMS c m4 95 w id 2 := fun o ho => by
    have O : o = 0 ∨ o = 1 := by omega
    rcases O with rfl | rfl
    · refine ⟨?_, fun z => ?_⟩
      · rw [a0, hp0, show id 0 = 0 from rfl, k534a]
        refine aim x0 am0 p0 _ (fun z => ?_) (fun z => (t3 z).1)
        rw [(t2 z).1, Nat.pow_zero, Nat.div_one]
      · rw [a0, gone 0 x0 hx0 z]; exact t5' _ _
    · refine ⟨?_, fun z => ?_⟩
      · rw [a1, hp1, show id 1 = 1 from rfl, k534b]
        exact aim x1 am1 p1 _ (fun z => (v2 z).1) (fun z => (v3 z).1)
      · rw [a1, gone 1 x1 hx1 z]; exact t5' _ _
  obtain ⟨mP4, hmP4⟩ : ∃ mP4 : DY, mP4 = si m4 531 (720 * r + 5) (gi c w 4) := ⟨_, rfl⟩
  have oP4 : ∀ x k : Nat, ¬ (x = 531 ∧ k = 720 * r + 5) → gi mP4 x k = gi m4 x k := fun x k q => by rw [hmP4, gi_si_if, if_neg q]
  have hRA : RRx (mixD c mP4) 95 105 w r id L W 2 2 := RRx_pt hG hR (fun x k q => by rw [mix_c _ _ _ _ q, mix_c _ _ _ _ q]) (fun i hi => by
    rw [mix_m _ _ _ _ (by omega), mix_m _ _ _ _ (by omega)]
    by_cases z : i = 5
    · rw [z, hmP4, hmP, gi_si_if, if_pos ⟨rfl, rfl⟩, gi_si_if, if_pos ⟨rfl, rfl⟩]
    · rw [oP4 _ _ (by omega), oP _ _ (by omega), o5 _ _ (by omega) (by omega) (by omega)])
  obtain ⟨s, c', m', m6, q1, q2, q3, q4, q5, q6, q7, q8, q9⟩ := move_both N c m4 mP4 hN hG r14 hRA oP4 hA N2
  have fr' : ∀ x k : Nat, ¬ (x = 510 ∧ (k = 42 ∨ k = 46 ∨ k = 47)) → (x < 532 ∨ 537 < x) → ¬ (x = 531 ∧ 720 * r ≤ k ∧ k < 720 * r + 720 ∧ k ≠ 720 * r + 10) → gi m' x k = gi m x k := fun x k h1 h2 h3 => by rw [q8.1 x k h2 h3, o5 x k h1 h2 (by omega)]
  have k74 : gi c' w 4 = gi mP4 531 (720 * r + 5) := by
    have := q3.2.2.2.2.2.2.1.2.2.1
    rw [mix_c _ _ _ _ (by omega), mix_m _ _ _ _ (by omega), q5] at this
    exact this
  refine ⟨s, c', m', q1, ?_, ⟨hG, hw, r14, ?_, ?_, ?_⟩, ?_, q7, fr', fun x k => ?_⟩
  · have x720 : (720 : Int32) * iz (r : Int) = iz ((720 * r : Nat) : Int) := (iz_mul 720 r).trans (congrArg iz (by omega))
    have mM : gi (si m 510 46 (iz cd)) 531 (720 * r + 2) = iz ((2 : Nat) : Int) := by
      rw [gi_si_if, if_neg (by omega), ← Dm 2 (by omega) (by omega)]
      exact hR.2.2.2.1.2
    rw [F_X10_step_s, m_row2, if_pos (ibr (720 * r + 2) (by omega)), bd_eq, r_510_39, tnn _ (720 * r + 2) rfl (by omega), mM, x720, ← hm2]
    obtain ⟨K, hK⟩ : ∃ K, N = K + 3 := ⟨N - 3, by omega⟩
    have e : F_X10_step_23 Z0.1 N N 510 (iz r) (iz ((720 * r : Nat) : Int)) (iz ((2 : Nat) : Int)) 0 m2 = F_X10_step_23 Z0.1 N (K + 3) 510 (iz r) (iz ((720 * r : Nat) : Int)) (iz ((2 : Nat) : Int)) (iz ((0 : Nat) : Int)) m2 := by rw [← hK]; rfl
    rw [e, m_s23 N (K + 2) r 2 0 m2 mc0 am0 _ r14 (by omega) (by omega) t1, ← hm3, m_s23 N (K + 1) r 2 1 m3 mc1 am1 _ r14 (by omega) (by omega) v1, ← hm4, F_X10_step_23_s, if_pos (Int32.le_refl _)]
    exact q2
  · refine RRx_pt hG q3 (fun x k q => by rw [mix_c _ _ _ _ q, mix_c _ _ _ _ q]) (fun i hi => ?_)
    rw [mix_m _ _ _ _ (by omega), mix_m _ _ _ _ (by omega)]
    by_cases z : i = 5
    · rw [z, gi_si_if, if_pos ⟨rfl, rfl⟩, q5, k74]
    · rw [gi_si_if, if_neg (by omega), q4 _ _ (by omega)]
  · rw [fr' _ _ (by omega) (by omega) (by omega)]; exact h45
  · obtain ⟨_, _, k, y1, y2⟩ := q9
    rw [y1, y2, hAW]
    exact iz_add _ _
  · rw [q8.1 510 47 (by omega) (by omega), o4 _ _ (by omega)]; exact w47
  · rw [q8.2, hm4]
    show gl mc1 x k = _
    rw [v5, hm3]
    show gl mc0 x k = _
    rw [t5, hm2]
    rfl
