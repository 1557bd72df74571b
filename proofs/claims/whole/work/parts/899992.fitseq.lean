/-! fits -/
theorem fits_now {c m : DY} {L W n : Nat} (N f : Nat) (hN : 400 ≤ N) (f8 : f < 8) (hR : RRx (mixD c m) 95 105 112 4 id L W n n) (hK : ∃ H : Nat, gi c 36 f = iz H ∧ H ≤ 6) (hX : ∀ y : Nat, y < 48 → gi c 37 y ≠ -1) (hF : FXY c m) : ∃ (H : Nat) (u v : Int32), gi c 36 f = iz H ∧ F_X9_areHatsOfTrial Z0.1 N 1 (iz f) c = some (u, c) ∧ (u = 0 ∨ u = 1) ∧ F_X10_fitsNow Z0.1 N 510 (iz f) m = some (v, m) ∧ (v = if H = 0 then 0 else u) ∧ H ≤ 6 := by
  obtain ⟨H, hH, H6⟩ := hK
  have n12 : n ≤ 12 := hR.1.2.2.1
  have g3 : gi c 95 3 = iz n := by
    have := hR.2.2.2.1.1
    rw [mix_c _ _ _ _ (by omega)] at this
    exact this
  have g2 : gi m 531 2882 = iz n := by
    have := hR.2.2.2.1.2
    rw [mix_m _ _ _ _ (by omega)] at this
    exact this
  have hp : PXY c m n := fun i hi => by
    have p := (hR.2.2.2.2.2.2.2.2.2.1 i hi).1 0 (by omega)
    unfold PO at p
    rw [mix_c _ _ (112 + 1) _ (by omega), mix_c _ _ (112 + 2) _ (by omega), mix_m _ _ _ _ (by omega), mix_m _ _ _ _ (by omega), Nat.mul_zero, Nat.zero_add, Nat.add_zero, Nat.add_zero] at p
    rcases p with ⟨a, b, d, e⟩ | ⟨x, y, _, _, a, b, d, e⟩
    · exact ⟨d.trans a.symm, e.trans b.symm⟩
    · exact ⟨d.trans a.symm, e.trans b.symm⟩
  obtain ⟨u, u1, u2, u3⟩ := c_are10 N f H n c (by omega) f8 H6 hH hX n12 g3 H 0 N (by omega) (by omega)
  obtain ⟨v, v1, v2, v3⟩ := m_fn5 N f H n c m (by omega) f8 H6 hH hF n12 g2 hp H 0 N (by omega) (by omega)
  refine ⟨H, u, v, hH, ?_, u2, ?_, ?_, H6⟩
  · rw [F_X9_areHatsOfTrial_s, r_1_0, r_2_12]
    exact u1
  · rw [F_X10_fitsNow_s, show (6 : Int32) * iz (f : Int) = iz ((6 * f + 0 : Nat) : Int) from iz_mul 6 f]
    exact v1
  · by_cases z : H = 0
    · rw [if_pos z]
      rcases v2 with y | y
      · exact y
      · have := (v3.mp y).2
        omega
    · rw [if_neg z]
      rcases u2 with y | y
      · rcases v2 with w | w
        · rw [w, y]
        · have := u3.mpr (v3.mp w).1
          rw [y] at this
          exact absurd this (by decide)
      · rcases v2 with w | w
        · have := v3.mpr ⟨u3.mp y, by omega⟩
          rw [w] at this
          exact absurd this (by decide)
        · rw [w, y]
theorem fits_loop (N L W n : Nat) (hN : 400 ≤ N) : ∀ (q t s kC kM : Nat) (c m : DY), t + q = 8 → q < kC → q < kM → RRx (mixD c m) 95 105 112 4 id L W n n → (∀ f : Nat, f < 8 → ∃ H : Nat, gi c 36 f = iz H ∧ H ≤ 6) → (∀ y : Nat, y < 48 → gi c 37 y ≠ -1) → FXY c m → ∃ (r : Int32) (c' m' : DY), F_X9_fits_25 Z0.1 N kC 1 (iz s) (iz t) c = some (r, c') ∧ F_X10_fits_40 Z0.1 N kM 510 (iz s) (iz t) m = some (r, m') ∧ frT1 c c' ∧ frT2 m m' := by
  have n1 : ¬ (1 : Int32) = 0 := by decide
  intro q
  induction q with
  | zero =>
    intro t s kC kM c m hq hC hM hR _ _ _
    obtain ⟨kC, rfl⟩ : ∃ j, kC = j + 1 := ⟨kC - 1, by omega⟩
    obtain ⟨kM, rfl⟩ : ∃ j, kM = j + 1 := ⟨kM - 1, by omega⟩
    obtain rfl : t = 8 := by omega
    refine ⟨iz s, c, m, ?_, ?_, frT1_re _, frT2_re _⟩
    · rw [F_X9_fits_25_s, if_pos (by decide)]
    · rw [F_X10_fits_40_s, if_pos (by decide)]
  | succ q ih =>
    intro t s kC kM c m hq hC hM hR hK hX hF
    obtain ⟨kC, rfl⟩ : ∃ j, kC = j + 1 := ⟨kC - 1, by omega⟩
    obtain ⟨kM, rfl⟩ : ∃ j, kM = j + 1 := ⟨kM - 1, by omega⟩
    have n8 : ¬ (8 : Int32) ≤ iz (t : Int) := by rw [l_8]; exact iz_nle (by omega)
    have i8 : ib (iz (t : Int)) 8 := iz_ib (by omega)
    have t1 : iz (t : Int) + (1 : Int32) = iz ((t + 1 : Nat) : Int) := iz_add t 1
    have s1 : iz (s : Int) + (1 : Int32) = iz ((s + 1 : Nat) : Int) := iz_add s 1
    have s0 : iz (s : Int) + (0 : Int32) = iz (s : Int) := Int32.add_zero _
    obtain ⟨H, u, v, hH, u1, u2, v1, v2, H6⟩ := fits_now N t hN (by omega) hR (hK t (by omega)) hX hF
    obtain ⟨p, c1, m1, w1, w2, w3, w4, w5⟩ := try_one N L W n id n c m hN hR
    have fx : FXY c1 m1 := ⟨fun x hx => by rw [w5.1 525 x (by omega) (by omega) (by omega), w4.1 36 x (by omega)]; exact hF.1 x hx, fun x hx => by rw [w5.1 526 x (by omega) (by omega) (by omega), w5.1 527 x (by omega) (by omega) (by omega), w4.1 37 x (by omega), w4.1 38 x (by omega)]; exact hF.2 x hx⟩
    have go := fun s' => ih (t + 1) s' kC kM c1 m1 (by omega) (by omega) (by omega) w3 (fun f hf => by rw [w4.1 36 f (by omega)]; exact hK f hf) (fun y hy => by rw [w4.1 37 y (by omega)]; exact hX y hy) fx
    have cs : ∀ s' : Nat, F_X9_fits_60 Z0.1 N (F_X9_fits_25 Z0.1 N kC) 1 (iz s') (iz t) c = F_X9_fits_25 Z0.1 N kC 1 (iz s') (iz ((t + 1 : Nat) : Int)) c1 := fun s' => by
      rw [F_X9_fits_60_s, r_1_6, t1]
      exact bnd w1 rfl
    have ms : ∀ s' : Int32, F_X10_fits_63 Z0.1 N (F_X10_fits_40 Z0.1 N kM) 510 (iz t) (iz s) s' m = F_X10_fits_40 Z0.1 N kM 510 (iz s + s') (iz ((t + 1 : Nat) : Int)) m1 := fun s' => by
      rw [F_X10_fits_63_s, t1]
      exact bnd w2 rfl
    have stC : ∀ R, (if iz (H : Int) ≤ 0 then F_X9_fits_60 Z0.1 N (F_X9_fits_25 Z0.1 N kC) 1 (iz s) (iz t) c else if u = 0 then F_X9_fits_60 Z0.1 N (F_X9_fits_25 Z0.1 N kC) 1 (iz s) (iz t) c else F_X9_fits_60 Z0.1 N (F_X9_fits_25 Z0.1 N kC) 1 (iz ((s + 1 : Nat) : Int)) (iz t) c) = R → F_X9_fits_25 Z0.1 N (kC + 1) 1 (iz s) (iz t) c = R := fun R hR => by
      rw [F_X9_fits_25_s, if_neg n8, if_pos i8, r_1_0, r_2_12, r_35_0, tnn _ t rfl (by omega), hH, s1]
      by_cases z : iz (H : Int) ≤ 0
      · rw [if_pos z] at hR ⊢
        exact hR
      · rw [if_neg z] at hR ⊢
        exact bnd u1 hR
    have stM : ∀ R, (if v = 0 then F_X10_fits_63 Z0.1 N (F_X10_fits_40 Z0.1 N kM) 510 (iz t) (iz s) 0 m else F_X10_fits_63 Z0.1 N (F_X10_fits_40 Z0.1 N kM) 510 (iz t) (iz s) 1 m) = R → F_X10_fits_40 Z0.1 N (kM + 1) 510 (iz s) (iz t) m = R := fun R hR => by
      rw [F_X10_fits_40_s, if_neg n8]
      exact bnd v1 hR
    rw [ms, ms, s0, s1] at stM
    rw [cs, cs] at stC
    by_cases z : H = 0
    · obtain ⟨r, c', m', x1, x2, x3, x4⟩ := go s
      rw [if_pos z] at v2
      refine ⟨r, c', m', stC _ ?_, stM _ ?_, frT1_tr w4 x3, frT2_tr w5 x4⟩
      · rw [if_pos (show iz (H : Int) ≤ 0 by rw [z]; decide)]; exact x1
      · rw [if_pos v2]; exact x2
    · rw [if_neg z] at v2
      have nz0 : ¬ iz (H : Int) ≤ 0 := iz_nle (b := 0) (by omega)
      rw [if_neg nz0] at stC
      rcases u2 with y | y
      · obtain ⟨r, c', m', x1, x2, x3, x4⟩ := go s
        refine ⟨r, c', m', stC _ ?_, stM _ ?_, frT1_tr w4 x3, frT2_tr w5 x4⟩
        · rw [if_pos y]; exact x1
        · rw [if_pos (v2.trans y)]; exact x2
      · obtain ⟨r, c', m', x1, x2, x3, x4⟩ := go (s + 1)
        refine ⟨r, c', m', stC _ ?_, stM _ ?_, frT1_tr w4 x3, frT2_tr w5 x4⟩
        · rw [if_neg (by rw [y]; decide)]; exact x1
        · rw [if_neg (by rw [v2, y]; decide)]; exact x2
theorem eq_fits (N : Nat) (pa la s : Int32) (dy : DY) (hN : 900 ≤ N) (h : Inv dy) : ∃ r dy1 dy2, F_X9_fits Z0.1 N 1 pa la s dy = some (r, dy1) ∧ F_X10_fits Z0.1 N 510 pa la s dy1 = some (r, dy2) ∧ Inv dy2 := by
  obtain ⟨x, rfl, x1, x2⟩ := iz_ex pa
  obtain ⟨y, rfl, y1, y2⟩ := iz_ex la
  obtain ⟨_, _, _, ⟨cn1, cn2⟩, ⟨p, l, e1, p3, e2, l3⟩, ⟨f1, f2⟩, f3, _, _, _, _, f4⟩ := id h.1
  have n1 : ¬ (1 : Int32) = 0 := by decide
  have hM : ∀ d : DY, gi d 515 0 = iz p → gi d 522 0 = iz l → F_X10_fits Z0.1 N 510 (iz x) (iz y) s d = (if (if 0 ≤ x ∧ x < p then (1 : Int32) else 0) = 0 then some (-1, si d 510 0 0) else if (if 0 ≤ y ∧ y < l then (1 : Int32) else 0) = 0 then some (-1, si d 510 0 0) else (F_X10_lay Z0.1 N 510 (4 : Int32) (iz x) (iz y) s (12 : Int32) (-1 : Int32) (si d 510 0 0)).bind fun u6 => (F_X10_fits_40 Z0.1 N N) 510 (0 : Int32) (0 : Int32) u6) := fun d h1 h2 => by
    rw [F_X10_fits_s, bd_eq, m_isPas N x p _ x1 x2 (by rw [gi_si_if, if_neg (by omega)]; exact h1) p3, sb_eq, m_isLaw N y l _ y1 y2 (by rw [gi_si_if, if_neg (by omega)]; exact h2) l3, sb_eq]
  obtain ⟨cp1, cp2⟩ := c_prep N x y p l dy x1 x2 y1 y2 e1 p3 e2 l3
  have h0 := hM dy (cn1.symm.trans e1) (cn2.symm.trans e2)
  by_cases ok : (0 ≤ x ∧ x < p) ∧ (0 ≤ y ∧ y < l)
  · obtain ⟨c, E1, C⟩ := cp1 ok
    obtain ⟨k, rfl⟩ : ∃ k : Nat, x = k := ⟨x.toNat, by omega⟩
    obtain ⟨j, rfl⟩ : ∃ j : Nat, y = j := ⟨y.toNat, by omega⟩
    rw [Int.toNat_natCast, Int.toNat_natCast] at C
    have k3 : k < 3 := by omega
    have j3 : j < 3 := by omega
    obtain ⟨L, W, n, _, _, n12, hP⟩ := PREP_of h k3 j3 C (m := dy) (fun _ _ _ _ => rfl)
    have film : ∀ d m : DY, (∀ z i : Nat, 36 ≤ z → z ≤ 38 → gi d z i = gi dy z i) → (∀ z i : Nat, 525 ≤ z → z ≤ 527 → gi m z i = gi dy z i) → (∀ f : Nat, f < 8 → ∃ H : Nat, gi d 36 f = iz H ∧ H ≤ 6) ∧ (∀ y : Nat, y < 48 → gi d 37 y ≠ -1) ∧ FXY d m := fun d m hd hm => ⟨fun f hf => by
      rw [hd 36 f (by omega) (by omega)]
      exact f3 f hf, fun y hy => by
      rw [hd 37 y (by omega) (by omega)]
      exact f4 y hy, fun z hz => by
      rw [hd 36 z (by omega) (by omega), hm 525 z (by omega) (by omega)]
      have := f1 z hz
      rw [Nat.mul_zero, Nat.zero_add] at this
      exact this.symm, fun z hz => by
      rw [hd 37 z (by omega) (by omega), hd 38 z (by omega) (by omega), hm 526 z (by omega) (by omega), hm 527 z (by omega) (by omega)]
      have := f2 z hz
      rw [Nat.mul_zero, Nat.zero_add] at this
      exact ⟨this.1.symm, this.2.symm⟩⟩
    obtain ⟨c1, m1, b1, b2, b3, b4, b5, b6⟩ := lay_gen N s 12 (-1) c dy hN k3 j3 hP (awy_none n12)
    have cd1 : ∀ z i : Nat, ¬ (95 ≤ z ∧ z ≤ 123) → gi c1 z i = gi dy z i := fun z i hz => by rw [b5.1 z i (by omega), C.2.2.1 z i (by omega)]
    obtain ⟨q1, q2, q3⟩ := film c1 m1 (fun z i h1 h2 => cd1 z i (by omega)) (fun z i h1 h2 => b6.1 z i (by omega) (by omega) (by omega))
    obtain ⟨r, c', m', w1, w2, w3, w4⟩ := fits_loop N L W n (by omega) 8 0 0 N N c1 m1 (by omega) (by omega) (by omega) b3 q1 q2 q3
    have cs : ∀ z i : Nat, ¬ (95 ≤ z ∧ z ≤ 123) → gi c' z i = gi dy z i := fun z i hz => (w3.1 z i (by omega)).trans (cd1 z i hz)
    have sM : sameM dy (si c' 510 0 0) := fun x i q1 q2 => by rw [gi_si_if, if_neg (by omega), cs x i (by omega)]
    obtain ⟨c2, m2, d1, d2, d3, d4, d5, d6⟩ := lay_gen N s 12 (-1) c (si c' 510 0 0) hN k3 j3 (PREP_mix hP (fun _ _ _ _ => rfl) sM) (awy_none n12)
    have ec : c2 = c1 := Option.some.inj (d1.symm.trans b1)
    subst ec
    obtain ⟨p1, p2, p3'⟩ := film c2 m2 (fun z i h1 h2 => cd1 z i (by omega)) (fun z i h1 h2 => by rw [d6.1 z i (by omega) (by omega) (by omega), gi_si_if, if_neg (by omega), cs z i (by omega)])
    obtain ⟨r2, c3, m3, v1, v2, v3, v4⟩ := fits_loop N L W n (by omega) 8 0 0 N N c2 m2 (by omega) (by omega) (by omega) d3 p1 p2 p3'
    obtain ⟨rfl, rfl⟩ := Prod.mk.inj (Option.some.inj (v1.symm.trans w1))
    refine ⟨r2, c3, m3, ?_, ?_, inv_try h (fun z i a1 a2 a3 a4 => by rw [rfr_of v4 z i a2 a3 a4, rfr_of d6 z i a2 a3 a4, gi_si_if, if_neg (by omega), cs z i (by omega)])⟩
    · rw [F_X9_fits_s]
      refine bnd E1 ((if_neg n1).trans ?_)
      rw [r_1_6]
      exact bnd b1 w1
    · rw [hM c3 (by rw [cs 515 0 (by omega)]; exact cn1.symm.trans e1) (by rw [cs 522 0 (by omega)]; exact cn2.symm.trans e2), if_pos ok.1, if_neg n1, if_pos ok.2, if_neg n1]
      exact bnd d2 v2
  · refine ⟨-1, dy, si dy 510 0 0, ?_, ?_, inv_0 h⟩
    · rw [F_X9_fits_s]
      exact bnd (cp2 ok) (if_pos rfl)
    · rw [h0]
      by_cases okP : 0 ≤ x ∧ x < p
      · rw [if_pos okP, if_neg n1, if_neg (show ¬ (0 ≤ y ∧ y < (l : Int)) from fun z => ok ⟨okP, z⟩), if_pos rfl]
      · rw [if_neg okP, if_pos rfl]
