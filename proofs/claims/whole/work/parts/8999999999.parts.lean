/-! two: what is weighed, and all PARTS -/
theorem c_weigh12 (N q t : Nat) (c : DY) (K2) (q16 : q < 16) (t4 : t ≤ 4) (ht : gi c 107 q = iz t) : ∀ p k kk : Nat, k + p = t → p < kk → (∀ k' : Nat, k' < k → gi c 108 (4 * q + k') ≠ 5) → (F_X2_weighs_12 Z0.1 N K2 kk 105 5 (iz q) (iz k) c = some (1, c)) ∨ (F_X2_weighs_12 Z0.1 N K2 kk 105 5 (iz q) (iz k) c = K2 105 5 (iz ((q + 1 : Nat) : Int)) c ∧ ∀ k' : Nat, k' < t → gi c 108 (4 * q + k') ≠ 5) := by
  obtain ⟨_, l2, l3, _⟩ := lb_of 105 (by decide)
  intro p
  induction p with
  | zero =>
    intro k kk hk hkk h
    obtain ⟨kk, rfl⟩ : ∃ i, kk = i + 1 := ⟨kk - 1, by omega⟩
    refine Or.inr ⟨?_, fun k' hk' => h k' (by omega)⟩
    rw [F_X2_weighs_12_s, if_pos (show ib (iz (q : Int)) 16 from iz_ib (by omega)), l2, tnn _ q rfl (by omega), ht, if_pos (show iz (t : Int) ≤ iz (k : Int) from iz_lei (by omega)), show iz (q : Int) + (1 : Int32) = iz ((q + 1 : Nat) : Int) from iz_add q 1]
  | succ p ih =>
    intro k kk hk hkk h
    obtain ⟨kk, rfl⟩ : ∃ i, kk = i + 1 := ⟨kk - 1, by omega⟩
    have e : iz (q : Int) * (4 : Int32) + iz (k : Int) = iz ((4 * q + k : Nat) : Int) := by
      rw [show iz (q : Int) * (4 : Int32) = iz ((q * 4 : Nat) : Int) from iz_mul q 4, iz_add]
      exact congrArg iz (by omega)
    have F := F_X2_weighs_12_s Z0.1 N K2 kk 105 5 (iz q) (iz k) c
    rw [if_pos (show ib (iz (q : Int)) 16 from iz_ib (by omega)), l2, l3, tnn _ q rfl (by omega), show gi c (105 + 2) q = iz t from ht, if_neg (show ¬ iz (t : Int) ≤ iz (k : Int) from iz_nle (by omega)), e, if_pos (show ib (iz ((4 * q + k : Nat) : Int)) 64 from iz_ib (by omega)), tnn _ (4 * q + k) rfl (by omega), show iz (k : Int) + (1 : Int32) = iz ((k + 1 : Nat) : Int) from iz_add k 1] at F
    by_cases z : gi c (105 + 3) (4 * q + k) = 5
    · rw [if_pos z] at F
      exact Or.inl F
    · rw [if_neg z] at F
      rw [F]
      refine ih (k + 1) kk (by omega) (by omega) (fun k' hk' => ?_)
      by_cases y : k' = k
      · rw [y]; exact z
      · exact h k' (by omega)
theorem c_weighs (N : Nat) (hN : 40 ≤ N) (c : DY) (R : Nat) (hR : gi c 105 0 = iz R) (R16 : R ≤ 16) (hT : ∀ q : Nat, q < R → ∃ t : Nat, t ≤ 4 ∧ gi c 107 q = iz t) : ∃ v : Int32, (v = 0 ∨ v = 1) ∧ F_X2_weighs Z0.1 N 105 5 c = some (v, c) ∧ (v = 0 → ¬ WGH c 105 R) := by
  have H : ∀ p q kk : Nat, q + p = R → p < kk → (∀ q' : Nat, q' < q → ∀ k' : Nat, k' < (gi c 107 q').toNatClampNeg → gi c 108 (4 * q' + k') ≠ 5) → ∃ v : Int32, (v = 0 ∨ v = 1) ∧ F_X2_weighs_2 Z0.1 N kk 105 5 (iz q) c = some (v, c) ∧ (v = 0 → ¬ WGH c 105 R) := by
    intro p
    induction p with
    | zero =>
      intro q kk hq hkk h
      obtain ⟨kk, rfl⟩ : ∃ i, kk = i + 1 := ⟨kk - 1, by omega⟩
      refine ⟨0, Or.inl rfl, ?_, fun _ ⟨q', k', q1, q2, q3⟩ => h q' (by omega) k' q2 q3⟩
      rw [F_X2_weighs_2_s, hR, if_pos (show iz (R : Int) ≤ iz (q : Int) from iz_lei (by omega))]
    | succ p ih =>
      intro q kk hq hkk h
      obtain ⟨kk, rfl⟩ : ∃ i, kk = i + 1 := ⟨kk - 1, by omega⟩
      obtain ⟨t, t4, ht⟩ := hT q (by omega)
      have F := F_X2_weighs_2_s Z0.1 N kk 105 5 (iz q) c
      rw [hR, if_neg (show ¬ iz (R : Int) ≤ iz (q : Int) from iz_nle (by omega))] at F
      rcases c_weigh12 N q t c (F_X2_weighs_2 Z0.1 N kk) (by omega) t4 ht t 0 N (by omega) (by omega) (fun k' hk' => by omega) with z | ⟨z1, z2⟩
      · exact ⟨1, Or.inr rfl, F.trans z, fun y => absurd y (by decide)⟩
      · obtain ⟨v, v1, v2, v3⟩ := ih (q + 1) kk (by omega) (by omega) (fun q' hq' k' hk' => by
          by_cases y : q' = q
          · rw [y] at hk' ⊢
            rw [ht, tnn _ t rfl (by omega)] at hk'
            exact z2 k' hk'
          · exact h q' (by omega) k' hk')
        exact ⟨v, v1, F.trans (z1.trans v2), v3⟩
  obtain ⟨v, v1, v2, v3⟩ := H R 0 N (by omega) (by omega) (fun q' hq' => by omega)
  exact ⟨v, v1, (F_X2_weighs_s Z0.1 N 105 5 c).trans v2, v3⟩
theorem lg_of : ∀ a b : Nat, a ≤ 3 → b ≤ 3 → ∃ lg : Nat, (1 ≤ lg ∧ lg ≤ 4 ∧ a < lg ∧ b < lg) ∧ (1 : Int32) + (if (if iz (a : Int) < iz (b : Int) then iz (b : Int) else iz (a : Int)) < (3 : Int32) then (if iz (a : Int) < iz (b : Int) then iz (b : Int) else iz (a : Int)) else (3 : Int32)) = iz lg := by
  have B : ∀ a b : Fin 4, (1 : Int32) + (if (if iz ((a.1 : Nat) : Int) < iz ((b.1 : Nat) : Int) then iz ((b.1 : Nat) : Int) else iz ((a.1 : Nat) : Int)) < (3 : Int32) then (if iz ((a.1 : Nat) : Int) < iz ((b.1 : Nat) : Int) then iz ((b.1 : Nat) : Int) else iz ((a.1 : Nat) : Int)) else (3 : Int32)) = iz ((1 + max a.1 b.1 : Nat) : Int) := by decide +kernel
  exact fun a b ha hb => ⟨1 + max a b, by omega, B ⟨a, by omega⟩ ⟨b, by omega⟩⟩
/-- both sides find the same PARTS -/
theorem parts_both (N k j L W n kd : Nat) (hN : 200000 ≤ N) (k3 : k < 3) (j3 : j < 3) (c0 m0 : DY) (hP : PREP (mixD c0 m0) k j id L W 2 2) (hn : n ≤ 8) (hk : kd < 10) : ∃ (r : Int32) (c' : DY), F_X0_parts Z0.1 N 124 (iz n) (iz kd) c0 = some (r, c') ∧ (∀ x i : Nat, ¬ (94 ≤ x ∧ x ≤ 239) → gi c' x i = gi c0 x i) ∧ ∀ m : DY, sameM m0 m → ∃ m1 m' : DY, F_X10_lay Z0.1 N 510 5 (iz k) (iz j) 0 12 (-1) m = some m1 ∧ F_X10_findTwo Z0.1 N 510 (iz n) m1 = some m' ∧ (kd = 0 → gi m' 510 53 = r) ∧ (∀ q : Nat, q < 9 → kd = q + 1 → gi m' 541 q = r) ∧ ∀ x i : Nat, x ≠ 510 → (x < 532 ∨ 545 < x) → ¬ (x = 531 ∧ 2880 ≤ i) → gi m' x i = gi m x i := by
  have n1 : ¬ (1 : Int32) = 0 := by decide
  -- what the class sets
  obtain ⟨⟨⟨L16, W6, _, _⟩, _, _, ⟨g3, _⟩, _, _, kw⟩, hL⟩ := id hP
  rw [mix_c _ _ _ _ (by omega)] at g3
  have late : ∀ i : Nat, i < 2 → ∃ p : Nat, p ≤ 3 ∧ gi c0 101 i = iz p := fun i hi => by
    obtain ⟨_, _, ⟨_, _, ⟨p, p3, h, _⟩, _⟩, _⟩ := kw i hi
    rw [mix_c _ _ _ _ (by omega)] at h
    exact ⟨p, p3, h⟩
  obtain ⟨a, a3, ha⟩ := late 0 (by omega)
  obtain ⟨b, b3, hb⟩ := late 1 (by omega)
  obtain ⟨lg, ⟨lg1, lg4, lga, lgb⟩, hlg⟩ := lg_of a b a3 b3
  obtain ⟨R, R16, hR, _, hRr⟩ := id hL
  rw [mix_c _ _ _ _ (by omega)] at hR
  obtain ⟨c1, hc1⟩ : ∃ c1 : DY, c1 = si c0 124 7 (iz lg) := ⟨_, rfl⟩
  have o1 : ∀ x i : Nat, ¬ (x = 124 ∧ i = 7) → gi c1 x i = gi c0 x i := fun x i q => by rw [hc1, gi_si_if, if_neg q]
  obtain ⟨v, v01, hv, hvW⟩ := c_weighs N (by omega) c1 R ((o1 _ _ (by omega)).trans hR) R16 (fun q hq => by
    obtain ⟨_, t, t4, h, _⟩ := hRr q hq
    rw [mix_c _ _ _ _ (by omega)] at h
    exact ⟨t, t4, (o1 _ _ (by omega)).trans h⟩)
  obtain ⟨c2, hc2⟩ : ∃ c2 : DY, c2 = si c1 124 8 v := ⟨_, rfl⟩
  have o2 : ∀ x i : Nat, ¬ (x = 124 ∧ (i = 7 ∨ i = 8)) → gi c2 x i = gi c0 x i := fun x i q => by rw [hc2, gi_si_if, if_neg (by omega), o1 x i (by omega)]
  obtain ⟨c3, f1, f2, f3⟩ := c_fill Z0.1 N 512 128 0 c2 (by omega) (by omega) rfl
  have o3 : ∀ x i : Nat, ¬ (x = 124 ∧ (i = 7 ∨ i = 8)) → x ≠ 128 → gi c3 x i = gi c0 x i := fun x i q1 q2 => by rw [f2, if_neg (by omega), o2 x i q1]
  have nv : nr 3 v = v := by
    rcases v01 with z | z
    · rw [z]; decide
    · rw [z]; decide
  have P3 : ∀ m : DY, sameM m0 m → PREP (mixD c3 m) k j id L W 2 2 := fun m hm => PREP_mix hP (fun x i q1 q2 => o3 x i (by omega) (by omega)) hm
  have lay := fun (m : DY) (hm : sameM m0 m) => layG N 0 12 (-1) c3 m (by omega) (cvg_d 0 (by omega)) (r := 5) (by omega) (by omega) (by omega) (P3 m hm).1 (P3 m hm).2 (awy_none (by omega))
  obtain ⟨c4, _, l1, _, _, l4, _⟩ := lay m0 (fun _ _ _ _ => rfl)
  -- the state from which both go on
  have start : ∀ m : DY, sameM m0 m → ∃ m1 : DY, F_X10_lay Z0.1 N 510 5 (iz k) (iz j) 0 12 (-1) m = some m1 ∧ LAID m m1 5 k j 2 0 12 (-1) ∧ SR c4 (si m1 510 45 1) (130 + 12 * 0) 5 L W := fun m hm => by
    obtain ⟨c4', m1, q1, q2, q3, q4, q5⟩ := lay m hm
    have ec : c4' = c4 := Option.some.inj (q1.symm.trans l1)
    subst ec
    refine ⟨m1, q2, q5, cvg_d 0 (by omega), by omega, by omega, ?_, by rw [gi_si_if, if_pos ⟨rfl, rfl⟩], ?_⟩
    · refine RRx_pt (cvg_d 0 (by omega)) q3 (fun x i q => by rw [mix_c _ _ _ _ q, mix_c _ _ _ _ q]) (fun i hi => ?_)
      rw [mix_m _ _ _ _ (by omega), mix_m _ _ _ _ (by omega)]
      by_cases z : i = 5
      · have k4 := q3.2.2.2.2.2.2.1.2.2.1
        rw [mix_c _ _ _ _ (by omega), mix_m _ _ _ _ (by omega)] at k4
        rw [z, gi_si_if, if_pos ⟨rfl, rfl⟩, k4]
      · rw [gi_si_if, if_neg (by omega), gi_si_if, if_neg (by omega)]
    · rw [q4.1.2.2.2.1]
      have no : ∀ i : Nat, i < 2 → gi c4' (130 + 12 * 0 + 1) i ≠ -1 := fun i hi => by
        obtain ⟨⟨x, x1, x2, _⟩, _⟩ := kw i hi
        rw [mix_c _ _ _ _ (by omega)] at x2
        have := (q4.2.1 0 i (by omega) (by omega)).1
        rw [Nat.mul_zero, Nat.zero_add] at this
        have e : gi c4' (130 + 12 * 0 + 1) i = iz x := this.trans ((o3 _ _ (by omega) (by omega)).trans x2)
        rw [e, l_m1]
        exact iz_nei (by omega)
      rw [AWn_none 2 no]
      rfl
  obtain ⟨mS, _, _, hS⟩ := start m0 (fun _ _ _ _ => rfl)
  have b4 : ∀ x i : Nat, (x < 130 ∨ 141 < x) → gi c4 x i = gi c3 x i := fun x i q => l4.2.2.2.2.1 x i (by omega)
  have sp : SPI N n lg L W v 5 0 c4 (si mS 510 45 1) := by
    refine ⟨hS, ⟨?_, ?_⟩, ⟨lg1, lg4, fun i hi => ?_⟩, fun z R' q1 q2 q3 => ?_, l4.1.2.1, fun i hi => ⟨0, by omega, (l4.2.2.1 i (by omega)).2.2.2.2⟩, fun s hs => Or.inl ?_⟩
    · rw [b4 _ _ (by omega), f2, if_neg (by omega), hc2, gi_si_if, if_neg (by omega), hc1, gi_si_if, if_pos ⟨rfl, rfl⟩]
    · rw [b4 _ _ (by omega), f2, if_neg (by omega), hc2, gi_si_if, if_pos ⟨rfl, rfl⟩]; exact nv
    · unfold lt
      rw [b4 _ _ (by omega), o3 _ _ (by omega) (by omega)]
      have I : i = 0 ∨ i = 1 := by omega
      rcases I with rfl | rfl
      · rw [show (95 + 6 : Nat) = 101 from rfl, ha, tnn _ a rfl (by omega)]; exact lga
      · rw [show (95 + 6 : Nat) = 101 from rfl, hb, tnn _ b rfl (by omega)]; exact lgb
    · have eR : R' = R := by
        rw [b4 _ _ (by omega), o3 _ _ (by omega) (by omega)] at q1
        have := q1.symm.trans hR
        rw [iz_inj (by omega) (by omega) (by omega) (by omega)] at this
        omega
      subst eR
      exact hvW z (WGH_g (fun x i y1 y2 => by rw [b4 _ _ (by omega), o3 _ _ (by omega) (by omega), o1 _ _ (by omega)]) q3)
    · rw [b4 _ _ (by omega), f2, if_pos ⟨rfl, hs⟩]
  obtain ⟨c5, s1, s2, _, s4⟩ := spread_ok (by omega) hn n 0 10 c4 _ (by omega) (by omega) sp
  refine ⟨iz (TT N 5 n (si mS 510 45 1) kd : Nat), c5, ?_, fun x i q => ?_, fun m hm => ?_⟩
  · have F := F_X0_parts_s Z0.1 N 124 (iz n) (iz kd) c0
    have t0 : (0 : Int32).toNatClampNeg = 0 := rfl
    have t1 : (1 : Int32).toNatClampNeg = 1 := rfl
    rw [r_124_0, g3, if_pos (show iz ((2 : Nat) : Int) = 2 from rfl), if_neg (show ¬ iz (n : Int) < 0 from iz_nlt (b := 0) (by omega)), if_neg (show ¬ (8 : Int32) < iz (n : Int) from iz_nlt (a := 8) (by omega)), if_neg (show ¬ iz (kd : Int) < 0 from iz_nlt (b := 0) (by omega)), if_pos (show iz (kd : Int) < (10 : Int32) from iz_lti (b := 10) (by omega)), if_pos (by decide), if_pos (by decide), cv_g6 cvg_try, t0, t1, show (95 + 6 : Nat) = 101 from rfl, ha, hb, hlg, bd_eq, r_124_1, ← hc1, hv, sb_eq] at F
    rw [F]
    have zv : zb v := by
      rcases v01 with z | z
      · rw [z]; decide
      · rw [z]; decide
    rw [if_pos zv, bd_eq, ← hc2, r_124_5]
    refine bnd f1 ?_
    rw [if_pos (by decide), r_124_2, w_d 0 (by omega)]
    refine bnd l1 (bnd s1 ?_)
    rw [if_pos (show ib (iz (kd : Int)) 90 from iz_ib (by omega)), r_124_3, tnn _ kd rfl (by omega)]
    have := s2 kd hk
    rw [Nat.mul_zero, Nat.zero_add] at this
    exact congrArg (fun z => some (z, c5)) this
  · rw [s4.1 x i (by omega) (by omega) (by omega) (by omega) (by omega) (by omega) (by omega), b4 x i (by omega), o3 x i (by omega) (by omega)]
  · -- the reference
    obtain ⟨m1, u1, u2, u3⟩ := start m hm
    have same : ∀ y : Nat, TT N 5 n (si m1 510 45 1) y = TT N 5 n (si mS 510 45 1) y := fun y => bisim N (by omega) 4 L W (by omega) n c4 _ c4 _ (130 + 12 * 0) 5 (130 + 12 * 0) 5 hS u3 ⟨by omega, fun i hi => by have := (SR_hand hS i hi).2.2; omega⟩ (KQ_self 4 _ c4) y
    have H7 : ∀ (q i kk : Nat) (d : DY), i + q = 9 → q < kk → ∃ d' : DY, F_X10_findTwo_7 Z0.1 N kk 510 (iz n) (iz i) d = F_X10_findTwo_54 Z0.1 N N 510 (iz n) 0 (si (si (si (si d' 510 45 1) 540 0 1) 538 0 0) 539 0 1) ∧ (∀ y : Nat, i ≤ y → y < 9 → gi d' 541 y = 0) ∧ (∀ x y : Nat, ¬ (x = 541 ∧ i ≤ y) → gi d' x y = gi d x y) := by
      intro q
      induction q with
      | zero =>
        intro i kk d hq hkk
        obtain ⟨kk, rfl⟩ : ∃ y, kk = y + 1 := ⟨kk - 1, by omega⟩
        obtain rfl : i = 9 := by omega
        refine ⟨d, ?_, fun y h1 h2 => by omega, fun _ _ _ => rfl⟩
        rw [F_X10_findTwo_7_s, if_pos (by decide), bd_eq, if_pos (by decide), bd_eq, if_pos (by decide), bd_eq, if_pos (by decide), bd_eq, r_510_50, r_510_51, r_510_52]
        rfl
      | succ q ih =>
        intro i kk d hq hkk
        obtain ⟨kk, rfl⟩ : ∃ y, kk = y + 1 := ⟨kk - 1, by omega⟩
        obtain ⟨d', e1, e2, e3⟩ := ih (i + 1) kk (si d 541 i 0) (by omega) (by omega)
        refine ⟨d', ?_, fun y h1 h2 => ?_, fun x y h => ?_⟩
        · rw [F_X10_findTwo_7_s, if_neg (show ¬ (9 : Int32) ≤ iz (i : Int) from iz_nle (a := 9) (by omega)), if_pos (show ib (iz (i : Int)) 9 from iz_ib (by omega)), bd_eq, r_510_54, tnn _ i rfl (by omega), show iz (i : Int) + (1 : Int32) = iz ((i + 1 : Nat) : Int) from iz_add i 1]
          exact e1
        · by_cases z : y = i
          · rw [z, e3 541 i (by omega), gi_si_if, if_pos ⟨rfl, rfl⟩]
          · exact e2 y (by omega) h2
        · rw [e3 x y (by omega), gi_si_if, if_neg (by omega)]
    obtain ⟨d', e1, e2, e3⟩ := H7 9 0 N (si m1 510 53 0) (by omega) (by omega)
    obtain ⟨mD, hmD⟩ : ∃ mD : DY, mD = si (si (si (si d' 510 45 1) 540 0 1) 538 0 0) 539 0 1 := ⟨_, rfl⟩
    rw [← hmD] at e1
    have oD : ∀ x y : Nat, ¬ (x = 510 ∧ (y = 45 ∨ y = 53)) → x ≠ 541 → ¬ ((x = 540 ∨ x = 538 ∨ x = 539) ∧ y = 0) → gi mD x y = gi m1 x y := fun x y q1 q2 q3 => by
      rw [hmD, gi_si_if, if_neg (by omega), gi_si_if, if_neg (by omega), gi_si_if, if_neg (by omega), gi_si_if, if_neg (by omega), e3 x y (by omega), gi_si_if, if_neg (by omega)]
    have SD : SR c4 mD (130 + 12 * 0) (5 + 0) L W := by
      refine SR_row u3 (by omega) (fun i hi => ?_) ?_
      · rw [oD _ _ (by omega) (by omega) (by omega), gi_si_if, if_neg (by omega)]
      · rw [hmD, gi_si_if, if_neg (by omega), gi_si_if, if_neg (by omega), gi_si_if, if_neg (by omega), gi_si_if, if_pos ⟨rfl, rfl⟩]
    have hck : CK n ≤ 174761 := by
      have : ∀ n : Fin 9, CK n.1 ≤ 174761 := by decide +kernel
      exact this ⟨n, by omega⟩
    have d8 : gi mD 531 (720 * (5 + 0) + 8) = iz ((0 : Nat) : Int) := by
      rw [oD _ _ (by omega) (by omega) (by omega)]
      exact u2.2.2.2.1.2 8 (by omega) (by omega)
    obtain ⟨m', F', w1, w2, w3, w4, w5⟩ := dfs_ok (N := N) (n := n) (L := L) (W := W) (by omega) hn n 0 mD c4 (130 + 12 * 0) 1 0 0 N (fun _ => 0) (by omega) SD (by omega) (fun _ => ⟨by rw [hmD, gi_si_if, if_neg (by omega), gi_si_if, if_pos ⟨rfl, rfl⟩], by rw [hmD, gi_si_if, if_pos ⟨rfl, rfl⟩]⟩) (by rw [hmD, gi_si_if, if_neg (by omega), gi_si_if, if_neg (by omega), gi_si_if, if_pos ⟨rfl, rfl⟩]; rfl) (by rw [hmD, gi_si_if, if_neg (by omega), gi_si_if, if_neg (by omega), gi_si_if, if_neg (by omega), gi_si_if, if_neg (by omega), e3 510 53 (by omega), gi_si_if, if_pos ⟨rfl, rfl⟩]; rfl) (fun q hq => by rw [hmD, gi_si_if, if_neg (by omega), gi_si_if, if_neg (by omega), gi_si_if, if_neg (by omega), gi_si_if, if_neg (by omega)]; exact e2 q (by omega) hq) d8 (by omega) (by omega)
    obtain ⟨F', rfl⟩ : ∃ y, F' = y + 1 := ⟨F' - 1, by omega⟩
    have sT : ∀ y : Nat, TT N (5 + 0) n mD y = TT N 5 n (si mS 510 45 1) y := fun y => by
      rw [← same]
      exact bisim N (by omega) 4 L W (by omega) n c4 _ c4 _ (130 + 12 * 0) 5 (130 + 12 * 0) (5 + 0) u3 SD ⟨by omega, fun i hi => by have := (SR_hand hS i hi).2.2; omega⟩ (KQ_self 4 _ c4) y
    refine ⟨m1, si m' 510 45 0, u1, ?_, fun z => ?_, fun q hq z => ?_, fun x i q1 q2 q3 => ?_⟩
    · rw [F_X10_findTwo_s, bd_eq]
      refine e1.trans (w2.trans ?_)
      rw [F_X10_findTwo_54_s, if_pos (show iz (((0 : Nat) : Int) - 1) < 0 by decide), bd_eq]
    · rw [gi_si_if, if_neg (by omega), w3, sT, z, Nat.one_mul, Nat.zero_add]
    · rw [gi_si_if, if_neg (by omega), w4 q hq, if_pos (by omega), sT, z, Nat.one_mul, Nat.zero_add, show 1 + q - 0 = q + 1 by omega]
    · rw [gi_si_if, if_neg (by omega), w5 x i (by omega), oD x i (by omega) (by omega) (by omega), u2.1 x i (by omega)]
