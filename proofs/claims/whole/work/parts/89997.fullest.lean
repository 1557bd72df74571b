/-! fullest -/
theorem PREP_first {c m : DY} {k j L W n q : Nat} (hP : PREP (mixD c m) k j id L W n n) (hq : q ≤ n) : PREP (mixD (si c 95 3 (iz q)) m) k j id L W q n := by
  obtain ⟨⟨⟨k1, k1', k1'', k1m⟩, k2, k3, ⟨_, k5'⟩, k6, ⟨kι, kmo⟩, k7⟩, hL⟩ := hP
  have o : ∀ x i : Nat, ¬ (x = 95 ∧ i = 3) → gi (mixD (si c 95 3 (iz q)) m) x i = gi (mixD c m) x i := fun x i h => by
    by_cases z : x < 510
    · rw [mix_c _ _ _ _ z, mix_c _ _ _ _ z, gi_si_if, if_neg h]
    · rw [mix_m _ _ _ _ (by omega), mix_m _ _ _ _ (by omega)]
  refine ⟨⟨⟨k1, k1', by omega, k1m⟩, ?_, ?_, ⟨?_, ?_⟩, fun i hi => ?_, ⟨fun i hi => by show i < n; omega, fun i j h _ => h⟩, fun i hi => ?_⟩, LR_of hL ⟨fun f hf => o _ _ (by omega), fun p hp i _ => o _ _ (by omega)⟩ (o 523 _ (by omega)) (fun i _ => o 524 _ (by omega))⟩
  · rw [o 95 0 (by omega), o 516 _ (by omega)]; exact k2
  · rw [o 95 1 (by omega), o 517 _ (by omega)]; exact k3
  · rw [mix_c _ _ _ _ (by omega), gi_si_if, if_pos ⟨rfl, rfl⟩]
  · rw [o 518 _ (by omega)]; exact k5'
  · rw [o (95 + 1) i (by omega), o 520 _ (by omega)]; exact k6 i hi
  · obtain ⟨a1, a2, a3, a4⟩ := k7 i (by omega)
    refine ⟨?_, ?_, TW_of a3 (fun x _ _ => o _ _ (by omega)) (fun x _ => o _ _ (by omega)), ?_⟩
    · rw [o (95 + 2) i (by omega), o 521 _ (by omega)]; exact a1
    · rw [o (95 + 3) i (by omega), o 521 _ (by omega)]; exact a2
    · unfold FRG at a4 ⊢
      rw [o (95 + 9) i (by omega), o 521 _ (by omega)]
      rcases a4 with ⟨j, j1, j2, j3⟩ | ⟨b1, b2⟩
      · by_cases z : j < q
        · exact Or.inl ⟨j, z, j2, j3⟩
        · refine Or.inr ⟨fun j' hj' y => ?_, Or.inr ⟨j, by omega, j3, fun j' hj' => by show j' ≠ j; omega⟩⟩
          rw [j2] at y
          rw [iz_inj (by omega) (by omega) (by omega) (by omega)] at y
          omega
      · refine Or.inr ⟨fun j hj => b1 j (by omega), ?_⟩
        rcases b2 with b | ⟨a, a1, a2, a3⟩
        · exact Or.inl b
        · exact absurd rfl (a3 a a1)
theorem awy_first {q n : Nat} (h12 : n ≤ 12) (hq : q ≤ n) : ∀ a : Nat, a < n → (awy (iz q) (-1) a ↔ ∀ i : Nat, i < q → id i ≠ a) := fun a ha => by
  constructor
  · intro z i hi y
    have y : i = a := y
    rcases z with z | z
    · exact iz_nle (a := q) (b := a) (by omega) z
    · rw [l_m1] at z
      exact iz_nei (by omega) z
  · intro z
    rcases Nat.lt_or_ge a q with y | y
    · exact absurd rfl (z a y)
    · exact Or.inl (iz_lei (by omega))
/-- all but how many are on the ground -/
def sameN (c0 c : DY) : Prop := ∀ x i : Nat, 95 ≤ x → x ≤ 111 → ¬ (x = 95 ∧ i = 3) → gi c x i = gi c0 x i
def flR (A : Nat → Nat) : Nat → Nat → Int
  | 0, _ => -1
  | q + 1, k => if k ≤ A k then flR A q (k + 1) else k
theorem flR_s (A : Nat → Nat) (q k : Nat) : flR A (q + 1) k = if k ≤ A k then flR A q (k + 1) else k := rfl
theorem c_keep (N : Nat) (d : DY) (q n : Nat) (h1 : 1 ≤ q) (h2 : q ≤ n) (h3 : n ≤ 12) : F_X4_keepFirst Z0.1 N 95 (iz q) (iz n) d = some (si d 95 3 (iz q)) := by
  have a : (if (12 : Int32) < iz (n : Int) then (12 : Int32) else iz (n : Int)) = iz (n : Int) := if_neg (show ¬ (12 : Int32) < iz (n : Int) by rw [l_12]; exact iz_nlt (by omega))
  have b : (if iz (n : Int) < iz (q : Int) then iz (n : Int) else iz (q : Int)) = iz (q : Int) := if_neg (show ¬ iz (n : Int) < iz (q : Int) from iz_nlt (by omega))
  have c : (if (0 : Int32) < iz (q : Int) then iz (q : Int) else (0 : Int32)) = iz (q : Int) := if_pos (show (0 : Int32) < iz (q : Int) by rw [l_0]; exact iz_lti (by omega))
  rw [F_X4_keepFirst_s, a, b, c, bd_eq]
theorem eq_fullest (N : Nat) (pa la s na : Int32) (dy : DY) (hN : 900 ≤ N) (h : Inv dy) : ∃ r dy1 dy2, F_X9_fullest Z0.1 N 1 pa la s na dy = some (r, dy1) ∧ F_X10_fullest Z0.1 N 510 pa la s na dy1 = some (r, dy2) ∧ Inv dy2 := by
  refine wrap_trial N 200 pa la na (-1) dy (by omega) h (fun d => (F_X9_fullest_34 Z0.1 N N) 1 s na (gi d (gr Z0.1 1 4) 3) (1 : Int32) d) (fun d => (F_X10_fullest_24 Z0.1 N N) 510 pa la s na (1 : Int32) d) (fun k j n0 L W n c hpa hla hna k3 j3 n01 n02 hC m518 hP => ?_)
  subst hpa hla hna
  have n12 : n ≤ 12 := hP.1.1.2.2.1
  have g3 : gi c 95 3 = iz n := (GRD_of hP).2.1.2.2
  have i12 : ib (iz (k : Int)) 12 := iz_ib (by omega)
  have i2886 : ib (2886 : Int32) 10080 := by decide
  obtain ⟨A, hA⟩ := ex_fun (P := fun q A => A ≤ q ∧ (∀ c1 : DY, sameN c c1 → gi c1 95 3 = iz q → ∃ c' : DY, F_X9_arrivals Z0.1 N 1 s (iz n0) c1 = some (iz A, c') ∧ frT1 c1 c') ∧ ∀ m : DY, sameM dy m → ∃ m1 m' : DY, F_X10_lay Z0.1 N 510 4 (iz k) (iz j) s (iz q) (-1) m = some m1 ∧ F_X10_tryOn Z0.1 N 510 (iz n0) m1 = some m' ∧ gi m' 531 2886 = iz A ∧ frT2 m m') (fun q => q ≤ n) (fun q hq => by
    obtain ⟨A, T, a1, _, a3, a4⟩ := spec_lay N n0 s (iz q) (-1) (si c 95 3 (iz q)) dy hN (by omega) k3 j3 (PREP_first hP hq) (awy_first n12 hq)
    refine ⟨A, a1, fun c1 h1 h2 => ?_, fun m hm => ?_⟩
    · obtain ⟨c', b1, _, b3⟩ := a3 c1 (fun x i q1 q2 => by
        rw [gi_si_if]
        by_cases z : x = 95 ∧ i = 3
        · rw [if_pos z, z.1, z.2, h2]
        · rw [if_neg z, h1 x i q1 q2 z])
      exact ⟨c', b1, b3⟩
    · obtain ⟨m1, m', b1, b2, b3, _, b5⟩ := a4 m hm
      exact ⟨m1, m', b1, b2, b3, b5⟩)
  have LC : ∀ (q i f : Nat) (c1 : DY), i + q = n + 1 → 1 ≤ i → q < f → sameN c c1 → ∃ c' : DY, F_X9_fullest_34 Z0.1 N f 1 s (iz n0) (iz n) (iz i) c1 = some (iz (flR A q i), c') ∧ gfr c1 c' := by
    intro q
    induction q with
    | zero =>
      intro i f c1 hq hi hf hc
      obtain ⟨f, rfl⟩ : ∃ j, f = j + 1 := ⟨f - 1, by omega⟩
      refine ⟨c1, ?_, gfr_re _⟩
      rw [F_X9_fullest_34_s, if_pos (show iz (n : Int) < iz (i : Int) from iz_lti (by omega))]
      rfl
    | succ q ih =>
      intro i f c1 hq hi hf hc
      obtain ⟨f, rfl⟩ : ∃ j, f = j + 1 := ⟨f - 1, by omega⟩
      obtain ⟨a1, a2, _⟩ := hA i (by omega)
      obtain ⟨c2, b1, b2⟩ := a2 (si c1 95 3 (iz i)) (fun x y q1 q2 q3 => by rw [gi_si_if, if_neg q3]; exact hc x y q1 q2 q3) (by rw [gi_si_if, if_pos ⟨rfl, rfl⟩])
      have s2 : gfr c1 c2 := fun x y hx => by rw [b2.1 x y (by omega), gi_si_if, if_neg (by omega)]
      have i1 : iz (i : Int) + (1 : Int32) = iz ((i + 1 : Nat) : Int) := iz_add i 1
      rw [flR_s, F_X9_fullest_34_s, if_neg (show ¬ iz (n : Int) < iz (i : Int) from iz_nlt (by omega)), r_1_4, i1]
      by_cases w : i ≤ A i
      · obtain ⟨c', u1, u2⟩ := ih (i + 1) f c2 (by omega) (by omega) (by omega) (fun x y q1 q2 q3 => by rw [b2.1 x y (by omega), gi_si_if, if_neg q3]; exact hc x y q1 q2 q3)
        refine ⟨c', bnd (c_keep N c1 i n hi (by omega) n12) (bnd b1 ?_), gfr_tr s2 u2⟩
        rw [if_pos w]
        exact (if_pos (show iz (i : Int) ≤ iz (A i : Int) from iz_lei (by omega))).trans u1
      · refine ⟨c2, bnd (c_keep N c1 i n hi (by omega) n12) (bnd b1 ?_), s2⟩
        rw [if_neg w]
        exact if_neg (show ¬ iz (i : Int) ≤ iz (A i : Int) from iz_nle (by omega))
  have LM : ∀ (q i f : Nat) (m : DY), i + q = n + 1 → 1 ≤ i → q < f → sameM dy m → ∃ m' : DY, F_X10_fullest_24 Z0.1 N f 510 (iz k) (iz j) s (iz n0) (iz i) m = some (iz (flR A q i), m') ∧ rfr m m' := by
    intro q
    induction q with
    | zero =>
      intro i f m hq hi hf hm
      obtain ⟨f, rfl⟩ : ∃ j, f = j + 1 := ⟨f - 1, by omega⟩
      refine ⟨m, ?_, rfr_re _⟩
      rw [F_X10_fullest_24_s, if_pos i12, r_510_8, tnn _ k rfl (by omega), hm 518 k (by omega) (by omega), m518, if_pos (show iz (n : Int) < iz (i : Int) from iz_lti (by omega))]
      rfl
    | succ q ih =>
      intro i f m hq hi hf hm
      obtain ⟨f, rfl⟩ : ∃ j, f = j + 1 := ⟨f - 1, by omega⟩
      obtain ⟨a1, _, a2⟩ := hA i (by omega)
      obtain ⟨m1, m2, b1, b2, b3, b4⟩ := a2 m hm
      have i1 : iz (i : Int) + (1 : Int32) = iz ((i + 1 : Nat) : Int) := iz_add i 1
      have st : ∀ R, (if iz (i : Int) ≤ iz (A i : Int) then F_X10_fullest_24 Z0.1 N f 510 (iz k) (iz j) s (iz n0) (iz ((i + 1 : Nat) : Int)) m2 else some (iz (i : Int), m2)) = R → F_X10_fullest_24 Z0.1 N (f + 1) 510 (iz k) (iz j) s (iz n0) (iz i) m = R := fun R hR => by
        rw [F_X10_fullest_24_s, if_pos i12, r_510_8, tnn _ k rfl (by omega), hm 518 k (by omega) (by omega), m518, if_neg (show ¬ iz (n : Int) < iz (i : Int) from iz_nlt (by omega)), i1]
        refine bnd b1 (bnd b2 ?_)
        rw [if_pos i2886, r_510_39, show (2886 : Int32).toNatClampNeg = 2886 from rfl, b3]
        exact hR
      rw [flR_s]
      by_cases w : i ≤ A i
      · obtain ⟨m', u1, u2⟩ := ih (i + 1) f m2 (by omega) (by omega) (by omega) (sameM_tr hm b4)
        exact ⟨m', st _ (by rw [if_pos (show iz (i : Int) ≤ iz (A i : Int) from iz_lei (by omega)), if_pos w]; exact u1), rfr_tr (rfr_of b4) u2⟩
      · exact ⟨m2, st _ (by rw [if_neg (show ¬ iz (i : Int) ≤ iz (A i : Int) from iz_nle (by omega)), if_neg w]), rfr_of b4⟩
  obtain ⟨c', x1, x2⟩ := LC n 1 N c (by omega) (by omega) (by omega) (fun _ _ _ _ _ => rfl)
  have sM : sameM dy (si c' 510 0 0) := fun x i q1 q2 => by rw [gi_si_if, if_neg (by omega), x2 x i (by omega), hC.2.2.1 x i (by omega)]
  obtain ⟨m', x3, x4⟩ := LM n 1 N (si c' 510 0 0) (by omega) (by omega) (by omega) sM
  refine ⟨_, c', m', ?_, x2, x3, fun x i q1 q2 q3 => by rw [x4 x i q1 q2 q3, gi_si_if, if_neg (by omega)]⟩
  rw [r_1_4, g3]
  exact x1
