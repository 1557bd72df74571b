/-! reading a LAW: all its rules -/
theorem rule_both {c m : DY} {Z : Nat → Int} {sz f : Nat} (N j : Nat) (hN : 900 ≤ N) (hT : TKS c m Z sz f) (hF : FLT c m f) (hL : LW j c m) (hj : j ≤ 500) : ∃ (c' m' : DY) (v : Int32), (∀ K : Nat → Int32 → DY → Option (Int32 × DY), (if iz (j : Int) < (16 : Int32) then F_X3_read_56 Z0.1 N K 239 (iz j) c else (F_X6_note Z0.1 N 94 (3 : Int32) (gi c 94 3) c).bind fun u6 => F_X3_read_56 Z0.1 N K 239 (iz j) u6) = K 239 (iz ((j + 1 : Nat) : Int)) c') ∧ F_X10_ruleLine Z0.1 N 510 m = some (v, m') ∧ LT c m c' m' v Z sz f (LW (j + 1)) := by
  have n1 : ¬ (1 : Int32) = 0 := by decide
  have f500 : f ≤ 500 := by have := hT.1; omega
  have e18 : iz (j : Int) + (1 : Int32) = iz ((j + 1 : Nat) : Int) := iz_add j 1
  have st : ∃ c0 m0 : DY, (∀ K : Nat → Int32 → DY → Option (Int32 × DY), (if iz (j : Int) < (16 : Int32) then F_X3_read_56 Z0.1 N K 239 (iz j) c else (F_X6_note Z0.1 N 94 (3 : Int32) (gi c 94 3) c).bind fun u6 => F_X3_read_56 Z0.1 N K 239 (iz j) u6) = (F_X3_readRule Z0.1 N 239 c0).bind fun u1 => K 239 (iz ((j + 1 : Nat) : Int)) u1) ∧ F_X10_ruleLine Z0.1 N 510 m = F_X10_ruleLine_18 Z0.1 N 510 m0 ∧ TKS c0 m0 Z sz f ∧ FL3 c0 m0 f ∧ LW j c0 m0 ∧ frP c c0 ∧ frQ m m0 ∧ (gi c0 94 6 = 0 → gi c 94 6 = 0 ∧ j < 16) := by
    have M := F_X10_ruleLine_s Z0.1 N 510 m
    rw [hL.1, hT.2.2.2.1.2] at M
    by_cases z : j < 16
    · rw [if_neg (show ¬ iz ((min j 16 : Nat) : Int) = (16 : Int32) from iz_nei (b := 16) (by omega))] at M
      refine ⟨c, m, fun K => ?_, M, hT, FL3_of hF, hL, frP_re c, frQ_re m, fun q => ⟨q, z⟩⟩
      rw [if_pos (show iz (j : Int) < (16 : Int32) from iz_lti (b := 16) (by omega)), F_X3_read_56_s, e18]
    · rw [if_pos (show iz ((min j 16 : Nat) : Int) = (16 : Int32) from by rw [show min j 16 = 16 by omega]; rfl)] at M
      obtain ⟨c1, m1, q1, q2, q3, q4, q5, q6, q7, q8, q9⟩ := note_both N (c := c) (m := m) (at_ := f) (F0 := 3) f500 (by omega) (Or.inl hF)
      refine ⟨c1, m1, fun K => ?_, M.trans (bnd q2 rfl), TKS_fr hT (fun x k q => q6 x k (by omega)) (fun x k q => q8 x k (by omega)) (q9 _ _), q5 rfl, ⟨(q8 510 36 (by omega)).trans hL.1, fun q => absurd q q4⟩, ⟨fun x k q => q6 x k (by omega), q7⟩, ⟨fun x k q => q8 x k (by omega), fun x k _ => q9 x k⟩, fun q => absurd q q4⟩
      rw [if_neg (show ¬ iz (j : Int) < (16 : Int32) from iz_nlt (b := 16) (by omega)), hT.2.2.2.1.1]
      refine bnd q1 ?_
      show F_X3_read_56 Z0.1 N K 239 (iz j) c1 = _
      rw [F_X3_read_56_s, e18]
  obtain ⟨c0, m0, C0, M0, T0, F0, L0, P0, Q0, S0⟩ := st
  have h60 := FL3_n1 F0
  obtain ⟨m1, hm1⟩ : ∃ m1 : DY, m1 = si m0 510 37 0 := ⟨_, rfl⟩
  have o1 : ∀ x k : Nat, ¬ (x = 510 ∧ k = 37) → gi m1 x k = gi m0 x k := fun x k q => by rw [hm1, gi_si_if, if_neg q]
  have T1 : TKS c0 m1 Z sz f := TKS_fr T0 (fun _ _ _ => rfl) (fun x k q => o1 x k (by omega)) (by rw [hm1]; rfl)
  have F1 : FL3 c0 m1 f := FL3_cells F0 rfl rfl (o1 510 25 (by omega)) (o1 510 26 (by omega))
  have R1 : RP j 0 c0 m1 := by
    refine ⟨(o1 510 36 (by omega)).trans L0.1, by rw [hm1, gi_si_if, if_pos ⟨rfl, rfl⟩]; rfl, fun z => ?_⟩
    obtain ⟨_, b, d⟩ := L0.2 z
    exact ⟨(S0 z).2, by omega, b, LWQ_fr d (fun _ _ _ => rfl) (fun i _ => o1 530 i (by omega)), fun k hk => by omega⟩
  have M1 : F_X10_ruleLine Z0.1 N 510 m = _ := M0.trans ((F_X10_ruleLine_18_s Z0.1 N 510 m0).trans (bd_eq _ _))
  rw [← hm1] at M1
  have RC := F_X3_readRule_s Z0.1 N 239 c0
  rw [r_239_0] at RC
  have fin : ∀ (c2 m2 : DY) (v : Int32), F_X3_readRule Z0.1 N 239 c0 = some c2 → F_X10_ruleLine Z0.1 N 510 m = some (v, m2) → frLC c0 c2 → frLM m0 m2 → ((v = 0 ∧ ∃ w : Nat, BRK c2 m2 w) ∨ (v = 1 ∧ ∃ f' : Nat, TKS c2 m2 Z sz f' ∧ f < f' ∧ FLT c2 m2 f' ∧ (gi c2 94 6 = 0 → gi c0 94 6 = 0) ∧ LW (j + 1) c2 m2)) → ∃ (c' m' : DY) (v : Int32), (∀ K : Nat → Int32 → DY → Option (Int32 × DY), (if iz (j : Int) < (16 : Int32) then F_X3_read_56 Z0.1 N K 239 (iz j) c else (F_X6_note Z0.1 N 94 (3 : Int32) (gi c 94 3) c).bind fun u6 => F_X3_read_56 Z0.1 N K 239 (iz j) u6) = K 239 (iz ((j + 1 : Nat) : Int)) c') ∧ F_X10_ruleLine Z0.1 N 510 m = some (v, m') ∧ LT c m c' m' v Z sz f (LW (j + 1)) := fun c2 m2 v a1 a2 a3 a4 a5 => by
    refine ⟨c2, m2, v, fun K => (C0 K).trans (bnd a1 rfl), a2, frLC_tr (frLC_P P0) a3, frLM_tr (frLM_Q Q0) a4, ?_⟩
    rcases a5 with z | ⟨z, f', q1, q2, q3, q4, q5⟩
    · exact Or.inl z
    · exact Or.inr ⟨z, f', q1, q2, q3, fun y => (S0 (q4 y)).1, q5⟩
  have fm1 : frLM m0 m1 := fun x k q => o1 x k (by omega)
  rcases takes_both N 12 26982 hN T1 h60 wol_12 with ⟨a1, a2⟩ | ⟨c1, s1, a1, a2, kd⟩
  · -- no tests
    obtain ⟨c2, m2, v, b1, b2, b3, b4, b5⟩ := rule60_both N j 0 hN T1 F1 R1 (by omega)
    exact fin c2 m2 v (RC.trans (bnd a1 ((if_pos rfl).trans b1))) (M1.trans (bnd a2 ((if_pos rfl).trans b2))) b3 (frLM_tr fm1 b4) b5
  · obtain ⟨c1', m2, s1', t2, T2, fx, fy⟩ := both_step N hN T1
    have ec : c1' = c1 := Option.some.inj (s1'.symm.trans s1)
    subst ec
    have ff := (nx_b Z sz f hT.1.2).2.2 (by omega)
    have F2 : FLT c1' m2 (nx Z sz f) := FLT_of3 (FL3_cells F1 (fx.1 94 6 (by omega)) (fx.1 94 7 (by omega)) (fy.1 510 25 (by omega)) (fy.1 510 26 (by omega))) ff
    have R2 : RP j 0 c1' m2 := RP_fr R1 (fun x k _ _ => fx.1 x k (by omega)) (fun z => (fx.1 94 6 (by omega)).symm.trans z) (fun x k q => fy.1 x k (by omega))
    obtain ⟨c2, m3, v, b1, b2, b3, b4, b5⟩ := test_both N j 0 hN T2 F2 R2 (by omega)
    obtain ⟨n, hn⟩ : ∃ n, N = n + 1 := ⟨N - 1, by omega⟩
    have M2 : F_X10_ruleLine Z0.1 N 510 m = (if v = 0 then some ((0 : Int32), m3) else (F_X10_isWord Z0.1 N 510 (6385252 : Int64) m3).bind fun u11 => (F_X10_ruleLine_35 Z0.1 N (F_X10_ruleLine_81 Z0.1 N) n) 510 u11.1 u11.2) := by
      refine M1.trans (bnd a2 ((if_neg n1).trans ?_))
      have e : F_X10_ruleLine_35 Z0.1 N (F_X10_ruleLine_81 Z0.1 N) N 510 1 m1 = F_X10_ruleLine_35 Z0.1 N (F_X10_ruleLine_81 Z0.1 N) (n + 1) 510 1 m1 := by rw [← hn]
      refine e.trans ((F_X10_ruleLine_35_s Z0.1 N (F_X10_ruleLine_81 Z0.1 N) n 510 1 m1).trans ((if_neg n1).trans (bnd t2 (bnd b2 rfl))))
    have C2 : F_X3_readRule Z0.1 N 239 c0 = F_X3_readRule_21 Z0.1 N (F_X3_readRule_60 Z0.1 N) N 239 (iz ((1 : Nat) : Int)) c2 := RC.trans (bnd a1 ((if_neg n1).trans (bnd b1 rfl)))
    have fc : frLC c0 c2 := frLC_tr (frLC_P (frP_X fx)) b3
    have fm : frLM m0 m3 := frLM_tr fm1 (frLM_tr (frLM_Q (frQ_Y fy)) b4)
    rcases b5 with ⟨v0, w, br⟩ | ⟨v1, f', T3, f2, F3, K3, R3⟩
    · refine fin c2 m3 0 ?_ (M2.trans (if_pos v0)) fc fm (Or.inl ⟨rfl, w, br⟩)
      rw [C2]
      have e : F_X3_readRule_21 Z0.1 N (F_X3_readRule_60 Z0.1 N) N 239 (iz ((1 : Nat) : Int)) c2 = F_X3_readRule_21 Z0.1 N (F_X3_readRule_60 Z0.1 N) (n + 1) 239 (iz ((1 : Nat) : Int)) c2 := by rw [← hn]
      exact e.trans ((b_rule21 N 1 (by omega) n c2 br.1).trans (b_rule60 N hN _ c2 br.1))
    · have f'5 := T3.1
      have nv : ¬ v = 0 := by rw [v1]; decide
      obtain ⟨t', c3, m4, v4, d0, d1, d2, d3, d4, d5, d6⟩ := tests_both N j hN (500 - f') N n 1 c2 m3 Z sz f' (by omega) (by omega) (by omega) (by omega) T3 F3 R3
      rw [if_neg nv] at M2
      rcases d6 with ⟨y0, w, br⟩ | ⟨y1, f3, T4, f4, F4, K4, R4⟩
      · exact fin c3 m4 0 (C2.trans (d1.trans (b_rule60 N hN _ c3 br.1))) (M2.trans (d2 y0)) (frLC_tr fc d4) (frLM_tr fm d5) (Or.inl ⟨rfl, w, br⟩)
      · obtain ⟨c4, m5, v5, g1, g2, g3, g4, g5⟩ := rule60_both N j t' hN T4 (FL3_of F4) R4 d0
        refine fin c4 m5 v5 (C2.trans (d1.trans g1)) (M2.trans ((d3 y1).trans g2)) (frLC_tr fc (frLC_tr d4 g3)) (frLM_tr fm (frLM_tr d5 g4)) ?_
        rcases g5 with z | ⟨z, f5, q1, q2, q3, q4, q5⟩
        · exact Or.inl z
        · exact Or.inr ⟨z, f5, q1, by omega, q3, fun y => (fx.1 94 6 (by omega)).symm.trans (K3 (K4 (q4 y))), q5⟩
theorem rules_both (N : Nat) (hN : 900 ≤ N) (a : Int32) : ∀ (q k k' j : Nat) (c m : DY) (Z : Nat → Int) (sz f : Nat), f + q = 500 → q + 1 < k → q + 1 < k' → j ≤ f → TKS c m Z sz f → FLT c m f → LW j c m → ∃ (c' m' : DY) (v : Int32), F_X3_read_18 Z0.1 N k 239 (iz j) c = F_X3_read_66 Z0.1 N 239 c' ∧ F_X10_law_49 Z0.1 N k' 510 a 1 m = F_X10_law_68 Z0.1 N 510 a v m' ∧ frLC c c' ∧ frLM m m' ∧ ENDS c' m' v ∧ (v = 1 → ∃ j' : Nat, LW j' c' m') := by
  have n1 : ¬ (1 : Int32) = 0 := by decide
  intro q
  induction q using Nat.strongRecOn with
  | ind q ih =>
  intro k k' j c m Z sz f hf hk hk' hj hT hF hL
  obtain ⟨k, rfl⟩ : ∃ i, k = i + 1 := ⟨k - 1, by omega⟩
  obtain ⟨k', rfl⟩ : ∃ i, k' = i + 1 := ⟨k' - 1, by omega⟩
  obtain ⟨kc0, km0, kc2, km3, kc3, km4, _, _⟩ := kinds hT
  have n6 := FLT_n1 hF
  have sf := hT.1
  by_cases e : kD Z sz f = 0
  · refine ⟨c, m, 1, ?_, ?_, frLC_re c, frLM_re m, Or.inr ⟨rfl, FLT_up hF (by omega)⟩, fun _ => ⟨j, hL⟩⟩
    · rw [F_X3_read_18_s, r_239_0]
      by_cases y : 500 ≤ j
      · rw [if_pos (show (500 : Int32) ≤ iz (j : Int) from iz_lei (a := 500) (by omega))]
      · rw [if_neg (show ¬ (500 : Int32) ≤ iz (j : Int) from iz_nle (a := 500) (by omega)), c_goes1 N c n6, if_pos (kc0.mpr e), sb_eq, if_pos rfl]
    · rw [F_X10_law_49_s, if_neg n1, if_pos (km0.mpr e)]
  · have lt := ((tE_b Z sz f sf.2).2.2.1 e).2
    obtain ⟨c2, m2, v, b1, b2, b3, b4, b5⟩ := rule_both N j hN hT hF hL (by omega)
    have C0 : F_X3_read_18 Z0.1 N (k + 1) 239 (iz j) c = F_X3_read_18 Z0.1 N k 239 (iz ((j + 1 : Nat) : Int)) c2 := by
      rw [F_X3_read_18_s, r_239_0, if_neg (show ¬ (500 : Int32) ≤ iz (j : Int) from iz_nle (a := 500) (by omega)), c_goes1 N c n6, if_neg (fun z => e (kc0.mp z)), sb_eq, if_neg n1]
      exact b1 _
    have M0 : F_X10_law_49 Z0.1 N (k' + 1) 510 a 1 m = F_X10_law_49 Z0.1 N k' 510 a v m2 := by
      rw [F_X10_law_49_s, if_neg n1, if_neg (fun z => e (km0.mp z)), b2, sb_eq]
    rcases b5 with ⟨v0, w, br⟩ | ⟨v1, f', T2, ff, F2, K2, L2⟩
    · obtain ⟨k, rfl⟩ : ∃ i, k = i + 1 := ⟨k - 1, by omega⟩
      obtain ⟨k', rfl⟩ : ∃ i, k' = i + 1 := ⟨k' - 1, by omega⟩
      refine ⟨c2, m2, 0, C0.trans ?_, M0.trans ?_, b3, b4, Or.inl ⟨rfl, w, br⟩, fun z => absurd z (by decide)⟩
      · rw [F_X3_read_18_s, r_239_0]
        by_cases y : 500 ≤ j + 1
        · rw [if_pos (show (500 : Int32) ≤ iz ((j + 1 : Nat) : Int) from iz_lei (a := 500) (by omega))]
        · rw [if_neg (show ¬ (500 : Int32) ≤ iz ((j + 1 : Nat) : Int) from iz_nle (a := 500) (by omega)), c_goes N c2 br.1, sb_eq, if_pos rfl]
      · rw [F_X10_law_49_s, v0, if_pos rfl]
    · have f'5 := T2.1
      obtain ⟨c3, m3, v3, d1, d2, d3, d4, d5, d6⟩ := ih (500 - f') (by omega) k k' (j + 1) c2 m2 Z sz f' (by omega) (by omega) (by omega) (by omega) T2 F2 L2
      rw [v1] at M0
      exact ⟨c3, m3, v3, C0.trans d1, M0.trans d2, frLC_tr b3 d3, frLM_tr b4 d4, d5, d6⟩
theorem readl_both (N sz : Nat) (Z : Nat → Int) (a : Int32) (c m : DY) (hN : 900 ≤ N) (h5 : sz ≤ 500) (b1 : BYT c Z) (b2 : BYM m Z) (h19 : gi m 510 19 = iz sz) (h18 : gi m 510 18 = 0) (h25 : gi m 510 25 = 0) : ∃ (c' m' : DY) (v : Int32), F_X3_read Z0.1 N 239 (iz sz) c = some (if gi c' 94 6 = 0 then 1 else 0, c') ∧ F_X10_law_38 Z0.1 N 510 a m = F_X10_law_68 Z0.1 N 510 a v m' ∧ frLC c c' ∧ frLM m m' ∧ ENDS c' m' v ∧ (gi c' 94 6 = 0 → ∃ j : Nat, j ≤ 16 ∧ gi c' 105 0 = iz j ∧ gi m' 510 36 = iz j ∧ LWQ c' m' j) := by
  obtain ⟨c1, o1, o2, o3, o4, o5, o6⟩ := open_c N sz c h5
  obtain ⟨m1, hm1⟩ : ∃ m1 : DY, m1 = si m 510 36 0 := ⟨_, rfl⟩
  have q1 : ∀ x k : Nat, ¬ (x = 510 ∧ k = 36) → gi m1 x k = gi m x k := fun x k q => by rw [hm1, gi_si_if, if_neg q]
  obtain ⟨f, c2, m3, s1, s2, s3, s4, s5⟩ := first_both N sz Z c1 m1 hN h5 o2 ((q1 510 19 (by omega)).trans h19) (fun i hi => by rw [o6 3 i (by omega)]; exact b1 i hi) (fun i hi => by rw [q1 511 i (by omega)]; exact b2 i hi) o3 ((q1 510 18 (by omega)).trans h18)
  obtain ⟨c3, hc3⟩ : ∃ c3 : DY, c3 = si c2 105 0 0 := ⟨_, rfl⟩
  have q3 : ∀ x k : Nat, ¬ (x = 105 ∧ k = 0) → gi c3 x k = gi c2 x k := fun x k q => by rw [hc3, gi_si_if, if_neg q]
  have F : FLT c3 m3 f := Or.inl ⟨by rw [q3 94 6 (by omega), s4.1 94 6 (by omega)]; exact o4, by rw [q3 94 7 (by omega), s4.1 94 7 (by omega)]; exact o5, by rw [s5.1 510 25 (by omega), q1 510 25 (by omega)]; exact h25⟩
  have L0 : LW 0 c3 m3 := ⟨by rw [s5.1 510 36 (by omega), hm1, gi_si_if, if_pos ⟨rfl, rfl⟩]; rfl, fun _ => ⟨by omega, by rw [hc3, gi_si_if, if_pos ⟨rfl, rfl⟩]; rfl, fun r hr => by omega⟩⟩
  have T3 : TKS c3 m3 Z sz f := TKS_fr s3 (fun x k q => q3 x k (by omega)) (fun _ _ _ => rfl) rfl
  have C0 : F_X3_read Z0.1 N 239 (iz sz) c = F_X3_read_18 Z0.1 N N 239 (iz ((0 : Nat) : Int)) c3 := by
    rw [F_X3_read_s, r_239_0, r_239_1]
    refine bnd (o1 c2 s1) ?_
    rw [bd_eq, ← hc3]
    rfl
  have M0 : F_X10_law_38 Z0.1 N 510 a m = F_X10_law_49 Z0.1 N N 510 a 1 m3 := by
    rw [F_X10_law_38_s, bd_eq, ← hm1]
    exact bnd s2 rfl
  have fin : ∀ c4 : DY, F_X3_read_66 Z0.1 N 239 c4 = some (if gi c4 94 6 = 0 then 1 else 0, c4) := fun c4 => by
    rw [F_X3_read_66_s, r_239_0, c_sound, sb_eq]
    by_cases z : gi c4 94 6 = 0
    · rw [if_pos z]; exact if_pos (show zb (1 : Int32) by decide)
    · rw [if_neg z]; exact if_pos (show zb (0 : Int32) by decide)
  have f5 := T3.1
  obtain ⟨c4, m5, v4, d1, d2, d3, d4, d5, d6⟩ := rules_both N hN a (500 - f) N N 0 c3 m3 Z sz f (by omega) (by omega) (by omega) (by omega) T3 F L0
  have fc : frLC c c3 := fun x k q => by rw [q3 x k (by omega), s4.1 x k (by omega), o6 x k (by omega)]
  have fm : frLM m m3 := fun x k q => by rw [s5.1 x k (by omega), q1 x k (by omega)]
  refine ⟨c4, m5, v4, C0.trans (d1.trans (fin c4)), M0.trans d2, frLC_tr fc d3, frLM_tr fm d4, d5, fun z => ?_⟩
  rcases id d5 with ⟨_, w, br⟩ | ⟨e1, _⟩
  · exact absurd (br.1.symm.trans z) (by decide)
  · obtain ⟨j, l1, l2⟩ := d6 e1
    obtain ⟨l3, l4, l5⟩ := l2 z
    exact ⟨j, l3, l4, by rw [l1, show min j 16 = j by omega], l5⟩
