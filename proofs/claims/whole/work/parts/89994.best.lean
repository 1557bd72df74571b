/-! where a wall more, a wall less helps: both sides -/
def sameW (p : Nat) (c0 c : DY) : Prop := ∀ x i : Nat, 95 ≤ x → x ≤ 111 → ¬ (x = 96 ∧ i = p) → ¬ (x = 95 ∧ i = 2) → gi c x i = gi c0 x i
theorem spec_wall {k j L W n : Nat} (N n0 : Nat) (seed : Int32) (c0 m0 : DY) (hN : 900 ≤ N) (h2 : n0 ≤ 200) (k3 : k < 3) (j3 : j < 3) (hP : PREP (mixD c0 m0) k j id L W n n) (p : Nat) (v : Int32) (hp : p < 96) (hv : v = 0 ∨ v = 1) : ∃ A : Nat, A ≤ n ∧ (∀ c : DY, sameW p c0 c → gi c 96 p = v → ∃ c' : DY, F_X9_arrivals Z0.1 N 1 seed (iz n0) c = some (iz A, c') ∧ frT1 c c') ∧ ∀ m : DY, sameM m0 m → ∃ m1 m' : DY, F_X10_lay Z0.1 N 510 4 (iz k) (iz j) seed 12 (-1) m = some m1 ∧ F_X10_tryOn Z0.1 N 510 (iz n0) (si m1 531 (720 * 4 + 256 + p) v) = some m' ∧ gi m' 531 2886 = iz A ∧ frT2 m m' := by
  have n12 : n ≤ 12 := hP.1.1.2.2.1
  obtain ⟨A, a1, a2, a3⟩ := spec_upd N n0 seed c0 m0 hN h2 k3 j3 hP (fun i => if i = p then v else gi c0 96 i) (gi c0 101) (fun i hi => by
    by_cases z : i = p
    · show (if i = p then v else _) = 0 ∨ (if i = p then v else _) = 1
      rw [if_pos z]; exact hv
    · have := (hP.1.2.2.2.2.1 i hi).2
      rw [mix_c _ _ _ _ (by omega)] at this
      show (if i = p then v else _) = 0 ∨ (if i = p then v else _) = 1
      rw [if_neg z]
      exact this) (fun i hi => by
    obtain ⟨_, _, ⟨_, _, ⟨p, p1, p2, _⟩, _⟩, _⟩ := hP.1.2.2.2.2.2.2 i hi
    rw [mix_c _ _ _ _ (by omega)] at p2
    exact ⟨p, p1, p2⟩) (fun m => si m 531 (720 * 4 + 256 + p) v) (fun m x i q => by rw [gi_si_if, if_neg (by omega)]) (fun _ _ _ => rfl) (fun m q1 q2 => ⟨fun i hi => by
    rw [gi_si_if]
    by_cases z : i = p
    · rw [if_pos (by omega), if_pos z]
    · rw [if_neg (by omega), if_neg z]
      exact q1 i hi, fun i hi => by rw [gi_si_if, if_neg (by omega)]; exact q2 i hi⟩)
  refine ⟨A, a1, fun c hc hcv => a2 c ⟨fun x i q1 q2 q3 => hc x i q1 q2 (by omega) (by omega), fun i hi => ?_, fun i hi => hc 101 i (by omega) (by omega) (by omega) (by omega)⟩, a3⟩
  show gi c 96 i = if i = p then v else gi c0 96 i
  by_cases z : i = p
  · rw [if_pos z, z]; exact hcv
  · rw [if_neg z]; exact hc 96 i (by omega) (by omega) (by omega) (by omega)
theorem c_setW (N : Nat) (d : DY) (L W x y : Nat) (a b : Int32) (L16 : L ≤ 16) (W6 : W ≤ 6) (g0 : gi d 95 0 = iz L) (g1 : gi d 95 1 = iz W) (hx : x < L) (hy : y < W) (hb : b = 0 ∨ b = 1) (hu : gi d 96 (6 * x + y) = b) (hne : ¬ b = a) : F_X4_setWall Z0.1 N 95 (iz x) (iz y) a d = some (si (si d 96 (6 * x + y) a) 95 2 (gi d 95 2 + (if a = 0 then -1 else 1))) := by
  have e : iz (x : Int) * (6 : Int32) + iz (y : Int) = iz ((6 * x + y : Nat) : Int) := by
    rw [l_6, iz_mul, iz_add]
    exact congrArg iz (by omega)
  have i96 : ib (iz ((6 * x + y : Nat) : Int)) 96 := iz_ib (by omega)
  have hn : nr 3 b = b := by
    rcases hb with z | z
    · rw [z]; decide
    · rw [z]; decide
  have hi := c_inside N d 95 L W x y L16 W6 g0 g1 (by omega) (by omega) (by omega) (by omega)
  rw [if_pos (by omega)] at hi
  rw [F_X4_setWall_s]
  refine bnd hi ?_
  show (if (1 : Int32) = 0 then _ else _) = _
  rw [if_neg (by decide), e, if_pos i96, cv_g1 cvg_try, tnn _ (6 * x + y) rfl (by omega), show (95 + 1 : Nat) = 96 from rfl, hu, hn, if_neg hne, if_pos i96, bd_eq, F_X4_setWall_50_s, F_X4_setWall_50_s, bd_eq, bd_eq]
  have g2 : gi (si d 96 (6 * x + y) a) 95 2 = gi d 95 2 := by rw [gi_si_if, if_neg (by omega)]
  rw [g2]
  by_cases z : a = 0
  · rw [if_pos z, if_pos z]
  · rw [if_neg z, if_neg z]
/-- what the class's search rests on -/
def GRD (c : DY) (L W n : Nat) : Prop := (L ≤ 16 ∧ W ≤ 6 ∧ n ≤ 12) ∧ (gi c 95 0 = iz L ∧ gi c 95 1 = iz W ∧ gi c 95 3 = iz n) ∧ ∀ i : Nat, i < 96 → gi c 96 i = 0 ∨ gi c 96 i = 1
theorem GRD_same {a b : DY} {L W n : Nat} (h : GRD a L W n) (k : sameC a b) : GRD b L W n := by
  obtain ⟨h1, h2, h3⟩ := h
  refine ⟨h1, ?_, fun i hi => ?_⟩
  · rw [k 95 0 (by omega) (by omega), k 95 1 (by omega) (by omega), k 95 3 (by omega) (by omega)]; exact h2
  · rw [k 96 i (by omega) (by omega)]; exact h3 i hi
theorem GRD_of {c m : DY} {k j L W n : Nat} {ι : Nat → Nat} {M : Nat} (h : PREP (mixD c m) k j ι L W n M) : GRD c L W n := by
  obtain ⟨⟨⟨k1, k2, k3, _⟩, ⟨g0, _⟩, ⟨g1, _⟩, ⟨g3, _⟩, hw, _⟩, _⟩ := h
  rw [mix_c _ _ _ _ (by omega)] at g0 g1 g3
  refine ⟨⟨k1, k2, k3⟩, ⟨g0, g1, g3⟩, fun i hi => ?_⟩
  have := (hw i hi).2
  rw [mix_c _ _ _ _ (by omega)] at this
  exact this
theorem c_115 {L W n : Nat} (N n0 : Nat) (seed cl : Int32) (c0 c : DY) (K : Nat → Int32 → Int32 → Int32 → Int32 → Int32 → Int32 → Int32 → DY → Option (Int32 × DY)) (hG : GRD c0 L W n) (hcl : cl = 0 ∨ cl = 1) (x y A : Nat) (s : Nat × Int32) (hx : x < L) (hy : y < W) (hs : s.1 ≤ n) (hne : gi c0 96 (6 * x + y) ≠ cl) (hA : A ≤ n) (hsp : ∀ c : DY, sameW (6 * x + y) c0 c → gi c 96 (6 * x + y) = cl → ∃ c' : DY, F_X9_arrivals Z0.1 N 1 seed (iz n0) c = some (iz A, c') ∧ frT1 c c') (hc : sameC c0 c) : ∃ c' : DY, F_X9_bestChange_115 Z0.1 N K 1 seed (iz n0) cl (iz s.1) s.2 (iz x) (iz y) c = K 1 seed (iz n0) cl (iz (bstep 1 A (iz ((100 * x + y : Nat) : Int)) s).1) (bstep 1 A (iz ((100 * x + y : Nat) : Int)) s).2 (iz x) (iz ((y + 1 : Nat) : Int)) c' ∧ sameC c0 c' ∧ gfr c c' := by
  obtain ⟨⟨L16, W6, n12⟩, ⟨g0, g1, g3⟩, hw⟩ := GRD_same hG hc
  have hu : gi c 96 (6 * x + y) = gi c0 96 (6 * x + y) := hc _ _ (by omega) (by omega)
  have h01 := hw (6 * x + y) (by omega)
  have st := c_setW N c L W x y cl _ L16 W6 g0 g1 hx hy h01 rfl (by rw [hu]; exact hne)
  obtain ⟨c1, hc1⟩ : ∃ c1 : DY, c1 = si (si c 96 (6 * x + y) cl) 95 2 (gi c 95 2 + (if cl = 0 then -1 else 1)) := ⟨_, rfl⟩
  rw [← hc1] at st
  have o1 : ∀ a i : Nat, ¬ (a = 96 ∧ i = 6 * x + y) → ¬ (a = 95 ∧ i = 2) → gi c1 a i = gi c a i := fun a i q1 q2 => by
    rw [hc1, gi_si_if, if_neg q2, gi_si_if, if_neg q1]
  have v96 : gi c1 96 (6 * x + y) = cl := by
    rw [hc1, gi_si_if, if_neg (by omega), gi_si_if, if_pos ⟨rfl, rfl⟩]
  have v95 : gi c1 95 2 = gi c 95 2 + (if cl = 0 then -1 else 1) := by
    rw [hc1, gi_si_if, if_pos ⟨rfl, rfl⟩]
  obtain ⟨c2, b1, b2⟩ := hsp c1 (fun a i q1 q2 q3 q4 => (o1 a i q3 q4).trans (hc a i q1 q2)) v96
  have w96 : gi c2 96 (6 * x + y) = cl := (b2.1 _ _ (by omega)).trans v96
  obtain ⟨u, hu0, hu1, hu2⟩ : ∃ u : Int32, (if cl = 0 then (1 : Int32) else 0) = u ∧ gi c 96 (6 * x + y) = u ∧ ((if cl = 0 then (-1 : Int32) else 1) + (if u = 0 then (-1 : Int32) else 1) = 0) := by
    rcases hcl with z | z
    · refine ⟨1, by rw [if_pos z], ?_, by rw [if_pos z]; decide⟩
      rcases h01 with y | y
      · exact absurd (hu.symm.trans y) (by rw [← z]; exact hne)
      · exact y
    · refine ⟨0, by rw [z]; decide, ?_, by rw [z]; decide⟩
      rcases h01 with y | y
      · exact y
      · exact absurd (hu.symm.trans y) (by rw [← z]; exact hne)
  have hune : ¬ cl = u := fun z => hne (hu.symm.trans (hu1.trans z.symm))
  have st2 := c_setW N c2 L W x y u cl L16 W6 (by rw [b2.1 _ _ (by omega), o1 _ _ (by omega) (by omega), g0]) (by rw [b2.1 _ _ (by omega), o1 _ _ (by omega) (by omega), g1]) hx hy hcl w96 hune
  obtain ⟨c3, hc3⟩ : ∃ c3 : DY, c3 = si (si c2 96 (6 * x + y) u) 95 2 (gi c2 95 2 + (if u = 0 then -1 else 1)) := ⟨_, rfl⟩
  rw [← hc3] at st2
  have o3 : ∀ a i : Nat, a < 112 ∨ 123 < a → gi c3 a i = gi c a i := fun a i ha => by
    by_cases q1 : a = 95 ∧ i = 2
    · rw [q1.1, q1.2, hc3, gi_si_if, if_pos ⟨rfl, rfl⟩, b2.1 95 2 (by omega), v95, Int32.add_assoc, hu2]
      exact Int32.add_zero _
    · by_cases q2 : a = 96 ∧ i = 6 * x + y
      · rw [q2.1, q2.2, hc3, gi_si_if, if_neg (by omega), gi_si_if, if_pos ⟨rfl, rfl⟩, hu1]
      · rw [hc3, gi_si_if, if_neg q1, gi_si_if, if_neg q2, b2.1 a i ha, o1 a i q2 q1]
  refine ⟨c3, ?_, fun a i q1 q2 => (o3 a i (by omega)).trans (hc a i q1 q2), fun a i q => o3 a i (by omega)⟩
  have K1 : ∀ v : Int32, v = u → F_X9_bestChange_152 Z0.1 N K 1 seed (iz n0) cl (iz s.1) s.2 (iz x) (iz y) (iz A) 95 (iz x) (iz y) v c2 = K 1 seed (iz n0) cl (iz (bstep 1 A (iz ((100 * x + y : Nat) : Int)) s).1) (bstep 1 A (iz ((100 * x + y : Nat) : Int)) s).2 (iz x) (iz ((y + 1 : Nat) : Int)) c3 := fun v hv => by
    rw [hv, F_X9_bestChange_152_s]
    refine bnd st2 ?_
    rw [show iz (y : Int) + (1 : Int32) = iz ((y + 1 : Nat) : Int) from iz_add y 1, show (100 : Int32) * iz (x : Int) + iz (y : Int) = iz ((100 * x + y : Nat) : Int) from by rw [show (100 : Int32) = iz 100 from rfl, iz_mul, iz_add]; exact congrArg iz (by omega)]
    rw [bstep_1]
    by_cases z : s.1 < A
    · rw [if_neg (show ¬ iz (A : Int) ≤ iz (s.1 : Int) from iz_nle (by omega)), if_pos z]
    · rw [if_pos (show iz (A : Int) ≤ iz (s.1 : Int) from iz_lei (by omega)), if_neg z]
  rw [F_X9_bestChange_115_s, r_1_4]
  refine bnd st (bnd b1 ?_)
  rcases hcl with z | z
  · show (if cl = 0 then _ else _) = _
    rw [if_pos z]
    exact K1 1 (by rw [← hu0, if_pos z])
  · show (if cl = 0 then _ else _) = _
    rw [if_neg (by rw [z]; decide)]
    exact K1 0 (by rw [← hu0, z]; decide)
/-- a square that counts: free at first (for a wall more), a wall (for one less) -/
def cdC (c0 : DY) (n : Nat) (cl : Int32) (x y : Nat) : Int32 := if cl = 0 then gi c0 96 (6 * x + y) else if tkU (gi c0 97) (gi c0 98) (iz x) (iz y) (gi c0 96 (6 * x + y)) n 0 = 0 then 1 else 0
theorem cdC_01 {c0 : DY} {L W n : Nat} (hG : GRD c0 L W n) (cl : Int32) (x y : Nat) (hx : x < L) (hy : y < W) : cdC c0 n cl x y = 0 ∨ cdC c0 n cl x y = 1 := by
  have := hG.2.2 (6 * x + y) (by have := hG.1; omega)
  unfold cdC
  by_cases z : cl = 0
  · rw [if_pos z]; exact this
  · rw [if_neg z]
    by_cases y : tkU (gi c0 97) (gi c0 98) (iz x) (iz y) (gi c0 96 (6 * x + y)) n 0 = 0
    · rw [if_pos y]; exact Or.inr rfl
    · rw [if_neg y]; exact Or.inl rfl
theorem c_41 {L W n : Nat} (N n0 : Nat) (seed cl : Int32) (c0 : DY) (K : Nat → Int32 → Int32 → Int32 → Int32 → Int32 → Int32 → DY → Option (Int32 × DY)) (hN : 900 ≤ N) (hG : GRD c0 L W n) (hcl : cl = 0 ∨ cl = 1) (A : Nat → Nat → Nat) (hsp : ∀ x y : Nat, x < L → y < W → cdC c0 n cl x y ≠ 0 → A x y ≤ n ∧ ∀ c : DY, sameW (6 * x + y) c0 c → gi c 96 (6 * x + y) = cl → ∃ c' : DY, F_X9_arrivals Z0.1 N 1 seed (iz n0) c = some (iz (A x y), c') ∧ frT1 c c') (x : Nat) (hx : x < L) : ∀ (q y k : Nat) (s : Nat × Int32) (c : DY), y + q = W → q < k → s.1 ≤ n → sameC c0 c → ∃ c' : DY, F_X9_bestChange_41 Z0.1 N K k 1 seed (iz n0) cl (iz s.1) s.2 (iz x) (iz y) c = K 1 seed (iz n0) cl (iz (bY (cdC c0 n cl) A x q y s).1) (bY (cdC c0 n cl) A x q y s).2 (iz ((x + 1 : Nat) : Int)) c' ∧ sameC c0 c' ∧ gfr c c' := by
  have x1 : iz (x : Int) + (1 : Int32) = iz ((x + 1 : Nat) : Int) := iz_add x 1
  intro q
  induction q with
  | zero =>
    intro y k s c hq hk hs hc
    obtain ⟨k, rfl⟩ : ∃ j, k = j + 1 := ⟨k - 1, by omega⟩
    obtain rfl : y = W := by omega
    obtain ⟨_, ⟨g0, g1, g3⟩, _⟩ := GRD_same hG hc
    refine ⟨c, ?_, hc, gfr_re _⟩
    rw [F_X9_bestChange_41_s, r_1_4, g1, if_pos (Int32.le_refl _), x1]
    rfl
  | succ q ih =>
    intro y k s c hq hk hs hc
    obtain ⟨k, rfl⟩ : ∃ j, k = j + 1 := ⟨k - 1, by omega⟩
    obtain ⟨⟨L16, W6, n12⟩, ⟨g0, g1, g3⟩, hw⟩ := GRD_same hG hc
    have y1 : iz (y : Int) + (1 : Int32) = iz ((y + 1 : Nat) : Int) := iz_add y 1
    have hyW : y < W := by omega
    by_cases full : n ≤ s.1
    · refine ⟨c, ?_, hc, gfr_re _⟩
      rw [F_X9_bestChange_41_s, r_1_4, g1, g3, if_neg (show ¬ iz (W : Int) ≤ iz (y : Int) from iz_nle (by omega)), if_pos (show iz (n : Int) ≤ iz (s.1 : Int) from iz_lei (by omega)), x1, bY_full (n := n) (q + 1) y s (fun i hi hc => (hsp x i hx (by omega) hc).1) full]
    · have tk := c_taken N c L W n x y L16 W6 n12 g0 g1 g3 hw hx hyW n 0 N (by omega) (by omega)
      have f97 : gi c 97 = gi c0 97 := funext fun i => hc 97 i (by omega) (by omega)
      have f98 : gi c 98 = gi c0 98 := funext fun i => hc 98 i (by omega) (by omega)
      have f96 : gi c 96 (6 * x + y) = gi c0 96 (6 * x + y) := hc 96 _ (by omega) (by omega)
      rw [f97, f98, f96] at tk
      have hwl := (c_wallG N c 95 L W x y (by decide) L16 W6 g0 g1 hw (by omega) (by omega) (by omega) (by omega)).2 (by unfold inS; omega)
      rw [show (6 * (x : Int) + (y : Int)).toNat = 6 * x + y by omega, show (95 + 1 : Nat) = 96 from rfl, f96] at hwl
      have b01 := hG.2.2 (6 * x + y) (by omega)
      have st : ∀ R, (if tkU (gi c0 97) (gi c0 98) (iz x) (iz y) (gi c0 96 (6 * x + y)) n 0 = 0 then (F_X9_bestChange_84 Z0.1 N (F_X9_bestChange_41 Z0.1 N K k)) 1 seed (iz n0) cl (iz s.1) s.2 (iz x) (iz y) (1 : Int32) c else (F_X9_bestChange_84 Z0.1 N (F_X9_bestChange_41 Z0.1 N K k)) 1 seed (iz n0) cl (iz s.1) s.2 (iz x) (iz y) (0 : Int32) c) = R → F_X9_bestChange_41 Z0.1 N K (k + 1) 1 seed (iz n0) cl (iz s.1) s.2 (iz x) (iz y) c = R := fun R hR => by
        rw [F_X9_bestChange_41_s, r_1_4, g1, g3, if_neg (show ¬ iz (W : Int) ≤ iz (y : Int) from iz_nle (by omega)), if_neg (show ¬ iz (n : Int) ≤ iz (s.1 : Int) from iz_nle (by omega))]
        refine bnd (by rw [F_X4_isTaken_s]; exact tk) hR
      have two : (cdC c0 n cl x y = 0 ∧ F_X9_bestChange_41 Z0.1 N K (k + 1) 1 seed (iz n0) cl (iz s.1) s.2 (iz x) (iz y) c = F_X9_bestChange_41 Z0.1 N K k 1 seed (iz n0) cl (iz s.1) s.2 (iz x) (iz ((y + 1 : Nat) : Int)) c) ∨ (cdC c0 n cl x y ≠ 0 ∧ gi c0 96 (6 * x + y) ≠ cl ∧ F_X9_bestChange_41 Z0.1 N K (k + 1) 1 seed (iz n0) cl (iz s.1) s.2 (iz x) (iz y) c = F_X9_bestChange_115 Z0.1 N (F_X9_bestChange_41 Z0.1 N K k) 1 seed (iz n0) cl (iz s.1) s.2 (iz x) (iz y) c) := by
        unfold cdC
        rcases hcl with z | z
        · rw [if_pos z]
          have w84 : ∀ y0 : Int32, F_X9_bestChange_84 Z0.1 N (F_X9_bestChange_41 Z0.1 N K k) 1 seed (iz n0) cl (iz s.1) s.2 (iz x) (iz y) y0 c = if gi c0 96 (6 * x + y) = 0 then F_X9_bestChange_41 Z0.1 N K k 1 seed (iz n0) cl (iz s.1) s.2 (iz x) (iz ((y + 1 : Nat) : Int)) c else F_X9_bestChange_115 Z0.1 N (F_X9_bestChange_41 Z0.1 N K k) 1 seed (iz n0) cl (iz s.1) s.2 (iz x) (iz y) c := fun y0 => by
            rw [F_X9_bestChange_84_s, if_pos z, r_1_4, y1]
            exact bnd hwl rfl
          by_cases w : gi c0 96 (6 * x + y) = 0
          · refine Or.inl ⟨w, st _ ?_⟩
            rw [w84, w84, if_pos w]
            by_cases t : tkU (gi c0 97) (gi c0 98) (iz x) (iz y) (gi c0 96 (6 * x + y)) n 0 = 0
            · rw [if_pos t]
            · rw [if_neg t]
          · refine Or.inr ⟨w, by rw [z]; exact w, st _ ?_⟩
            rw [w84, w84, if_neg w]
            by_cases t : tkU (gi c0 97) (gi c0 98) (iz x) (iz y) (gi c0 96 (6 * x + y)) n 0 = 0
            · rw [if_pos t]
            · rw [if_neg t]
        · have cl0 : ¬ cl = 0 := by rw [z]; decide
          rw [if_neg cl0]
          by_cases t : tkU (gi c0 97) (gi c0 98) (iz x) (iz y) (gi c0 96 (6 * x + y)) n 0 = 0
          · refine Or.inr ⟨by rw [if_pos t]; decide, fun w => ?_, st _ ?_⟩
            · rw [w, z, (tkU_b _ _ _ _ n 0).1] at t
              exact absurd t (by decide)
            · rw [if_pos t, F_X9_bestChange_84_s, if_neg cl0, if_neg (by decide)]
          · refine Or.inl ⟨by rw [if_neg t], st _ ?_⟩
            rw [if_neg t, F_X9_bestChange_84_s, if_neg cl0, if_pos rfl, y1]
      rw [bY_s]
      rcases two with ⟨z, e⟩ | ⟨z, z2, e⟩
      · obtain ⟨c', u1, u2, u3⟩ := ih (y + 1) k s c (by omega) (by omega) hs hc
        rw [show bstep (cdC c0 n cl x y) (A x y) (iz ((100 * x + y : Nat) : Int)) s = s from if_pos z]
        exact ⟨c', e.trans u1, u2, u3⟩
      · obtain ⟨a1, a2⟩ := hsp x y hx hyW z
        obtain ⟨c1, b1, b2, b3⟩ := c_115 N n0 seed cl c0 c (F_X9_bestChange_41 Z0.1 N K k) hG hcl x y (A x y) s hx hyW hs z2 a1 a2 hc
        have one : cdC c0 n cl x y = 1 := (cdC_01 hG cl x y hx hyW).resolve_left z
        rw [one]
        obtain ⟨c', u1, u2, u3⟩ := ih (y + 1) k (bstep 1 (A x y) (iz ((100 * x + y : Nat) : Int)) s) c1 (by omega) (by omega) (bstep_le (fun _ => a1) hs) b2
        exact ⟨c', e.trans (b1.trans u1), u2, gfr_tr b3 u3⟩
theorem c_14 {L W n : Nat} (N n0 : Nat) (seed cl : Int32) (c0 : DY) (hN : 900 ≤ N) (hG : GRD c0 L W n) (hcl : cl = 0 ∨ cl = 1) (A : Nat → Nat → Nat) (hsp : ∀ x y : Nat, x < L → y < W → cdC c0 n cl x y ≠ 0 → A x y ≤ n ∧ ∀ c : DY, sameW (6 * x + y) c0 c → gi c 96 (6 * x + y) = cl → ∃ c' : DY, F_X9_arrivals Z0.1 N 1 seed (iz n0) c = some (iz (A x y), c') ∧ frT1 c c') : ∀ (p x k : Nat) (s : Nat × Int32) (c : DY), x + p = L → p < k → s.1 ≤ n → sameC c0 c → ∃ c' : DY, F_X9_bestChange_14 Z0.1 N k 1 seed (iz n0) cl (iz s.1) s.2 (iz x) c = some ((bX (cdC c0 n cl) A W p x s).2, c') ∧ gfr c c' := by
  intro p
  induction p with
  | zero =>
    intro x k s c hq hk hs hc
    obtain ⟨k, rfl⟩ : ∃ j, k = j + 1 := ⟨k - 1, by omega⟩
    obtain rfl : x = L := by omega
    obtain ⟨_, ⟨g0, g1, g3⟩, _⟩ := GRD_same hG hc
    refine ⟨c, ?_, gfr_re _⟩
    rw [F_X9_bestChange_14_s, r_1_4, g0, if_pos (Int32.le_refl _)]
    rfl
  | succ p ih =>
    intro x k s c hq hk hs hc
    obtain ⟨k, rfl⟩ : ∃ j, k = j + 1 := ⟨k - 1, by omega⟩
    obtain ⟨⟨L16, W6, n12⟩, ⟨g0, g1, g3⟩, hw⟩ := GRD_same hG hc
    by_cases full : n ≤ s.1
    · refine ⟨c, ?_, gfr_re _⟩
      rw [F_X9_bestChange_14_s, r_1_4, g0, g3, if_neg (show ¬ iz (L : Int) ≤ iz (x : Int) from iz_nle (by omega)), if_pos (show iz (n : Int) ≤ iz (s.1 : Int) from iz_lei (by omega)), bX_full (n := n) (p + 1) x s (fun i j hi hj hc => (hsp i j (by omega) hj hc).1) full]
    · obtain ⟨c1, b1, b2, b3⟩ := c_41 N n0 seed cl c0 (F_X9_bestChange_14 Z0.1 N k) hN hG hcl A hsp x (by omega) W 0 N s c (by omega) (by omega) hs hc
      obtain ⟨c', u1, u2⟩ := ih (x + 1) k (bY (cdC c0 n cl) A x W 0 s) c1 (by omega) (by omega) (bY_le W 0 s (fun i hi hc => (hsp x i (by omega) (by omega) hc).1) hs) b2
      refine ⟨c', ?_, gfr_tr b3 u2⟩
      rw [F_X9_bestChange_14_s, r_1_4, g0, g3, if_neg (show ¬ iz (L : Int) ≤ iz (x : Int) from iz_nle (by omega)), if_neg (show ¬ iz (n : Int) ≤ iz (s.1 : Int) from iz_nle (by omega))]
      exact b1.trans u1
