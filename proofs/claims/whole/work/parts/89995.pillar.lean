/-! pillar, opened -/
theorem iz_div6 (i : Nat) (h : i < 96) : iz (i : Int) / (6 : Int32) = iz ((i / 6 : Nat) : Int) := by
  have : ∀ i : Fin 96, iz ((i.1 : Nat) : Int) / (6 : Int32) = iz ((i.1 / 6 : Nat) : Int) := by decide +kernel
  exact this ⟨i, h⟩
theorem m_freeF {c0 m0 m : DY} {k j L W n : Nat} (N : Nat) (hN : 900 ≤ N) (k3 : k < 3) (hP : PREP (mixD c0 m0) k j id L W n n) (hm : sameM m0 m) (x y : Nat) (hx : x < L) (hy : y < W) : F_X10_isFreeAtFirst Z0.1 N 510 (iz k) (iz x) (iz y) m = some (cdC c0 n 1 x y, m) := by
  obtain ⟨⟨⟨L16, W6, n12, _⟩, _, _, ⟨_, m518⟩, hw, _, kw⟩, _⟩ := id hP
  rw [mix_m _ _ _ _ (by omega)] at m518
  have e : (96 : Int32) * iz (k : Int) + (6 : Int32) * iz (x : Int) + iz (y : Int) = iz ((96 * k + (6 * x + y) : Nat) : Int) := by
    rw [show (96 : Int32) = iz 96 from rfl, l_6, iz_mul, iz_mul, iz_add, iz_add]
    exact congrArg iz (by omega)
  have g18 : gi m 518 k = iz n := (hm 518 k (by omega) (by omega)).trans m518
  have f := m_free29 N m k n x y k3 n12 g18 n 0 N
  have f1 := f 1 (by omega) (by omega) (Or.inr rfl)
  have f0 := f 0 (by omega) (by omega) (Or.inl rfl)
  rw [if_neg (show ¬ (1 : Int32) = 0 by decide)] at f1
  rw [if_pos rfl] at f0
  obtain ⟨w1, w2⟩ := hw (6 * x + y) (by omega)
  rw [mix_c _ _ _ _ (by omega)] at w1 w2
  rw [mix_m _ _ _ _ (by omega)] at w1
  have tk : ∀ b : Int32, tkU (fun i => gi m 521 (8 * (12 * k + i))) (fun i => gi m 521 (8 * (12 * k + i) + 1)) (iz x) (iz y) b n 0 = tkU (gi c0 97) (gi c0 98) (iz x) (iz y) b n 0 := fun b => tkU_same _ _ _ _ _ _ _ n 0 (fun i hi => by
    obtain ⟨⟨p, _, p1, p2⟩, ⟨r, _, r1, r2⟩, _⟩ := kw i (by omega)
    rw [mix_c _ _ _ _ (by omega)] at p1 r1
    rw [mix_m _ _ _ _ (by omega)] at p2 r2
    exact ⟨(hm 521 _ (by omega) (by omega)).trans (p2.trans p1.symm), (hm 521 _ (by omega) (by omega)).trans (r2.trans r1.symm)⟩)
  rw [F_X10_isFreeAtFirst_s, e, if_pos (show ib (iz ((96 * k + (6 * x + y) : Nat) : Int)) 1152 from iz_ib (by omega)), r_510_10, tnn _ (96 * k + (6 * x + y)) rfl (by omega), hm 520 _ (by omega) (by omega), ← w1]
  rw [show F_X10_isFreeAtFirst_29 Z0.1 N N 510 (iz k) (iz x) (iz y) 1 0 m = _ from f1, show F_X10_isFreeAtFirst_29 Z0.1 N N 510 (iz k) (iz x) (iz y) 0 0 m = _ from f0, tk]
  unfold cdC
  rw [if_neg (show ¬ (1 : Int32) = 0 by decide)]
  have w1' : gi c0 (95 + 1) (6 * x + y) = gi c0 96 (6 * x + y) := rfl
  rw [w1'] at w2 ⊢
  rcases w2 with z | z
  · rw [if_pos z, z]
  · rw [if_neg (by rw [z]; decide), z, (tkU_b _ _ _ _ n 0).1, if_neg (by decide)]
theorem m_67 {c0 m0 : DY} {k j L W n : Nat} (N n0 : Nat) (seed : Int32) (K : Nat → Int32 → Int32 → Int32 → Int32 → Int32 → Int32 → Int32 → DY → Option (Int32 × DY)) (hN : 900 ≤ N) (k3 : k < 3) (hP : PREP (mixD c0 m0) k j id L W n n) (A : Nat → Nat → Nat) (hsp : ∀ x y : Nat, x < L → y < W → cdC c0 n 1 x y ≠ 0 → A x y ≤ n ∧ ∀ m : DY, sameM m0 m → ∃ m1 m' : DY, F_X10_lay Z0.1 N 510 4 (iz k) (iz j) seed 12 (-1) m = some m1 ∧ F_X10_tryOn Z0.1 N 510 (iz n0) (si m1 531 (720 * 4 + 256 + (6 * x + y)) 1) = some m' ∧ gi m' 531 2886 = iz (A x y) ∧ frT2 m m') (x : Nat) (hx : x < L) : ∀ (q y f : Nat) (s : Nat × Int32) (m : DY), y + q = W → q < f → s.1 ≤ n → sameM m0 m → ∃ m' : DY, F_X10_pillar_67 Z0.1 N K f 510 (iz k) (iz j) seed (iz n0) (iz s.1) s.2 (iz x) (iz y) m = K 510 (iz k) (iz j) seed (iz n0) (iz (bY (cdC c0 n 1) A x q y s).1) (bY (cdC c0 n 1) A x q y s).2 (iz ((x + 1 : Nat) : Int)) m' ∧ rfr m m' := by
  have hG := GRD_of hP
  obtain ⟨⟨⟨L16, W6, n12, _⟩, _, ⟨_, m517⟩, _⟩, _⟩ := id hP
  rw [mix_m _ _ _ _ (by omega)] at m517
  have i12 : ib (iz (k : Int)) 12 := iz_ib (by omega)
  have x1 : iz (x : Int) + (1 : Int32) = iz ((x + 1 : Nat) : Int) := iz_add x 1
  intro q
  induction q with
  | zero =>
    intro y f s m hq hk hs hm
    obtain ⟨f, rfl⟩ : ∃ j, f = j + 1 := ⟨f - 1, by omega⟩
    obtain rfl : y = W := by omega
    refine ⟨m, ?_, rfr_re _⟩
    rw [F_X10_pillar_67_s, if_pos i12, r_510_7, tnn _ k rfl (by omega), hm 517 k (by omega) (by omega), m517, if_pos (Int32.le_refl _), x1]
    rfl
  | succ q ih =>
    intro y f s m hq hk hs hm
    obtain ⟨f, rfl⟩ : ∃ j, f = j + 1 := ⟨f - 1, by omega⟩
    have y1 : iz (y : Int) + (1 : Int32) = iz ((y + 1 : Nat) : Int) := iz_add y 1
    have fr := m_freeF N hN k3 hP hm x y hx (by omega)
    rw [bY_s]
    rcases cdC_01 hG 1 x y hx (by omega) with z | z
    · obtain ⟨m', u1, u2⟩ := ih (y + 1) f s m (by omega) (by omega) hs hm
      refine ⟨m', ?_, u2⟩
      rw [show bstep (cdC c0 n 1 x y) (A x y) (iz ((100 * x + y : Nat) : Int)) s = s from if_pos z, F_X10_pillar_67_s, if_pos i12, r_510_7, tnn _ k rfl (by omega), hm 517 k (by omega) (by omega), m517, if_neg (show ¬ iz (W : Int) ≤ iz (y : Int) from iz_nle (by omega)), y1]
      refine bnd fr ?_
      exact (if_pos z).trans u1
    · have nq0 : ¬ cdC c0 n 1 x y = 0 := by rw [z]; decide
      obtain ⟨a1, a2⟩ := hsp x y hx (by omega) nq0
      obtain ⟨m1, m2, b1, b2, b3, b4⟩ := a2 m hm
      obtain ⟨m', u1, u2⟩ := ih (y + 1) f (bstep (cdC c0 n 1 x y) (A x y) (iz ((100 * x + y : Nat) : Int)) s) m2 (by omega) (by omega) (bstep_le (fun _ => a1) hs) (sameM_tr hm b4)
      refine ⟨m', ?_, rfr_tr (rfr_of b4) u2⟩
      rw [← u1, z, bstep_1]
      have e : (3136 : Int32) + (6 : Int32) * iz (x : Int) + iz (y : Int) = iz ((720 * 4 + 256 + (6 * x + y) : Nat) : Int) := by
        rw [show (3136 : Int32) = iz 3136 from rfl, l_6, iz_mul, iz_add, iz_add]
        exact congrArg iz (by omega)
      have e2 : (100 : Int32) * iz (x : Int) + iz (y : Int) = iz ((100 * x + y : Nat) : Int) := by
        rw [show (100 : Int32) = iz 100 from rfl, iz_mul, iz_add]
        exact congrArg iz (by omega)
      rw [F_X10_pillar_67_s, if_pos i12, r_510_7, tnn _ k rfl (by omega), hm 517 k (by omega) (by omega), m517, if_neg (show ¬ iz (W : Int) ≤ iz (y : Int) from iz_nle (by omega)), y1]
      refine bnd fr ((if_neg nq0).trans (bnd b1 ?_))
      rw [e, if_pos (ibr _ (by omega)), bd_eq, r_510_39, tnn _ (720 * 4 + 256 + (6 * x + y)) rfl (by omega)]
      refine bnd b2 ?_
      have i2886 : ib (2886 : Int32) 10080 := by decide
      rw [if_pos i2886, show (2886 : Int32).toNatClampNeg = 2886 from rfl, b3, e2]
      by_cases w : s.1 < A x y
      · rw [if_neg (show ¬ iz (A x y : Int) ≤ iz (s.1 : Int) from iz_nle (by omega)), if_pos i2886, if_pos w]
      · rw [if_pos (show iz (A x y : Int) ≤ iz (s.1 : Int) from iz_lei (by omega)), if_neg w]
theorem m_53 {c0 m0 : DY} {k j L W n : Nat} (N n0 : Nat) (seed : Int32) (hN : 900 ≤ N) (k3 : k < 3) (hP : PREP (mixD c0 m0) k j id L W n n) (A : Nat → Nat → Nat) (hsp : ∀ x y : Nat, x < L → y < W → cdC c0 n 1 x y ≠ 0 → A x y ≤ n ∧ ∀ m : DY, sameM m0 m → ∃ m1 m' : DY, F_X10_lay Z0.1 N 510 4 (iz k) (iz j) seed 12 (-1) m = some m1 ∧ F_X10_tryOn Z0.1 N 510 (iz n0) (si m1 531 (720 * 4 + 256 + (6 * x + y)) 1) = some m' ∧ gi m' 531 2886 = iz (A x y) ∧ frT2 m m') : ∀ (p x f : Nat) (s : Nat × Int32) (m : DY), x + p = L → p < f → s.1 ≤ n → sameM m0 m → ∃ m' : DY, F_X10_pillar_53 Z0.1 N f 510 (iz k) (iz j) seed (iz n0) (iz s.1) s.2 (iz x) m = some ((bX (cdC c0 n 1) A W p x s).2, m') ∧ rfr m m' := by
  obtain ⟨⟨⟨L16, W6, n12, _⟩, ⟨_, m516⟩, _⟩, _⟩ := id hP
  rw [mix_m _ _ _ _ (by omega)] at m516
  have i12 : ib (iz (k : Int)) 12 := iz_ib (by omega)
  intro p
  induction p with
  | zero =>
    intro x f s m hq hk hs hm
    obtain ⟨f, rfl⟩ : ∃ j, f = j + 1 := ⟨f - 1, by omega⟩
    obtain rfl : x = L := by omega
    refine ⟨m, ?_, rfr_re _⟩
    rw [F_X10_pillar_53_s, if_pos i12, r_510_6, tnn _ k rfl (by omega), hm 516 k (by omega) (by omega), m516, if_pos (Int32.le_refl _)]
    rfl
  | succ p ih =>
    intro x f s m hq hk hs hm
    obtain ⟨f, rfl⟩ : ∃ j, f = j + 1 := ⟨f - 1, by omega⟩
    obtain ⟨m1, b1, b2⟩ := m_67 N n0 seed (F_X10_pillar_53 Z0.1 N f) hN k3 hP A hsp x (by omega) W 0 N s m (by omega) (by omega) hs hm
    obtain ⟨m', u1, u2⟩ := ih (x + 1) f (bY (cdC c0 n 1) A x W 0 s) m1 (by omega) (by omega) (bY_le W 0 s (fun i hi hc => (hsp x i (by omega) (by omega) hc).1) hs) (sameM_rfr hm b2)
    refine ⟨m', ?_, rfr_tr b2 u2⟩
    rw [F_X10_pillar_53_s, if_pos i12, r_510_6, tnn _ k rfl (by omega), hm 516 k (by omega) (by omega), m516, if_neg (show ¬ iz (L : Int) ≤ iz (x : Int) from iz_nle (by omega))]
    exact b1.trans u1
theorem ex_fun2 {P : Nat → Nat → Nat → Prop} (Q : Nat → Nat → Prop) (h : ∀ x y : Nat, Q x y → ∃ A : Nat, P x y A) : ∃ A : Nat → Nat → Nat, ∀ x y : Nat, Q x y → P x y (A x y) := by
  have h' : ∀ x : Nat, ∃ A : Nat → Nat, ∀ y : Nat, Q x y → P x y (A y) := fun x => ex_fun (Q x) (h x)
  obtain ⟨A, hA⟩ := Classical.axiomOfChoice h'
  exact ⟨A, hA⟩
/-- the class's search, whole -/
theorem c_bestC {k j L W n : Nat} (N n0 : Nat) (seed cl : Int32) (c0 m0 : DY) (hN : 900 ≤ N) (h2 : n0 ≤ 200) (k3 : k < 3) (j3 : j < 3) (hP : PREP (mixD c0 m0) k j id L W n n) (hcl : cl = 0 ∨ cl = 1) : ∃ (A0 : Nat) (A : Nat → Nat → Nat), A0 ≤ n ∧ (∃ c' : DY, F_X9_bestChange Z0.1 N 1 seed (iz n0) cl c0 = some ((bX (cdC c0 n cl) A W L 0 (A0, -1)).2, c') ∧ gfr c0 c') ∧ (∀ m : DY, sameM m0 m → ∃ m1 m' : DY, F_X10_lay Z0.1 N 510 4 (iz k) (iz j) seed 12 (-1) m = some m1 ∧ F_X10_tryOn Z0.1 N 510 (iz n0) m1 = some m' ∧ gi m' 531 2886 = iz A0 ∧ frT2 m m') ∧ ∀ x y : Nat, x < L → y < W → cdC c0 n cl x y ≠ 0 → A x y ≤ n ∧ ∀ m : DY, sameM m0 m → ∃ m1 m' : DY, F_X10_lay Z0.1 N 510 4 (iz k) (iz j) seed 12 (-1) m = some m1 ∧ F_X10_tryOn Z0.1 N 510 (iz n0) (si m1 531 (720 * 4 + 256 + (6 * x + y)) cl) = some m' ∧ gi m' 531 2886 = iz (A x y) ∧ frT2 m m' := by
  have hG := GRD_of hP
  have bnd6 := hG.1
  obtain ⟨A0, T0, a1, _, a3, a4⟩ := spec_lay N n0 seed 12 (-1) c0 m0 hN h2 k3 j3 hP (awy_none hG.1.2.2)
  obtain ⟨A, hA⟩ := ex_fun2 (P := fun x y A => A ≤ n ∧ (∀ c : DY, sameW (6 * x + y) c0 c → gi c 96 (6 * x + y) = cl → ∃ c' : DY, F_X9_arrivals Z0.1 N 1 seed (iz n0) c = some (iz A, c') ∧ frT1 c c') ∧ ∀ m : DY, sameM m0 m → ∃ m1 m' : DY, F_X10_lay Z0.1 N 510 4 (iz k) (iz j) seed 12 (-1) m = some m1 ∧ F_X10_tryOn Z0.1 N 510 (iz n0) (si m1 531 (720 * 4 + 256 + (6 * x + y)) cl) = some m' ∧ gi m' 531 2886 = iz A ∧ frT2 m m') (fun x y => x < L ∧ y < W) (fun x y q => spec_wall N n0 seed c0 m0 hN h2 k3 j3 hP (6 * x + y) cl (by omega) hcl)
  obtain ⟨c1, b1, _, b2⟩ := a3 c0 (fun _ _ _ _ => rfl)
  obtain ⟨c', d1, d2⟩ := c_14 N n0 seed cl c0 hN hG hcl A (fun x y hx hy _ => ⟨(hA x y ⟨hx, hy⟩).1, (hA x y ⟨hx, hy⟩).2.1⟩) L 0 N (A0, -1) c1 (by omega) (by omega) a1 (fun x i q1 q2 => b2.1 x i (by omega))
  refine ⟨A0, A, a1, ⟨c', ?_, gfr_tr (gfr_of b2) d2⟩, fun m hm => ?_, fun x y hx hy _ => ⟨(hA x y ⟨hx, hy⟩).1, (hA x y ⟨hx, hy⟩).2.2⟩⟩
  · rw [F_X9_bestChange_s]
    exact bnd b1 d1
  · obtain ⟨m1, m', q1, q2, q3, _, q5⟩ := a4 m hm
    exact ⟨m1, m', q1, q2, q3, q5⟩
theorem eq_pillar (N : Nat) (pa la s na : Int32) (dy : DY) (hN : 900 ≤ N) (h : Inv dy) : ∃ r dy1 dy2, F_X9_pillar Z0.1 N 1 pa la s na dy = some (r, dy1) ∧ F_X10_pillar Z0.1 N 510 pa la s na dy1 = some (r, dy2) ∧ Inv dy2 := by
  refine wrap_trial N 100 pa la na (-1) dy (by omega) h (fun d => (F_X9_bestChange Z0.1 N 1 s na (1 : Int32) d).bind fun u5 => some (u5.1, u5.2)) (fun d => (F_X10_lay Z0.1 N 510 (4 : Int32) pa la s (12 : Int32) (-1 : Int32) d).bind fun u4 => (F_X10_tryOn Z0.1 N 510 na u4).bind fun u6 => if ib (2886 : Int32) 10080 then (F_X10_pillar_53 Z0.1 N N) 510 pa la s na (gi u6 (gr Z0.1 510 39) (2886 : Int32).toNatClampNeg) (-1 : Int32) (0 : Int32) u6 else none) (fun k j n0 L W n c hpa hla hna k3 j3 n01 n02 hC m518 hP => ?_)
  subst hpa hla hna
  obtain ⟨A0, A, a1, ⟨c', b1, b2⟩, a3, a4⟩ := c_bestC N n0 s 1 c dy hN (by omega) k3 j3 hP (Or.inr rfl)
  have sM : sameM dy (si c' 510 0 0) := fun x i q1 q2 => by rw [gi_si_if, if_neg (by omega), b2 x i (by omega), hC.2.2.1 x i (by omega)]
  obtain ⟨m1, m2, d1, d2, d3, d4⟩ := a3 _ sM
  obtain ⟨m', e1, e2⟩ := m_53 N n0 s hN k3 hP A a4 L 0 N (A0, -1) m2 (by omega) (by have := hP.1.1.1; omega) a1 (sameM_tr sM d4)
  refine ⟨_, c', m', bnd b1 rfl, b2, bnd d1 (bnd d2 ?_), fun x i q1 q2 q3 => by rw [e2 x i q1 q2 q3, rfr_of d4 x i q1 q2 q3, gi_si_if, if_neg (by omega)]⟩
  rw [if_pos (by decide), r_510_39, show (2886 : Int32).toNatClampNeg = 2886 from rfl, d3]
  exact e1
theorem m_37 {c0 m0 : DY} {k j L W n : Nat} (N n0 : Nat) (seed : Int32) (hN : 900 ≤ N) (k3 : k < 3) (hP : PREP (mixD c0 m0) k j id L W n n) (hin : ∀ x y : Nat, x < 16 → y < 6 → gi c0 96 (6 * x + y) ≠ 0 → x < L ∧ y < W) (A : Nat → Nat → Nat) (hsp : ∀ x y : Nat, x < L → y < W → cdC c0 n 0 x y ≠ 0 → A x y ≤ n ∧ ∀ m : DY, sameM m0 m → ∃ m1 m' : DY, F_X10_lay Z0.1 N 510 4 (iz k) (iz j) seed 12 (-1) m = some m1 ∧ F_X10_tryOn Z0.1 N 510 (iz n0) (si m1 531 (720 * 4 + 256 + (6 * x + y)) 0) = some m' ∧ gi m' 531 2886 = iz (A x y) ∧ frT2 m m') : ∀ (q i f : Nat) (s : Nat × Int32) (m : DY), i + q = 96 → q < f → s.1 ≤ n → sameM m0 m → ∃ m' : DY, F_X10_opened_37 Z0.1 N f 510 (iz k) (iz j) seed (iz n0) (iz s.1) s.2 (iz i) m = some ((bK (cdC c0 n 0) A q i s).2, m') ∧ rfr m m' := by
  have i2886 : ib (2886 : Int32) 10080 := by decide
  obtain ⟨⟨⟨L16, W6, n12, _⟩, _, _, _, hw, _⟩, _⟩ := id hP
  intro q
  induction q with
  | zero =>
    intro i f s m hq hk hs hm
    obtain ⟨f, rfl⟩ : ∃ j, f = j + 1 := ⟨f - 1, by omega⟩
    obtain rfl : i = 96 := by omega
    refine ⟨m, ?_, rfr_re _⟩
    rw [F_X10_opened_37_s, if_pos (show (96 : Int32) ≤ iz ((96 : Nat) : Int) by decide)]
    rfl
  | succ q ih =>
    intro i f s m hq hk hs hm
    obtain ⟨f, rfl⟩ : ∃ j, f = j + 1 := ⟨f - 1, by omega⟩
    have i1 : iz (i : Int) + (1 : Int32) = iz ((i + 1 : Nat) : Int) := iz_add i 1
    have l96 : (96 : Int32) = iz 96 := rfl
    have ei : 6 * (i / 6) + i % 6 = i := by omega
    have e : (96 : Int32) * iz (k : Int) + iz (i : Int) = iz ((96 * k + i : Nat) : Int) := by
      rw [l96, iz_mul, iz_add]
      exact congrArg iz (by omega)
    obtain ⟨w1, _⟩ := hw i (by omega)
    rw [mix_c _ _ _ _ (by omega), mix_m _ _ _ _ (by omega)] at w1
    have w1 : gi c0 96 i = gi m0 520 (96 * k + i) := w1
    have cdv : cdC c0 n 0 (i / 6) (i % 6) = gi c0 96 i := by
      unfold cdC
      rw [if_pos rfl, ei]
    have hd : ∀ R, (if gi c0 96 i = 0 then (F_X10_opened_37 Z0.1 N f) 510 (iz k) (iz j) seed (iz n0) (iz s.1) s.2 (iz ((i + 1 : Nat) : Int)) m else (F_X10_lay Z0.1 N 510 (4 : Int32) (iz k) (iz j) seed (12 : Int32) (-1 : Int32) m).bind fun u2 => if ib ((3136 : Int32) + iz (i : Int)) 10080 then bd (si u2 (gr Z0.1 510 39) ((3136 : Int32) + iz (i : Int)).toNatClampNeg (0 : Int32)) fun dy5 => (F_X10_tryOn Z0.1 N 510 (iz n0) dy5).bind fun u6 => if ib (2886 : Int32) 10080 then (if (gi u6 (gr Z0.1 510 39) (2886 : Int32).toNatClampNeg) ≤ iz s.1 then (F_X10_opened_37 Z0.1 N f) 510 (iz k) (iz j) seed (iz n0) (iz s.1) s.2 (iz ((i + 1 : Nat) : Int)) u6 else if ib (2886 : Int32) 10080 then if (6 : Int32) = 0 then none else if (6 : Int32) = 0 then none else (F_X10_opened_37 Z0.1 N f) 510 (iz k) (iz j) seed (iz n0) (gi u6 (gr Z0.1 510 39) (2886 : Int32).toNatClampNeg) (((100 : Int32) * (iz (i : Int) / (6 : Int32))) + (iz (i : Int) - iz (i : Int) / (6 : Int32) * (6 : Int32))) (iz ((i + 1 : Nat) : Int)) u6 else none) else none else none) = R → F_X10_opened_37 Z0.1 N (f + 1) 510 (iz k) (iz j) seed (iz n0) (iz s.1) s.2 (iz i) m = R := fun R hR => by
      rw [F_X10_opened_37_s, if_neg (show ¬ (96 : Int32) ≤ iz (i : Int) by rw [l96]; exact iz_nle (by omega)), e, if_pos (show ib (iz ((96 * k + i : Nat) : Int)) 1152 from iz_ib (by omega)), r_510_10, tnn _ (96 * k + i) rfl (by omega), hm 520 _ (by omega) (by omega), ← w1, i1]
      exact hR
    show ∃ m' : DY, _ = some ((bK (cdC c0 n 0) A q (i + 1) (bstep (cdC c0 n 0 (i / 6) (i % 6)) (A (i / 6) (i % 6)) (iz ((100 * (i / 6) + i % 6 : Nat) : Int)) s)).2, m') ∧ rfr m m'
    rw [cdv]
    by_cases z : gi c0 96 i = 0
    · obtain ⟨m', u1, u2⟩ := ih (i + 1) f s m (by omega) (by omega) hs hm
      refine ⟨m', hd _ ?_, u2⟩
      rw [show bstep (gi c0 96 i) (A (i / 6) (i % 6)) (iz ((100 * (i / 6) + i % 6 : Nat) : Int)) s = s from if_pos z, if_pos z]
      exact u1
    · obtain ⟨hx, hy⟩ := hin (i / 6) (i % 6) (by omega) (by omega) (by rw [ei]; exact z)
      obtain ⟨a1, a2⟩ := hsp _ _ hx hy (by rw [cdv]; exact z)
      rw [ei] at a2
      obtain ⟨m1, m2, b1, b2, b3, b4⟩ := a2 m hm
      have one : gi c0 96 i = 1 := ((GRD_of hP).2.2 i (by omega)).resolve_left z
      obtain ⟨m', u1, u2⟩ := ih (i + 1) f (bstep (gi c0 96 i) (A (i / 6) (i % 6)) (iz ((100 * (i / 6) + i % 6 : Nat) : Int)) s) m2 (by omega) (by omega) (bstep_le (fun _ => a1) hs) (sameM_tr hm b4)
      refine ⟨m', hd _ ?_, rfr_tr (rfr_of b4) u2⟩
      have e3 : (3136 : Int32) + iz (i : Int) = iz ((720 * 4 + 256 + i : Nat) : Int) := by
        rw [show (3136 : Int32) = iz 3136 from rfl, iz_add]
        exact congrArg iz (by omega)
      have dv : iz (i : Int) / (6 : Int32) = iz ((i / 6 : Nat) : Int) := iz_div6 i (by omega)
      have e4 : (100 : Int32) * (iz (i : Int) / (6 : Int32)) + (iz (i : Int) - iz (i : Int) / (6 : Int32) * (6 : Int32)) = iz ((100 * (i / 6) + i % 6 : Nat) : Int) := by
        rw [dv, show (100 : Int32) = iz 100 from rfl, l_6, iz_mul, iz_mul, iz_sub, iz_add]
        exact congrArg iz (by omega)
      rw [if_neg z, e4, e3]
      refine bnd b1 ?_
      rw [if_pos (ibr _ (by omega)), bd_eq, r_510_39, tnn _ (720 * 4 + 256 + i) rfl (by omega)]
      refine bnd b2 ?_
      rw [if_pos i2886, show (2886 : Int32).toNatClampNeg = 2886 from rfl, b3]
      rw [one, bstep_1] at u1 ⊢
      by_cases w : s.1 < A (i / 6) (i % 6)
      · rw [if_pos w] at u1 ⊢
        rw [if_neg (show ¬ iz (A (i / 6) (i % 6) : Int) ≤ iz (s.1 : Int) from iz_nle (by omega)), if_pos i2886, if_neg (by decide), if_neg (by decide)]
        exact u1
      · rw [if_neg w] at u1 ⊢
        rw [if_pos (show iz (A (i / 6) (i % 6) : Int) ≤ iz (s.1 : Int) from iz_lei (by omega))]
        exact u1
