/-! opened, better -/
theorem walls_in {dy c : DY} {k j L W n : Nat} {m : DY} {ι : Nat → Nat} {M : Nat} (h : Inv dy) (k3 : k < 3) (hC : CPD k j dy c) (hP : PREP (mixD c m) k j ι L W n M) : ∀ x y : Nat, x < 16 → y < 6 → gi c 96 (6 * x + y) ≠ 0 → x < L ∧ y < W := by
  obtain ⟨_, _, _, _, _, _, _, hPR, _⟩ := id h.1
  have hp := hPR k k3
  rw [show 2 + 39 + 17 * k = 41 + 17 * k by omega] at hp
  obtain ⟨L', W', n', ⟨b1, b2, _⟩, ⟨k2, _⟩, ⟨k3', _⟩, _, _, _, _, _, k9⟩ := hp
  obtain ⟨⟨⟨c1, c2, _⟩, ⟨g0, _⟩, ⟨g1, _⟩, _⟩, _⟩ := hP
  rw [mix_c _ _ _ _ (by omega)] at g0 g1
  have f0 : gi c 95 0 = gi dy (41 + 17 * k) 0 := hC.1.1 0 (pF_in 0 (by omega))
  have f1 : gi c 95 1 = gi dy (41 + 17 * k) 1 := hC.1.1 1 (pF_in 1 (by omega))
  have eL : L = L' := by
    have := g0.symm.trans (f0.trans k2)
    rw [iz_inj (by omega) (by omega) (by omega) (by omega)] at this
    omega
  have eW : W = W' := by
    have := g1.symm.trans (f1.trans k3')
    rw [iz_inj (by omega) (by omega) (by omega) (by omega)] at this
    omega
  intro x y hx hy hz
  rw [eL, eW]
  refine k9 x y hx hy ?_
  have : gi c (95 + 1) (6 * x + y) = gi dy (41 + 17 * k + 1) (6 * x + y) := hC.1.2 (1, 96) (by decide) _ (by omega)
  rw [← this]
  exact hz
theorem bK_bX (cd : Nat → Nat → Int32) (A : Nat → Nat → Nat) (L W : Nat) (s : Nat × Int32) (L16 : L ≤ 16) (W6 : W ≤ 6) (h : ∀ x y : Nat, x < 16 → y < 6 → (L ≤ x ∨ W ≤ y) → cd x y = 0) : bK cd A 96 0 s = bX cd A W L 0 s := by
  have e := bK_X cd A 16 0 s
  have c := bX_cut cd A W (6 - W) L (16 - L) 0 s (fun i j h1 h2 h3 => h i j (by omega) (by omega) (by omega))
  rw [show W + (6 - W) = 6 by omega, show L + (16 - L) = 16 by omega] at c
  exact e.trans c
theorem m_arrive {k j : Nat} (N n0 A : Nat) (seed : Int32) (m m1 m' : DY) (h1 : F_X10_lay Z0.1 N 510 4 (iz k) (iz j) seed 12 (-1) m = some m1) (h2 : F_X10_tryOn Z0.1 N 510 (iz n0) m1 = some m') (h3 : gi m' 531 2886 = iz A) : F_X10_arrive Z0.1 N 510 (iz k) (iz j) seed (iz n0) m = some (iz A, m') := by
  rw [F_X10_arrive_s]
  refine bnd h1 (bnd h2 ?_)
  rw [if_pos (by decide), r_510_39, show (2886 : Int32).toNatClampNeg = 2886 from rfl, h3]
theorem eq_opened (N : Nat) (pa la s na : Int32) (dy : DY) (hN : 900 ≤ N) (h : Inv dy) : ∃ r dy1 dy2, F_X9_opened Z0.1 N 1 pa la s na dy = some (r, dy1) ∧ F_X10_opened Z0.1 N 510 pa la s na dy1 = some (r, dy2) ∧ Inv dy2 := by
  refine wrap_trial N 100 pa la na (-1) dy (by omega) h (fun d => (F_X9_bestChange Z0.1 N 1 s na (0 : Int32) d).bind fun u5 => some (u5.1, u5.2)) (fun d => (F_X10_arrive Z0.1 N 510 pa la s na d).bind fun u4 => (F_X10_opened_37 Z0.1 N N) 510 pa la s na u4.1 (-1 : Int32) (0 : Int32) u4.2) (fun k j n0 L W n c hpa hla hna k3 j3 n01 n02 hC m518 hP => ?_)
  subst hpa hla hna
  have hin := walls_in h k3 hC hP
  obtain ⟨A0, A, a1, ⟨c', b1, b2⟩, a3, a4⟩ := c_bestC N n0 s 0 c dy hN (by omega) k3 j3 hP (Or.inl rfl)
  have sM : sameM dy (si c' 510 0 0) := fun x i q1 q2 => by rw [gi_si_if, if_neg (by omega), b2 x i (by omega), hC.2.2.1 x i (by omega)]
  obtain ⟨m1, m2, d1, d2, d3, d4⟩ := a3 _ sM
  obtain ⟨m', e1, e2⟩ := m_37 N n0 s hN k3 hP hin A a4 96 0 N (A0, -1) m2 (by omega) (by omega) a1 (sameM_tr sM d4)
  rw [bK_bX (cdC c n 0) A L W (A0, -1) hP.1.1.1 hP.1.1.2.1 (fun x y h1 h2 h3 => by
    unfold cdC
    rw [if_pos rfl]
    by_cases z : gi c 96 (6 * x + y) = 0
    · exact z
    · have := hin x y h1 h2 z
      omega)] at e1
  exact ⟨_, c', m', bnd b1 rfl, b2, bnd (m_arrive N n0 A0 s _ m1 m2 d1 d2 d3) e1, fun x i q1 q2 q3 => by rw [e2 x i q1 q2 q3, rfr_of d4 x i q1 q2 q3, gi_si_if, if_neg (by omega)]⟩
/-- the best law so far -/
def btR (A : Nat → Nat) : Nat → Nat → Int → Int → Int
  | 0, _, _, b => b
  | q + 1, l, mo, b => if mo < (A l : Int) then btR A q (l + 1) (A l) l else btR A q (l + 1) mo b
theorem btR_s (A : Nat → Nat) (q l : Nat) (mo b : Int) : btR A (q + 1) l mo b = if mo < (A l : Int) then btR A q (l + 1) (A l) l else btR A q (l + 1) mo b := rfl
theorem eq_better (N : Nat) (pa s na : Int32) (dy : DY) (hN : 900 ≤ N) (h : Inv dy) : ∃ r dy1 dy2, F_X9_better Z0.1 N 1 pa s na dy = some (r, dy1) ∧ F_X10_better Z0.1 N 510 pa s na dy1 = some (r, dy2) ∧ Inv dy2 := by
  obtain ⟨x, rfl, x1, x2⟩ := iz_ex pa
  obtain ⟨z, rfl, z1, z2⟩ := iz_ex na
  obtain ⟨_, _, _, ⟨cn1, cn2⟩, ⟨p, l, e1, p3, e2, l3⟩, _⟩ := id h.1
  have n1 : ¬ (1 : Int32) = 0 := by decide
  have l1 : (1 : Int32) = iz 1 := rfl
  have l200 : (200 : Int32) = iz 200 := rfl
  have inz : ∀ d : DY, F_X10_in Z0.1 N (iz z) (1 : Int32) (200 : Int32) d = some (if 1 ≤ z ∧ z ≤ 200 then 1 else 0, d) := fun d => by
    rw [m_in]
    by_cases a : 1 ≤ z
    · rw [if_neg (show ¬ iz z < (1 : Int32) by rw [l1]; exact iz_nlt (by omega))]
      by_cases b : z ≤ 200
      · rw [if_neg (show ¬ (200 : Int32) < iz z by rw [l200]; exact iz_nlt (by omega)), if_pos ⟨a, b⟩]
      · rw [if_pos (show (200 : Int32) < iz z by rw [l200]; exact iz_lti (by omega)), if_neg (fun q => b q.2)]
    · rw [if_pos (show iz z < (1 : Int32) by rw [l1]; exact iz_lti (by omega)), if_neg (fun q => a q.1)]
  have hM : ∀ d : DY, gi d 515 0 = iz p → F_X10_better Z0.1 N 510 (iz x) s (iz z) d = (if (if 0 ≤ x ∧ x < p then (1 : Int32) else 0) = 0 then some (-1, si d 510 0 0) else if (if 1 ≤ z ∧ z ≤ 200 then (1 : Int32) else 0) = 0 then some (-1, si d 510 0 0) else F_X10_better_35 Z0.1 N N 510 (iz x) s (iz z) (-1) (-1) 0 (si d 510 0 0)) := fun d h1 => by
    rw [F_X10_better_s, bd_eq, m_isPas N x p _ x1 x2 (by rw [gi_si_if, if_neg (by omega)]; exact h1) p3, sb_eq, inz, sb_eq]
  have F := F_X9_better_s Z0.1 N 1 (iz x) s (iz z) dy
  rw [show (200 : Int32) = iz ((200 : Nat) : Int) from rfl, c_time _ N z 200 dy z1 z2 (by omega), sb_eq] at F
  have h0 := hM dy (cn1.symm.trans e1)
  by_cases tm : 1 ≤ z ∧ z ≤ ((200 : Nat) : Int)
  · rw [if_pos tm, if_neg n1] at F
    have tm' : 1 ≤ z ∧ z ≤ 200 := tm
    by_cases okP : 0 ≤ x ∧ x < p
    · obtain ⟨k, rfl⟩ : ∃ k : Nat, x = k := ⟨x.toNat, by omega⟩
      obtain ⟨n0, rfl⟩ : ∃ n0 : Nat, z = n0 := ⟨z.toNat, by omega⟩
      have k3 : k < 3 := by omega
      -- each law's own trial
      obtain ⟨A, hA⟩ := ex_fun (P := fun j A => A ≤ 12 ∧ (∀ c : DY, (∀ x i : Nat, ¬ (94 ≤ x ∧ x ≤ 239) → gi c x i = gi dy x i) → ∃ c1 c' : DY, F_X9_prepare Z0.1 N 1 (iz k) (iz j) c = some (1, c1) ∧ F_X9_arrivals Z0.1 N 1 s (iz n0) c1 = some (iz A, c') ∧ gfr c c') ∧ ∀ m : DY, sameM dy m → ∃ m' : DY, F_X10_arrive Z0.1 N 510 (iz k) (iz j) s (iz n0) m = some (iz A, m') ∧ rfr m m') (fun j => j < l) (fun j hj => by
        have prep := fun c : DY => fun hc : (∀ x i : Nat, ¬ (94 ≤ x ∧ x ≤ 239) → gi c x i = gi dy x i) => (c_prep N (k : Int) (j : Int) p l c (by omega) (by omega) (by omega) (by omega) (by rw [hc _ _ (by omega)]; exact e1) p3 (by rw [hc _ _ (by omega)]; exact e2) l3).1 ⟨okP, by omega, by omega⟩
        obtain ⟨c0, E0, C0⟩ := prep dy (fun _ _ _ => rfl)
        rw [Int.toNat_natCast, Int.toNat_natCast] at C0
        obtain ⟨L, W, n, q1, q2, q3, q4⟩ := PREP_of h k3 (j := j) (by omega) C0 (m := dy) (fun _ _ _ _ => rfl)
        obtain ⟨A, T, a1, _, a3, a4⟩ := spec_lay N n0 s 12 (-1) c0 dy hN (by omega) k3 (by omega) q4 (awy_none q3)
        refine ⟨A, by omega, fun c hc => ?_, fun m hm => ?_⟩
        · obtain ⟨c1, E1, C1⟩ := prep c hc
          rw [Int.toNat_natCast, Int.toNat_natCast] at C1
          -- the same ground again
          have ic : Inv c := inv_try h (fun x i q1 q2 q3 q4 => hc x i q1)
          obtain ⟨L', W', n', r1, r2, r3, r4⟩ := PREP_of ic k3 (j := j) (by omega) C1 (m := dy) (fun x i q1 q2 => (hc x i (by omega)).symm)
          obtain ⟨A', T', s1, _, s3, s4⟩ := spec_lay N n0 s 12 (-1) c1 dy hN (by omega) k3 (by omega) r4 (awy_none r3)
          obtain ⟨m1, m', t1, t2, t3, _⟩ := s4 dy (fun _ _ _ _ => rfl)
          obtain ⟨m1', m'', u1, u2, u3, _⟩ := a4 dy (fun _ _ _ _ => rfl)
          have em : m1' = m1 := Option.some.inj (u1.symm.trans t1)
          subst em
          have em : m'' = m' := Option.some.inj (u2.symm.trans t2)
          subst em
          have eA : A' = A := by
            have := t3.symm.trans u3
            rw [iz_inj (by omega) (by omega) (by omega) (by omega)] at this
            omega
          obtain ⟨c', v1, _, v3⟩ := s3 c1 (fun _ _ _ _ => rfl)
          rw [eA] at v1
          exact ⟨c1, c', E1, v1, fun x i hx => by rw [v3.1 x i (by omega), C1.2.2.1 x i (by omega)]⟩
        · obtain ⟨m1, m', b1, b2, b3, _, b5⟩ := a4 m hm
          exact ⟨m', m_arrive N n0 A s m m1 m' b1 b2 b3, rfr_of b5⟩)
      have LC : ∀ (q j f : Nat) (mo b : Int) (c : DY), j + q = l → q < f → (-1 ≤ mo ∧ mo ≤ 12) → (∀ x i : Nat, ¬ (94 ≤ x ∧ x ≤ 239) → gi c x i = gi dy x i) → ∃ c' : DY, F_X9_better_21 Z0.1 N f 1 (iz (k : Int)) s (iz n0) (iz mo) (iz b) (iz j) c = some (iz (btR A q j mo b), c') ∧ gfr c c' := by
        intro q
        induction q with
        | zero =>
          intro j f mo b c hq hf hmo hc
          obtain ⟨f, rfl⟩ : ∃ j, f = j + 1 := ⟨f - 1, by omega⟩
          obtain rfl : j = l := by omega
          refine ⟨c, ?_, gfr_re _⟩
          rw [F_X9_better_21_s, r_1_0, hc 2 7 (by omega), e2, if_pos (Int32.le_refl _)]
          rfl
        | succ q ih =>
          intro j f mo b c hq hf hmo hc
          obtain ⟨f, rfl⟩ : ∃ j, f = j + 1 := ⟨f - 1, by omega⟩
          obtain ⟨a1, a2, _⟩ := hA j (by omega)
          obtain ⟨c1, c2, b1, b2, b3⟩ := a2 c hc
          have hc2 : ∀ x i : Nat, ¬ (94 ≤ x ∧ x ≤ 239) → gi c2 x i = gi dy x i := fun x i hx => (b3 x i hx).trans (hc x i hx)
          have j1 : iz (j : Int) + (1 : Int32) = iz ((j + 1 : Nat) : Int) := iz_add j 1
          have st : ∀ R, (if iz (A j : Int) ≤ iz mo then F_X9_better_21 Z0.1 N f 1 (iz (k : Int)) s (iz n0) (iz mo) (iz b) (iz ((j + 1 : Nat) : Int)) c2 else F_X9_better_21 Z0.1 N f 1 (iz (k : Int)) s (iz n0) (iz (A j : Int)) (iz j) (iz ((j + 1 : Nat) : Int)) c2) = R → F_X9_better_21 Z0.1 N (f + 1) 1 (iz (k : Int)) s (iz n0) (iz mo) (iz b) (iz j) c = R := fun R hR => by
            rw [F_X9_better_21_s, r_1_0, hc 2 7 (by omega), e2, if_neg (show ¬ iz (l : Int) ≤ iz (j : Int) from iz_nle (by omega)), j1]
            refine bnd b1 ?_
            refine (if_neg n1).trans ?_
            exact bnd b2 hR
          rw [btR_s]
          by_cases w : mo < (A j : Int)
          · obtain ⟨c', u1, u2⟩ := ih (j + 1) f (A j) j c2 (by omega) (by omega) (by omega) hc2
            exact ⟨c', st _ (by rw [if_neg (show ¬ iz (A j : Int) ≤ iz mo from iz_nle (by omega)), if_pos w]; exact u1), gfr_tr b3 u2⟩
          · obtain ⟨c', u1, u2⟩ := ih (j + 1) f mo b c2 (by omega) (by omega) (by omega) hc2
            exact ⟨c', st _ (by rw [if_pos (show iz (A j : Int) ≤ iz mo from iz_lei (by omega)), if_neg w]; exact u1), gfr_tr b3 u2⟩
      have LM : ∀ (q j f : Nat) (mo b : Int) (m : DY), j + q = l → q < f → (-1 ≤ mo ∧ mo ≤ 12) → sameM dy m → ∃ m' : DY, F_X10_better_35 Z0.1 N f 510 (iz (k : Int)) s (iz n0) (iz b) (iz mo) (iz j) m = some (iz (btR A q j mo b), m') ∧ rfr m m' := by
        intro q
        induction q with
        | zero =>
          intro j f mo b m hq hf hmo hm
          obtain ⟨f, rfl⟩ : ∃ j, f = j + 1 := ⟨f - 1, by omega⟩
          obtain rfl : j = l := by omega
          refine ⟨m, ?_, rfr_re _⟩
          rw [F_X10_better_35_s, if_pos (by decide), r_510_12, show (0 : Int32).toNatClampNeg = 0 from rfl, hm 522 0 (by omega) (by omega), ← cn2, e2, if_pos (Int32.le_refl _)]
          rfl
        | succ q ih =>
          intro j f mo b m hq hf hmo hm
          obtain ⟨f, rfl⟩ : ∃ j, f = j + 1 := ⟨f - 1, by omega⟩
          obtain ⟨a1, _, a2⟩ := hA j (by omega)
          obtain ⟨m2, b1, b3⟩ := a2 m hm
          have j1 : iz (j : Int) + (1 : Int32) = iz ((j + 1 : Nat) : Int) := iz_add j 1
          have st : ∀ R, (if iz (A j : Int) ≤ iz mo then F_X10_better_35 Z0.1 N f 510 (iz (k : Int)) s (iz n0) (iz b) (iz mo) (iz ((j + 1 : Nat) : Int)) m2 else F_X10_better_35 Z0.1 N f 510 (iz (k : Int)) s (iz n0) (iz j) (iz (A j : Int)) (iz ((j + 1 : Nat) : Int)) m2) = R → F_X10_better_35 Z0.1 N (f + 1) 510 (iz (k : Int)) s (iz n0) (iz b) (iz mo) (iz j) m = R := fun R hR => by
            rw [F_X10_better_35_s, if_pos (by decide), r_510_12, show (0 : Int32).toNatClampNeg = 0 from rfl, hm 522 0 (by omega) (by omega), ← cn2, e2, if_neg (show ¬ iz (l : Int) ≤ iz (j : Int) from iz_nle (by omega))]
            refine bnd b1 ?_
            rw [F_X10_better_71_s, F_X10_better_71_s, j1]
            by_cases w : iz (A j : Int) ≤ iz mo
            · rw [if_pos w] at hR
              refine (if_pos w).trans ((if_pos w).trans hR)
            · rw [if_neg w] at hR
              refine (if_neg w).trans ((if_neg w).trans hR)
          rw [btR_s]
          by_cases w : mo < (A j : Int)
          · obtain ⟨c', u1, u2⟩ := ih (j + 1) f (A j) j m2 (by omega) (by omega) (by omega) (sameM_rfr hm b3)
            exact ⟨c', st _ (by rw [if_neg (show ¬ iz (A j : Int) ≤ iz mo from iz_nle (by omega)), if_pos w]; exact u1), rfr_tr b3 u2⟩
          · obtain ⟨c', u1, u2⟩ := ih (j + 1) f mo b m2 (by omega) (by omega) (by omega) (sameM_rfr hm b3)
            exact ⟨c', st _ (by rw [if_pos (show iz (A j : Int) ≤ iz mo from iz_lei (by omega)), if_neg w]; exact u1), rfr_tr b3 u2⟩
      obtain ⟨c', u1, u2⟩ := LC l 0 N (-1) (-1) dy (by omega) (by omega) (by omega) (fun _ _ _ => rfl)
      have sM : sameM dy (si c' 510 0 0) := fun x i q1 q2 => by rw [gi_si_if, if_neg (by omega), u2 x i (by omega)]
      obtain ⟨m', v1, v2⟩ := LM l 0 N (-1) (-1) (si c' 510 0 0) (by omega) (by omega) (by omega) sM
      refine ⟨_, c', m', F.trans u1, ?_, inv_try h (fun x i q1 q2 q3 q4 => by rw [v2 x i q2 q3 q4, gi_si_if, if_neg (by omega), u2 x i q1])⟩
      rw [hM c' (by rw [u2 515 0 (by omega)]; exact cn1.symm.trans e1), if_pos okP, if_neg n1, if_pos tm', if_neg n1]
      exact v1
    · rw [if_neg okP, if_pos rfl] at h0
      -- there is no such passage: the first law, if any, says so
      rcases Nat.eq_zero_or_pos l with z0 | z0
      · refine ⟨-1, dy, _, ?_, h0, inv_0 h⟩
        rw [F]
        obtain ⟨N', rfl⟩ : ∃ y, N = y + 1 := ⟨N - 1, by omega⟩
        rw [F_X9_better_21_s, r_1_0, e2, z0, if_pos (show iz ((0 : Nat) : Int) ≤ 0 by decide)]
      · refine ⟨-1, dy, _, ?_, h0, inv_0 h⟩
        rw [F]
        have pr := (c_prep N x 0 p l dy x1 x2 (by omega) (by omega) e1 p3 e2 l3).2 (fun q => okP q.1)
        obtain ⟨N', hN'⟩ : ∃ y, N = y + 1 := ⟨N - 1, by omega⟩
        rw [show F_X9_better_21 Z0.1 N N = F_X9_better_21 Z0.1 N (N' + 1) from by rw [← hN'], F_X9_better_21_s, r_1_0, e2, if_neg (show ¬ iz (l : Int) ≤ 0 from iz_nle (b := 0) (by omega))]
        exact bnd pr (if_pos rfl)
  · rw [if_neg tm, if_pos rfl] at F
    refine ⟨-1, dy, _, F, h0.trans ?_, inv_0 h⟩
    have tm' : ¬ (1 ≤ z ∧ z ≤ 200) := tm
    by_cases okP : 0 ≤ x ∧ x < p
    · rw [if_pos okP, if_neg n1, if_neg tm', if_pos rfl]
    · rw [if_neg okP, if_pos rfl]
