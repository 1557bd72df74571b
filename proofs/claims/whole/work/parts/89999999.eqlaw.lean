/-! law: the same on both sides -/
theorem eq_law (N : Nat) (a : Int32) (dy : DY) (hN : 900 ≤ N) (h : Inv dy) : ∃ r dy1 dy2, F_X9_law Z0.1 N 1 a dy = some (r, dy1) ∧ F_X10_law Z0.1 N 510 a dy1 = some (r, dy2) ∧ Inv dy2 := by
  obtain ⟨x, rfl, x1, x2⟩ := iz_ex a
  obtain ⟨L, P, hL, hP, c7, m7, c5, m5⟩ := cnts h
  obtain ⟨sz, Z, h5, t1, t2, tz⟩ := tape_Z h
  have C0 : F_X9_law Z0.1 N 1 (iz x) dy = _ := (F_X9_law_s Z0.1 N 1 (iz x) dy).trans (by
    rw [r_1_0, r_1_9, r_1_3, r_1_5, c_tape, sb_eq, gi_ct dy 2 7 (by omega), c5, c_slot N x P _ x1 x2 hP, sb_eq, t1])
  obtain ⟨k1, k2, k3⟩ := gi_ct1 dy
  rcases slotP_b x P hP with no | ⟨p, p3, sp, alt⟩
  · -- it can't be
    have M0 := m_lawq N x P (ct dy) x1 x2 hP (iz sz) (by rw [gi_ct _ _ _ (by omega)]; exact t2) (by rw [gi_ct _ _ _ (by omega)]; exact m5)
    rw [no, if_pos rfl] at M0
    rw [no, if_pos (show iz (-2) = (-2 : Int32) by decide)] at C0
    obtain ⟨j1, j2, j3, j4, _⟩ := gi_mt (si (ct dy) 510 0 0) (iz sz)
    have o : ∀ y k : Nat, ¬ (y = 2 ∧ (k = 1 ∨ k = 2 ∨ k = 3)) → ¬ (y = 510) → ¬ ((y = 512 ∨ y = 513 ∨ y = 514) ∧ k = 0) → gi (mt (si (ct dy) 510 0 0) (iz sz)) y k = gi dy y k := fun y k q1 q2 q3 => by
      rw [gi_mtn _ _ _ _ (by omega), gi_si_if, if_neg (by omega), gi_ct _ _ _ q1]
    have o2 : ∀ k : Nat, gi (mt (si (ct dy) 510 0 0) (iz sz)) 2 k = gi (ct dy) 2 k := fun k => by
      rw [gi_mtn _ _ _ _ (by omega), gi_si_if, if_neg (by omega)]
    exact ⟨-2, _, _, C0, M0, Inv_tape h ((o2 1).trans k1) j2 ((o2 2).trans (k2.trans j3.symm)) ((o2 3).trans (k3.trans j4.symm)) (fun y k q => o y k (by omega) (by omega) (by omega)) (fun y k q => o y k (by omega) (by omega) (by omega))⟩
  · have n2 : ¬ slotP x P = -2 := by omega
    have ip : iz (slotP x P) = iz (p : Int) := congrArg iz sp
    rw [ip, if_neg (show ¬ iz (p : Int) = (-2 : Int32) from fun q => by
      have := congrArg Int32.toInt q
      rw [iz_toInt (by omega) (by omega)] at this
      exact absurd this (by show ¬ (p : Int) = -2; omega))] at C0
    -- what the class reads
    have bC : BYT (ct dy) Z := fun i hi => by rw [gi_ct _ _ _ (by omega)]; exact ⟨(tz i hi).1, (tz i hi).2.2⟩
    have rd : ∀ d : DY, (∀ i : Nat, i < 500 → gi d 511 i = gi dy 511 i) → ∃ (c' m' : DY) (v : Int32), F_X3_read Z0.1 N 239 (iz sz) (ct dy) = some (if gi c' 94 6 = 0 then 1 else 0, c') ∧ F_X10_law_38 Z0.1 N 510 (iz x) (mt (si d 510 0 0) (iz sz)) = F_X10_law_68 Z0.1 N 510 (iz x) v m' ∧ frLC (ct dy) c' ∧ frLM (mt (si d 510 0 0) (iz sz)) m' ∧ ENDS c' m' v ∧ (gi c' 94 6 = 0 → ∃ j : Nat, j ≤ 16 ∧ gi c' 105 0 = iz j ∧ gi m' 510 36 = iz j ∧ LWQ c' m' j) := fun d hd => by
      obtain ⟨j1, j2, j3, j4, j5, j6⟩ := gi_mt (si d 510 0 0) (iz sz)
      exact readl_both N sz Z (iz x) (ct dy) _ hN h5 bC (fun i hi => by
        rw [gi_mtn _ _ _ _ (by omega), gi_si_if, if_neg (by omega), hd i hi]
        exact (tz i hi).2) j1 j5 j6
    obtain ⟨c', _, _, r1, _, r3, _⟩ := rd dy (fun _ _ => rfl)
    obtain ⟨dA, hdA⟩ : ∃ dA : DY, dA = si (si c' 2 2 (gi c' 94 6)) 2 3 (gi c' 94 7) := ⟨_, rfl⟩
    have oA : ∀ y k : Nat, ¬ (y = 2 ∧ (k = 2 ∨ k = 3)) → gi dA y k = gi c' y k := fun y k q => by rw [hdA, gi_si_if, if_neg (by omega), gi_si_if, if_neg (by omega)]
    have A2 : gi dA 2 2 = gi c' 94 6 := by rw [hdA, gi_si_if, if_neg (by omega), gi_si_if, if_pos ⟨rfl, rfl⟩]
    have A3 : gi dA 2 3 = gi c' 94 7 := by rw [hdA, gi_si_if, if_pos ⟨rfl, rfl⟩]
    have C1 := C0.trans (bnd r1 rfl)
    rw [bd_eq, bd_eq, show gi (si c' 2 2 (gi c' 94 6)) 94 7 = gi c' 94 7 from by rw [gi_si_if, if_neg (by omega)], ← hdA] at C1
    have fA : ∀ y k : Nat, ¬ (94 ≤ y ∧ y ≤ 111) → ¬ (y = 2 ∧ (k = 1 ∨ k = 2 ∨ k = 3)) → gi dA y k = gi dy y k := fun y k q1 q2 => by rw [oA y k (by omega), r3 y k q1, gi_ct _ _ _ q2]
    have g2 : ∀ d : DY, (∀ y k : Nat, 510 ≤ y → gi d y k = gi dA y k) → ∃ (m' : DY) (v : Int32), F_X10_law Z0.1 N 510 (iz x) d = F_X10_law_68 Z0.1 N 510 (iz x) v m' ∧ (∀ y k : Nat, ¬ (y = 510 ∨ 528 ≤ y ∧ y ≤ 530) → ¬ (512 ≤ y ∧ y ≤ 514 ∧ k = 0) → gi m' y k = gi d y k) ∧ gi m' 512 0 = 0 ∧ ENDS c' m' v ∧ (gi c' 94 6 = 0 → ∃ j : Nat, j ≤ 16 ∧ gi c' 105 0 = iz j ∧ gi m' 510 36 = iz j ∧ LWQ c' m' j) := fun d hd => by
      obtain ⟨c'', m', v, s1, s2, s3, s4, s5, s6⟩ := rd d (fun i _ => by rw [hd 511 i (by omega), fA 511 i (by omega) (by omega)])
      have ec : c'' = c' := (Prod.mk.inj (Option.some.inj (s1.symm.trans r1))).2
      subst ec
      have M0 := m_lawq N x P d x1 x2 hP (iz sz) (by rw [hd _ _ (by omega), fA 512 0 (by omega) (by omega)]; exact t2) (by rw [hd _ _ (by omega), fA 522 0 (by omega) (by omega)]; exact m5)
      rw [if_neg n2] at M0
      refine ⟨m', v, M0.trans s2, fun y k q1 q2 => ?_, ?_, s5, s6⟩
      · rw [s4 y k q1, gi_mtn _ _ _ _ (by omega), gi_si_if, if_neg (by omega)]
      · rw [s4 512 0 (by omega)]; exact (gi_mt _ _).2.1
    by_cases snd : gi c' 94 6 = 0
    · -- sound: it is kept
      rw [if_pos snd, if_neg (show ¬ (1 : Int32) = 0 by decide)] at C1
      obtain ⟨e1, E1, B1, F1⟩ := c_lcopy N 105 (51 + 17 * p) dA (by decide) (lb_k p p3) (by omega)
      obtain ⟨e2, he2⟩ : ∃ e2 : DY, e2 = si e1 2 7 (if gi e1 2 7 < iz (p : Int) + (1 : Int32) then iz (p : Int) + (1 : Int32) else gi e1 2 7) := ⟨_, rfl⟩
      have kp : F_X7_keepLaw Z0.1 N 2 (iz (p : Int)) 105 dA = some e2 := by
        rw [F_X7_keepLaw_s, if_neg (show ¬ iz (p : Int) < 0 from iz_nlt (b := 0) (by omega)), if_neg (show ¬ (3 : Int32) ≤ iz (p : Int) from iz_nle (a := 3) (by omega)), if_pos (show ib (iz (p : Int)) 3 from iz_ib (by omega)), r_2_6, tnn _ p rfl (by omega), r_5_k p p3]
        exact bnd E1 (by rw [bd_eq, he2])
      have C2 : F_X9_law Z0.1 N 1 (iz x) dy = some (iz (p : Int), e2) := C1.trans (bnd kp rfl)
      have oe : ∀ y k : Nat, ¬ (51 + 17 * p ≤ y ∧ y ≤ 51 + 17 * p + 6) → ¬ (y = 2 ∧ k = 7) → gi e2 y k = gi dA y k := fun y k q1 q2 => by
        rw [he2, gi_si_if, if_neg (by omega)]
        exact F1.1 y k (by omega)
      have e15 : gi e1 2 7 = iz P := by rw [F1.1 2 7 (by omega), fA 2 7 (by omega) (by omega)]; exact c5
      have e25 : gi e2 2 7 = iz (if P < p + 1 then p + 1 else P : Nat) := by
        rw [he2, gi_si_if, if_pos ⟨rfl, rfl⟩, e15, show iz (p : Int) + (1 : Int32) = iz ((p + 1 : Nat) : Int) from iz_add p 1]
        by_cases z : P < p + 1
        · rw [if_pos z, if_pos (show iz (P : Int) < iz ((p + 1 : Nat) : Int) from iz_lti (by omega))]
        · rw [if_neg z, if_neg (show ¬ iz (P : Int) < iz ((p + 1 : Nat) : Int) from iz_nlt (by omega))]
      obtain ⟨m', v, M1, M2, M3, M4, M5⟩ := g2 e2 (fun y k q => oe y k (by omega) (by omega))
      have G := M5 snd
      have gb := good_both N M4
      rw [if_pos snd] at gb
      obtain ⟨m1, hm1⟩ : ∃ m1 : DY, m1 = si (si m' 513 0 (gi c' 94 6)) 514 0 (gi c' 94 7) := ⟨_, rfl⟩
      rw [← hm1] at gb
      have o1 : ∀ y k : Nat, ¬ ((y = 513 ∨ y = 514) ∧ k = 0) → gi m1 y k = gi m' y k := fun y k q => by rw [hm1, gi_si_if, if_neg (by omega), gi_si_if, if_neg (by omega)]
      obtain ⟨n, n16, g105, g36, la⟩ := id G
      have g15 : gi m1 522 0 = iz P := by rw [o1 _ _ (by omega), M2 522 0 (by omega) (by omega), oe _ _ (by omega) (by omega), fA 522 0 (by omega) (by omega)]; exact m5
      obtain ⟨inc, m2, K1, K2, K3, K8, K9⟩ : ∃ (inc : Int32) (m2 : DY), F_X10_law Z0.1 N 510 (iz x) e2 = some (iz (p : Int), m2) ∧ gi m2 522 0 = gi e2 2 7 ∧ gi m2 523 p = iz n ∧ (∀ i : Nat, i < 18 * n → gi m2 524 (288 * p + i) = gi m1 530 i) ∧ ∀ x i : Nat, ¬ (x = 522 ∧ i = 0) → ¬ (x = 523 ∧ i = p) → ¬ (x = 524 ∧ 288 * p ≤ i ∧ i < 288 * p + 288) → gi m2 x i = gi m1 x i := by
        have i4 : ib (0 : Int32) 4 := by decide
        have t0 : (0 : Int32).toNatClampNeg = 0 := rfl
        have nz1 : ¬ (1 : Int32) = 0 := by decide
        have fM : F_X10_law Z0.1 N 510 (iz x) e2 = _ := M1.trans ((F_X10_law_68_s Z0.1 N 510 (iz x) v m').trans (bnd gb (if_neg nz1)))
        rw [if_pos i4, r_510_12, t0, g15] at fM
        rcases alt with ⟨xm, pP⟩ | ⟨xp, pP⟩
        · obtain ⟨m2, z1, z2, z3⟩ := m_111 N p n hN p3 n16 (iz P) 1 m1 (by rw [o1 _ _ (by omega)]; exact g36)
          refine ⟨1, m2, ?_, ?_, z3⟩
          · rw [fM, if_pos (show iz x = (-1 : Int32) by rw [xm]; rfl), F_X10_law_93_s, if_pos i4, if_pos (show iz x = (-1 : Int32) by rw [xm]; rfl), r_510_12, t0, g15, ← pP]
            rw [← pP] at z1
            exact z1
          · rw [z2, e25, show iz (P : Int) + (1 : Int32) = iz ((P + 1 : Nat) : Int) from iz_add P 1, if_pos (by omega), pP]
        · have xn : ¬ iz x = (-1 : Int32) := fun q => by
            have := congrArg Int32.toInt q
            rw [iz_toInt x1 x2] at this
            exact absurd this (by show ¬ x = -1; omega)
          obtain ⟨m2, z1, z2, z3⟩ := m_111 N p n hN p3 n16 (iz P) 0 m1 (by rw [o1 _ _ (by omega)]; exact g36)
          refine ⟨0, m2, ?_, ?_, z3⟩
          · rw [fM, if_neg xn, F_X10_law_93_s, if_pos i4, if_neg xn, r_510_12, t0, g15, xp]
            exact z1
          · rw [z2, e25, show iz (P : Int) + (0 : Int32) = iz ((P + 0 : Nat) : Int) from iz_add P 0, if_neg (by omega), Nat.add_zero]
      -- the class's cells in the end
      have mc : ∀ y k : Nat, y ≤ 509 → gi m2 y k = gi e2 y k := fun y k q => by rw [K9 y k (by omega) (by omega) (by omega), o1 y k (by omega), M2 y k (by omega) (by omega)]
      have mm : ∀ y k : Nat, ¬ (y ≤ 510 ∨ 528 ≤ y ∧ y ≤ 530) → ¬ (512 ≤ y ∧ y ≤ 514 ∧ k = 0) → ¬ (y = 522 ∧ k = 0) → ¬ (y = 523 ∧ k = p) → ¬ (y = 524 ∧ 288 * p ≤ k ∧ k < 288 * p + 288) → gi m2 y k = gi dy y k := fun y k q1 q2 q3 q4 q5 => by
        rw [K9 y k q3 q4 q5, o1 y k (by omega), M2 y k (by omega) (by omega), oe y k (by omega) (by omega), fA y k (by omega) (by omega)]
      obtain ⟨_, _, _, ⟨_, _⟩, _, _, _, q14, q15, _⟩ := id h.1
      have cc : ∀ y k : Nat, y ≤ 509 → ¬ (94 ≤ y ∧ y ≤ 111) → ¬ (y = 2 ∧ (k = 1 ∨ k = 2 ∨ k = 3 ∨ k = 7)) → ¬ (51 + 17 * p ≤ y ∧ y ≤ 51 + 17 * p + 6) → gi m2 y k = gi dy y k := fun y k q0 q1 q2 q3 => by rw [mc y k q0, oe y k q3 (by omega), fA y k q1 (by omega)]
      have cpC : ∀ y k : Nat, 105 ≤ y → y ≤ 111 → gi dA y k = gi c' y k := fun y k q1 q2 => oA y k (by omega)
      refine ⟨iz (p : Int), e2, m2, C2, K1, Inv_read h ?_ ?_ ?_ ?_ ⟨?_, ?_⟩ ?_ (fun k hk => ?_) (fun k hk => ?_) (fun y k q => cc y k (by omega) (by omega) (by omega) (by omega)) (fun y k q => mm y k (by omega) (by omega) (by omega) (by omega) (by omega))⟩
      · rw [mc 2 1 (by omega), oe 2 1 (by omega) (by omega), oA 2 1 (by omega), r3 2 1 (by omega)]; exact k1
      · rw [K9 512 0 (by omega) (by omega) (by omega), o1 512 0 (by omega)]; exact M3
      · rw [mc 2 2 (by omega), oe 2 2 (by omega) (by omega), A2, K9 513 0 (by omega) (by omega) (by omega), hm1, gi_si_if, if_neg (by omega), gi_si_if, if_pos ⟨rfl, rfl⟩]
      · rw [mc 2 3 (by omega), oe 2 3 (by omega) (by omega), A3, K9 514 0 (by omega) (by omega) (by omega), hm1, gi_si_if, if_pos ⟨rfl, rfl⟩]
      · rw [cc 2 5 (by omega) (by omega) (by omega) (by omega), mm 515 0 (by omega) (by omega) (by omega) (by omega) (by omega), c7, m7]
      · rw [mc 2 7 (by omega), K2]
      · refine ⟨L, if P < p + 1 then p + 1 else P, ?_, hL, ?_, ?_⟩
        · rw [cc 2 5 (by omega) (by omega) (by omega) (by omega)]; exact c7
        · rw [mc 2 7 (by omega)]; exact e25
        · by_cases z : P < p + 1
          · rw [if_pos z]; omega
          · rw [if_neg z]; omega
      · have q14k := q14 k hk
        rw [show 2 + 39 + 17 * k = 41 + 17 * k by omega] at q14k ⊢
        exact PR_same q14k (fun y i y1 y2 => cc y i (by omega) (by omega) (by omega) (by omega)) (fun y y1 y2 => mm y k (by omega) (by omega) (by omega) (by omega) (by omega)) (fun y i y0 y1 y2 => mm y i (by omega) (by omega) (by omega) (by omega) (by omega))
      · by_cases kp' : k = p
        · subst kp'
          rw [show 2 + 49 + 17 * k = 51 + 17 * k by omega, show 3 * 0 + k = k by omega]
          have cel : ∀ y i : Nat, y ≤ 6 → gi m2 (51 + 17 * k + y) i = gi e1 (51 + 17 * k + y) i := fun y i q => by rw [mc _ i (by omega), he2, gi_si_if, if_neg (by omega)]
          refine LR_new (c := c') (m := m') n16 la ?_ K3 (fun y r y1 y2 hr => ?_) (fun y i y3 y6 hi => ?_) (fun i hi => ?_)
          · have := cel 0 0 (by omega)
            rw [Nat.add_zero] at this
            rw [this, B1.1 0 (by decide), cpC 105 0 (by omega) (by omega)]
            exact g105
          · rw [cel y r (by omega), B1.2 (y, 16) (lC_16 y (by omega) y1) r hr]
            exact cpC (105 + y) r (by omega) (by omega)
          · rw [cel y i (by omega), B1.2 (y, 64) (lC_64 y (by omega) y3) i hi]
            exact cpC (105 + y) i (by omega) (by omega)
          · rw [K8 i hi, o1 _ _ (by omega)]
        · have q15k := q15 k hk
          rw [show 2 + 49 + 17 * k = 51 + 17 * k by omega] at q15k ⊢
          exact LR_same q15k (fun y i y1 y2 => cc y i (by omega) (by omega) (by omega) (by omega)) (mm 523 k (by omega) (by omega) (by omega) (by omega) (by omega)) (fun i _ _ => mm 524 i (by omega) (by omega) (by omega) (by omega) (by omega))
    · -- a FAULT
      rw [if_neg snd, if_pos rfl] at C1
      obtain ⟨m', v, M1, M2, M3, M4, _⟩ := g2 dA (fun _ _ _ => rfl)
      have gb := good_both N M4
      rw [if_neg snd] at gb
      have fM : F_X10_law Z0.1 N 510 (iz x) dA = some (-1, si (si m' 513 0 (gi c' 94 6)) 514 0 (gi c' 94 7)) := M1.trans ((F_X10_law_68_s Z0.1 N 510 (iz x) v m').trans (bnd gb (if_pos rfl)))
      have o : ∀ y k : Nat, ¬ (y = 510 ∨ 528 ≤ y ∧ y ≤ 530) → ¬ (512 ≤ y ∧ y ≤ 514 ∧ k = 0) → gi (si (si m' 513 0 (gi c' 94 6)) 514 0 (gi c' 94 7)) y k = gi dA y k := fun y k q1 q2 => by
        rw [gi_si_if, if_neg (by omega), gi_si_if, if_neg (by omega), M2 y k q1 q2]
      refine ⟨-1, dA, _, C1, fM, Inv_tape h ?_ ?_ ?_ ?_ (fun y k q => ?_) (fun y k q => ?_)⟩
      · rw [o 2 1 (by omega) (by omega), oA 2 1 (by omega), r3 2 1 (by omega)]; exact k1
      · rw [gi_si_if, if_neg (by omega), gi_si_if, if_neg (by omega)]; exact M3
      · rw [o 2 2 (by omega) (by omega), A2, gi_si_if, if_neg (by omega), gi_si_if, if_pos ⟨rfl, rfl⟩]
      · rw [o 2 3 (by omega) (by omega), A3, gi_si_if, if_pos ⟨rfl, rfl⟩]
      · rw [o y k (by omega) (by omega), fA y k (by omega) (by omega)]
      · rw [o y k (by omega) (by omega), fA y k (by omega) (by omega)]
