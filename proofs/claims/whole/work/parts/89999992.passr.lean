/-! passage: both sides -/
/-- all told but what reading may change -/
def KEP (dy e : DY) (lo hi : Nat) : Prop := (∀ x k : Nat, (x = 2 ∧ (k = 11)) ∨ (3 ≤ x ∧ x ≤ 91 ∧ ¬ (lo ≤ x ∧ x ≤ hi)) ∨ (240 ≤ x ∧ x ≤ 509) ∨ x = 93 → gi e x k = gi dy x k)
theorem PR_same {d e : DY} {k : Nat} (h : PR d (41 + 17 * k) (3 * 0 + k)) (hc : ∀ x i : Nat, 41 + 17 * k ≤ x → x ≤ 41 + 17 * k + 9 → gi e x i = gi d x i) (h6 : ∀ x : Nat, 516 ≤ x → x ≤ 519 → gi e x k = gi d x k) (h20 : ∀ x i : Nat, x = 520 ∨ x = 521 → 96 * k ≤ i → i < 96 * k + 96 → gi e x i = gi d x i) : PR e (41 + 17 * k) (3 * 0 + k) := by
  have hp9 : ∀ p ∈ pC, p.1 ≤ 9 := by decide
  rw [show 3 * 0 + k = k by omega] at h ⊢
  exact PR_of h ⟨fun f hf => hc _ f (by omega) (by omega), fun p hp i hi => hc _ i (by omega) (by have := hp9 p hp; omega)⟩ (h6 516 (by omega) (by omega)) (h6 517 (by omega) (by omega)) (h6 518 (by omega) (by omega)) (h6 519 (by omega) (by omega)) (fun i hi => h20 520 _ (by omega) (by omega) (by omega)) (fun i hi => h20 521 _ (by omega) (by omega) (by omega))
theorem LR_same {d e : DY} {k : Nat} (h : LR d (51 + 17 * k) (gi d 523 (3 * 0 + k)) 524 (288 * (3 * 0 + k))) (hc : ∀ x i : Nat, 51 + 17 * k ≤ x → x ≤ 51 + 17 * k + 6 → gi e x i = gi d x i) (h3 : gi e 523 k = gi d 523 k) (h4 : ∀ i : Nat, 288 * k ≤ i → i < 288 * k + 288 → gi e 524 i = gi d 524 i) : LR e (51 + 17 * k) (gi e 523 (3 * 0 + k)) 524 (288 * (3 * 0 + k)) := by
  have hp6 : ∀ p ∈ lC, p.1 ≤ 6 := by decide
  rw [show 3 * 0 + k = k by omega] at h ⊢
  exact LR_of h ⟨fun f hf => hc _ f (by omega) (by omega), fun p hp i hi => hc _ i (by omega) (by have := hp6 p hp; omega)⟩ h3 (fun i hi => h4 _ (by omega) (by omega))
theorem cnts {dy : DY} (h : Inv dy) : ∃ P L : Nat, P ≤ 3 ∧ L ≤ 3 ∧ gi dy 2 5 = iz P ∧ gi dy 515 0 = iz P ∧ gi dy 2 7 = iz L ∧ gi dy 522 0 = iz L := by
  obtain ⟨_, _, _, ⟨g8, g9⟩, ⟨P, L, a, b, c, d⟩, _⟩ := h.1
  exact ⟨P, L, b, d, a, g8.symm.trans a, c, g9.symm.trans c⟩
/-- nothing but the tape and the FAULT has changed -/
theorem Inv_tape {d e : DY} (h : Inv d) (t1 : gi e 2 1 = 0) (t2 : gi e 512 0 = 0) (f1 : gi e 2 2 = gi e 513 0) (f2 : gi e 2 3 = gi e 514 0) (hc : ∀ x k : Nat, (x = 2 ∧ (k = 5 ∨ k = 7 ∨ k = 11)) ∨ (3 ≤ x ∧ x ≤ 91) ∨ (240 ≤ x ∧ x ≤ 509) ∨ x = 93 → gi e x k = gi d x k) (hm : ∀ x k : Nat, (x = 511 ∨ (512 ≤ x ∧ x ≤ 514 ∧ 1 ≤ k) ∨ (515 ≤ x ∧ x ≤ 527)) ∨ (x = 531 ∧ k < 2880) ∨ x = 546 → gi e x k = gi d x k) : Inv e := by
  obtain ⟨_, _, _, ⟨g8, g9⟩, g10, _, _, g14, g15, _⟩ := id h.1
  refine Inv_read h t1 t2 f1 f2 ⟨?_, ?_⟩ ?_ (fun k hk => ?_) (fun k hk => ?_) (fun x k q => hc x k (by omega)) (fun x k q => hm x k (by omega))
  · rw [hc 2 5 (by omega), hm 515 _ (by omega)]; exact g8
  · rw [hc 2 7 (by omega), hm 522 _ (by omega)]; exact g9
  · unfold cntOk
    rw [hc 2 5 (by omega), hc 2 7 (by omega)]; exact g10
  · exact PR_same (g14 k hk) (fun x i q1 q2 => hc x i (by omega)) (fun x q1 q2 => hm x _ (by omega)) (fun x i q1 _ _ => hm x i (by omega))
  · exact LR_same (g15 k hk) (fun x i q1 q2 => hc x i (by omega)) (hm 523 _ (by omega)) (fun i _ _ => hm 524 i (by omega))
theorem m_pas (N : Nat) (x : Int) (P : Nat) (d : DY) (x1 : -2147483648 ≤ x) (x2 : x < 2147483648) (hP : P ≤ 3) (s : Int32) (h2 : gi d 512 0 = s) (h5 : gi d 515 0 = iz P) : F_X10_passage Z0.1 N 510 (iz x) d = if slotP x P = -2 then some (-2, mt (si d 510 0 0) s) else F_X10_passage_38 Z0.1 N 510 (iz x) (mt (si d 510 0 0) s) := by
  have i4 : ib (0 : Int32) 4 := by decide
  have e5 : gi (mt (si d 510 0 0) s) 515 0 = iz P := by rw [gi_mtn _ _ _ _ (by omega), gi_si_if, if_neg (by omega)]; exact h5
  have ip : F_X10_isPassage Z0.1 N 510 (iz x) (mt (si d 510 0 0) s) = some (if iz x < 0 then (0 : Int32) else if iz (P : Int) - (1 : Int32) < iz x then 0 else 1, mt (si d 510 0 0) s) := by
    rw [F_X10_isPassage_s, if_pos i4, r_510_5, show (0 : Int32).toNatClampNeg = 0 from rfl, e5]
    refine bnd (m_in _ _ _ _ _ _) ?_
    by_cases z : iz x < 0
    · rw [if_pos z]; exact if_pos (show zb (0 : Int32) by decide)
    · rw [if_neg z]
      by_cases w : iz (P : Int) - (1 : Int32) < iz x
      · rw [if_pos w]; exact if_pos (show zb (0 : Int32) by decide)
      · rw [if_neg w]; exact if_pos (show zb (1 : Int32) by decide)
  rw [← m_slot x P x1 x2 hP, F_X10_passage_s, bd_eq, m_tape N (si d 510 0 0) s (by rw [gi_si_if, if_neg (by omega)]; exact h2), sb_eq, if_pos i4, r_510_5, show (0 : Int32).toNatClampNeg = 0 from rfl, e5, ip, sb_eq]
theorem eq_passage (N : Nat) (a : Int32) (dy : DY) (hN : 900 ≤ N) (h : Inv dy) : ∃ r dy1 dy2, F_X9_passage Z0.1 N 1 a dy = some (r, dy1) ∧ F_X10_passage Z0.1 N 510 a dy1 = some (r, dy2) ∧ Inv dy2 := by
  obtain ⟨x, rfl, x1, x2⟩ := iz_ex a
  obtain ⟨P, L, hP, hL, c5, m5, c7, m7⟩ := cnts h
  obtain ⟨sz, Z, h5, t1, t2, tz⟩ := tape_Z h
  have C0 : F_X9_passage Z0.1 N 1 (iz x) dy = _ := (F_X9_passage_s Z0.1 N 1 (iz x) dy).trans (by
    rw [r_1_0, r_1_8, r_1_3, r_1_4, c_tape, sb_eq, gi_ct dy 2 5 (by omega), c5, c_slot N x P _ x1 x2 hP, sb_eq, t1])
  obtain ⟨k1, k2, k3⟩ := gi_ct1 dy
  rcases slotP_b x P hP with no | ⟨p, p3, sp, alt⟩
  · -- it can't be
    have M0 := m_pas N x P (ct dy) x1 x2 hP (iz sz) (by rw [gi_ct _ _ _ (by omega)]; exact t2) (by rw [gi_ct _ _ _ (by omega)]; exact m5)
    rw [no, if_pos rfl] at M0
    rw [no, if_pos (show iz (-2) = (-2 : Int32) by decide)] at C0
    obtain ⟨j1, j2, j3, j4, _⟩ := gi_mt (si (ct dy) 510 0 0) (iz sz)
    have o : ∀ y k : Nat, ¬ (y = 2 ∧ (k = 1 ∨ k = 2 ∨ k = 3)) → ¬ (y = 510) → ¬ ((y = 512 ∨ y = 513 ∨ y = 514) ∧ k = 0) → gi (mt (si (ct dy) 510 0 0) (iz sz)) y k = gi dy y k := fun y k q1 q2 q3 => by
      rw [gi_mtn _ _ _ _ (by omega), gi_si_if, if_neg (by omega), gi_ct _ _ _ q1]
    have o2 : ∀ k : Nat, gi (mt (si (ct dy) 510 0 0) (iz sz)) 2 k = gi (ct dy) 2 k := fun k => by
      rw [gi_mtn _ _ _ _ (by omega), gi_si_if, if_neg (by omega)]
    exact ⟨-2, _, _, C0, M0, Inv_tape h ((o2 1).trans k1) j2 ((o2 2).trans (k2.trans j3.symm)) ((o2 3).trans (k3.trans j4.symm)) (fun y k q => o y k (by omega) (by omega) (by omega)) (fun y k q => o y k (by omega) (by omega) (by omega))⟩
  · have n2 : ¬ slotP x P = -2 := by omega
    have ip : iz (slotP x P) = iz (p : Int) := congrArg iz sp
    rw [ip, if_neg (show ¬ iz (p : Int) = (-2 : Int32) from fun q => by
      have := congrArg Int32.toInt q
      rw [iz_toInt (by omega) (by omega)] at this
      exact absurd this (by show ¬ (p : Int) = -2; omega))] at C0
    -- what the class reads
    have bC : BYT (ct dy) Z := fun i hi => by rw [gi_ct _ _ _ (by omega)]; exact ⟨(tz i hi).1, (tz i hi).2.2⟩
    have rd : ∀ d : DY, (∀ i : Nat, i < 500 → gi d 511 i = gi dy 511 i) → ∃ (c' m' : DY) (v : Int32), F_X5_read Z0.1 N 238 (iz sz) (ct dy) = some (if gi c' 94 6 = 0 then 1 else 0, c') ∧ F_X10_passage_38 Z0.1 N 510 (iz x) (mt (si d 510 0 0) (iz sz)) = F_X10_passage_117 Z0.1 N 510 (iz x) v m' ∧ frLC (ct dy) c' ∧ frLM (mt (si d 510 0 0) (iz sz)) m' ∧ ENDS c' m' v ∧ (gi c' 94 6 = 0 → GRN c' m') := fun d hd => by
      obtain ⟨j1, j2, j3, j4, j5, j6⟩ := gi_mt (si d 510 0 0) (iz sz)
      exact readp_both N sz Z (iz x) (ct dy) _ hN h5 bC (fun i hi => by
        rw [gi_mtn _ _ _ _ (by omega), gi_si_if, if_neg (by omega), hd i hi]
        exact (tz i hi).2) j1 j5 j6
    obtain ⟨c', _, _, r1, _, r3, _⟩ := rd dy (fun _ _ => rfl)
    obtain ⟨dA, hdA⟩ : ∃ dA : DY, dA = si (si c' 2 2 (gi c' 94 6)) 2 3 (gi c' 94 7) := ⟨_, rfl⟩
    have oA : ∀ y k : Nat, ¬ (y = 2 ∧ (k = 2 ∨ k = 3)) → gi dA y k = gi c' y k := fun y k q => by rw [hdA, gi_si_if, if_neg (by omega), gi_si_if, if_neg (by omega)]
    have A2 : gi dA 2 2 = gi c' 94 6 := by rw [hdA, gi_si_if, if_neg (by omega), gi_si_if, if_pos ⟨rfl, rfl⟩]
    have A3 : gi dA 2 3 = gi c' 94 7 := by rw [hdA, gi_si_if, if_pos ⟨rfl, rfl⟩]
    have C1 := C0.trans (bnd r1 rfl)
    rw [bd_eq, bd_eq, show gi (si c' 2 2 (gi c' 94 6)) 94 7 = gi c' 94 7 from by rw [gi_si_if, if_neg (by omega)], ← hdA] at C1
    have fA : ∀ y k : Nat, ¬ (94 ≤ y ∧ y ≤ 111) → ¬ (y = 2 ∧ (k = 1 ∨ k = 2 ∨ k = 3)) → gi dA y k = gi dy y k := fun y k q1 q2 => by rw [oA y k (by omega), r3 y k q1, gi_ct _ _ _ q2]
    have g2 : ∀ d : DY, (∀ y k : Nat, 510 ≤ y → gi d y k = gi dA y k) → ∃ (m' : DY) (v : Int32), F_X10_passage Z0.1 N 510 (iz x) d = F_X10_passage_117 Z0.1 N 510 (iz x) v m' ∧ (∀ y k : Nat, ¬ (y = 510 ∨ 528 ≤ y ∧ y ≤ 530) → ¬ (512 ≤ y ∧ y ≤ 514 ∧ k = 0) → gi m' y k = gi d y k) ∧ gi m' 512 0 = 0 ∧ ENDS c' m' v ∧ (gi c' 94 6 = 0 → GRN c' m') := fun d hd => by
      obtain ⟨c'', m', v, s1, s2, s3, s4, s5, s6⟩ := rd d (fun i _ => by rw [hd 511 i (by omega), fA 511 i (by omega) (by omega)])
      have ec : c'' = c' := (Prod.mk.inj (Option.some.inj (s1.symm.trans r1))).2
      subst ec
      have M0 := m_pas N x P d x1 x2 hP (iz sz) (by rw [hd _ _ (by omega), fA 512 0 (by omega) (by omega)]; exact t2) (by rw [hd _ _ (by omega), fA 515 0 (by omega) (by omega)]; exact m5)
      rw [if_neg n2] at M0
      refine ⟨m', v, M0.trans s2, fun y k q1 q2 => ?_, ?_, s5, s6⟩
      · rw [s4 y k q1, gi_mtn _ _ _ _ (by omega), gi_si_if, if_neg (by omega)]
      · rw [s4 512 0 (by omega)]; exact (gi_mt _ _).2.1
    by_cases snd : gi c' 94 6 = 0
    · -- sound: it is kept
      rw [if_pos snd, if_neg (show ¬ (1 : Int32) = 0 by decide)] at C1
      obtain ⟨e1, E1, B1, F1⟩ := c_pcopy N 95 (41 + 17 * p) dA (by decide) (pb_k p p3) (by omega)
      obtain ⟨e2, he2⟩ : ∃ e2 : DY, e2 = si e1 2 5 (if gi e1 2 5 < iz (p : Int) + (1 : Int32) then iz (p : Int) + (1 : Int32) else gi e1 2 5) := ⟨_, rfl⟩
      have kp : F_X7_keepPassage Z0.1 N 2 (iz (p : Int)) 95 dA = some e2 := by
        rw [F_X7_keepPassage_s, if_neg (show ¬ iz (p : Int) < 0 from iz_nlt (b := 0) (by omega)), if_neg (show ¬ (3 : Int32) ≤ iz (p : Int) from iz_nle (a := 3) (by omega)), if_pos (show ib (iz (p : Int)) 3 from iz_ib (by omega)), r_2_4, tnn _ p rfl (by omega), r_4_k p p3]
        exact bnd E1 (by rw [bd_eq, he2])
      have C2 : F_X9_passage Z0.1 N 1 (iz x) dy = some (iz (p : Int), e2) := C1.trans (bnd kp rfl)
      have oe : ∀ y k : Nat, ¬ (41 + 17 * p ≤ y ∧ y ≤ 41 + 17 * p + 9) → ¬ (y = 2 ∧ k = 5) → gi e2 y k = gi dA y k := fun y k q1 q2 => by
        rw [he2, gi_si_if, if_neg (by omega)]
        exact F1.1 y k (by omega)
      have e15 : gi e1 2 5 = iz P := by rw [F1.1 2 5 (by omega), fA 2 5 (by omega) (by omega)]; exact c5
      have e25 : gi e2 2 5 = iz (if P < p + 1 then p + 1 else P : Nat) := by
        rw [he2, gi_si_if, if_pos ⟨rfl, rfl⟩, e15, show iz (p : Int) + (1 : Int32) = iz ((p + 1 : Nat) : Int) from iz_add p 1]
        by_cases z : P < p + 1
        · rw [if_pos z, if_pos (show iz (P : Int) < iz ((p + 1 : Nat) : Int) from iz_lti (by omega))]
        · rw [if_neg z, if_neg (show ¬ iz (P : Int) < iz ((p + 1 : Nat) : Int) from iz_nlt (by omega))]
      obtain ⟨m', v, M1, M2, M3, M4, M5⟩ := g2 e2 (fun y k q => oe y k (by omega) (by omega))
      have G := M5 snd
      have gb := good_both N M4
      rw [if_pos snd] at gb
      obtain ⟨m1, hm1⟩ : ∃ m1 : DY, m1 = si (si m' 513 0 (gi c' 94 6)) 514 0 (gi c' 94 7) := ⟨_, rfl⟩
      rw [← hm1] at gb
      have o1 : ∀ y k : Nat, ¬ ((y = 513 ∨ y = 514) ∧ k = 0) → gi m1 y k = gi m' y k := fun y k q => by rw [hm1, gi_si_if, if_neg (by omega), gi_si_if, if_neg (by omega)]
      obtain ⟨_, _, n, ⟨_, _, n12⟩, _, _, ⟨_, g31⟩, _⟩ := id G
      have g15 : gi m1 515 0 = iz P := by rw [o1 _ _ (by omega), M2 515 0 (by omega) (by omega), oe _ _ (by omega) (by omega), fA 515 0 (by omega) (by omega)]; exact m5
      obtain ⟨inc, m2, K1, K2, K3, K4, K5, K6, K7, K8, K9⟩ : ∃ (inc : Int32) (m2 : DY), F_X10_passage Z0.1 N 510 (iz x) e2 = some (iz (p : Int), m2) ∧ gi m2 515 0 = gi e2 2 5 ∧ gi m2 516 p = gi m1 510 29 ∧ gi m2 517 p = gi m1 510 30 ∧ gi m2 518 p = gi m1 510 31 ∧ gi m2 519 p = gi m1 510 32 ∧ (∀ i : Nat, i < 96 → gi m2 520 (96 * p + i) = gi m1 528 i) ∧ (∀ i : Nat, i < 8 * n → gi m2 521 (96 * p + i) = gi m1 529 i) ∧ ∀ x i : Nat, ¬ (x = 515 ∧ i = 0) → ¬ (516 ≤ x ∧ x ≤ 519 ∧ i = p) → ¬ ((x = 520 ∨ x = 521) ∧ 96 * p ≤ i ∧ i < 96 * p + 96) → gi m2 x i = gi m1 x i := by
        have i4 : ib (0 : Int32) 4 := by decide
        have t0 : (0 : Int32).toNatClampNeg = 0 := rfl
        have nz1 : ¬ (1 : Int32) = 0 := by decide
        have fM : F_X10_passage Z0.1 N 510 (iz x) e2 = _ := M1.trans ((F_X10_passage_117_s Z0.1 N 510 (iz x) v m').trans (bnd gb (if_neg nz1)))
        rw [if_pos i4, r_510_5, t0, g15] at fM
        rcases alt with ⟨xm, pP⟩ | ⟨xp, pP⟩
        · obtain ⟨m2, z1, z2, z3⟩ := m_161 N p n hN p3 n12 (iz P) 1 m1 (by rw [o1 _ _ (by omega)]; exact g31)
          refine ⟨1, m2, ?_, ?_, z3⟩
          · rw [fM, if_pos (show iz x = (-1 : Int32) by rw [xm]; rfl), F_X10_passage_142_s, if_pos i4, if_pos (show iz x = (-1 : Int32) by rw [xm]; rfl), r_510_5, t0, g15, ← pP]
            rw [← pP] at z1
            exact z1
          · rw [z2, e25, show iz (P : Int) + (1 : Int32) = iz ((P + 1 : Nat) : Int) from iz_add P 1, if_pos (by omega), pP]
        · have xn : ¬ iz x = (-1 : Int32) := fun q => by
            have := congrArg Int32.toInt q
            rw [iz_toInt x1 x2] at this
            exact absurd this (by show ¬ x = -1; omega)
          obtain ⟨m2, z1, z2, z3⟩ := m_161 N p n hN p3 n12 (iz P) 0 m1 (by rw [o1 _ _ (by omega)]; exact g31)
          refine ⟨0, m2, ?_, ?_, z3⟩
          · rw [fM, if_neg xn, F_X10_passage_142_s, if_pos i4, if_neg xn, r_510_5, t0, g15, xp]
            exact z1
          · rw [z2, e25, show iz (P : Int) + (0 : Int32) = iz ((P + 0 : Nat) : Int) from iz_add P 0, if_neg (by omega), Nat.add_zero]
      -- the class's cells in the end
      have mc : ∀ y k : Nat, y ≤ 509 → gi m2 y k = gi e2 y k := fun y k q => by rw [K9 y k (by omega) (by omega) (by omega), o1 y k (by omega), M2 y k (by omega) (by omega)]
      have mm : ∀ y k : Nat, ¬ (y ≤ 510 ∨ 528 ≤ y ∧ y ≤ 530) → ¬ (512 ≤ y ∧ y ≤ 515 ∧ k = 0) → ¬ (516 ≤ y ∧ y ≤ 519 ∧ k = p) → ¬ ((y = 520 ∨ y = 521) ∧ 96 * p ≤ k ∧ k < 96 * p + 96) → gi m2 y k = gi dy y k := fun y k q1 q2 q3 q4 => by
        rw [K9 y k (by omega) q3 q4, o1 y k (by omega), M2 y k (by omega) (by omega), oe y k (by omega) (by omega), fA y k (by omega) (by omega)]
      obtain ⟨_, _, _, ⟨_, _⟩, _, _, _, q14, q15, _⟩ := id h.1
      have cc : ∀ y k : Nat, y ≤ 509 → ¬ (94 ≤ y ∧ y ≤ 111) → ¬ (y = 2 ∧ (k = 1 ∨ k = 2 ∨ k = 3 ∨ k = 5)) → ¬ (41 + 17 * p ≤ y ∧ y ≤ 41 + 17 * p + 9) → gi m2 y k = gi dy y k := fun y k q0 q1 q2 q3 => by rw [mc y k q0, oe y k q3 (by omega), fA y k q1 (by omega)]
      have cpC : ∀ y k : Nat, 95 ≤ y → y ≤ 104 → gi dA y k = gi c' y k := fun y k q1 q2 => oA y k (by omega)
      refine ⟨iz (p : Int), e2, m2, C2, K1, Inv_read h ?_ ?_ ?_ ?_ ⟨?_, ?_⟩ ?_ (fun k hk => ?_) (fun k hk => ?_) (fun y k q => cc y k (by omega) (by omega) (by omega) (by omega)) (fun y k q => mm y k (by omega) (by omega) (by omega) (by omega))⟩
      · rw [mc 2 1 (by omega), oe 2 1 (by omega) (by omega), oA 2 1 (by omega), r3 2 1 (by omega)]; exact k1
      · rw [K9 512 0 (by omega) (by omega) (by omega), o1 512 0 (by omega)]; exact M3
      · rw [mc 2 2 (by omega), oe 2 2 (by omega) (by omega), A2, K9 513 0 (by omega) (by omega) (by omega), hm1, gi_si_if, if_neg (by omega), gi_si_if, if_pos ⟨rfl, rfl⟩]
      · rw [mc 2 3 (by omega), oe 2 3 (by omega) (by omega), A3, K9 514 0 (by omega) (by omega) (by omega), hm1, gi_si_if, if_pos ⟨rfl, rfl⟩]
      · rw [mc 2 5 (by omega), K2]
      · rw [cc 2 7 (by omega) (by omega) (by omega) (by omega), mm 522 0 (by omega) (by omega) (by omega) (by omega), c7, m7]
      · refine ⟨if P < p + 1 then p + 1 else P, L, ?_, ?_, ?_, hL⟩
        · rw [mc 2 5 (by omega)]; exact e25
        · by_cases z : P < p + 1
          · rw [if_pos z]; omega
          · rw [if_neg z]; omega
        · rw [cc 2 7 (by omega) (by omega) (by omega) (by omega)]; exact c7
      · by_cases kp' : k = p
        · subst kp'
          rw [show 2 + 39 + 17 * k = 41 + 17 * k by omega, show 3 * 0 + k = k by omega]
          have cel : ∀ y i : Nat, y ≤ 9 → gi m2 (41 + 17 * k + y) i = gi e1 (41 + 17 * k + y) i := fun y i q => by rw [mc _ i (by omega), he2, gi_si_if, if_neg (by omega)]
          refine PR_new (c := c') (m := m') G (fun f hf => ?_) (fun i hi => ?_) (fun y i y2 y9 hi => ?_) ?_ ?_ ?_ ?_ (fun i hi => ?_) (fun n' i hn' g31' hi => ?_)
          · have := cel 0 f (by omega)
            rw [Nat.add_zero] at this
            rw [this, B1.1 f (pF_in f hf)]
            exact cpC 95 f (by omega) (by omega)
          · rw [cel 1 i (by omega), B1.2 (1, 96) (by decide) i hi]
            exact cpC 96 i (by omega) (by omega)
          · rw [cel y i (by omega), B1.2 (y, 12) (pC_in y (by omega) y2) i hi]
            exact cpC (95 + y) i (by omega) (by omega)
          · rw [K3, o1 _ _ (by omega)]
          · rw [K4, o1 _ _ (by omega)]
          · rw [K5, o1 _ _ (by omega)]
          · rw [K6, o1 _ _ (by omega)]
          · rw [K7 i hi, o1 _ _ (by omega)]
          · have en : n' = n := by
              have := g31'.symm.trans g31
              rw [iz_inj (by omega) (by omega) (by omega) (by omega)] at this
              omega
            rw [K8 i (by omega), o1 _ _ (by omega)]
        · have q14k := q14 k hk
          rw [show 2 + 39 + 17 * k = 41 + 17 * k by omega] at q14k ⊢
          exact PR_same q14k (fun y i y1 y2 => cc y i (by omega) (by omega) (by omega) (by omega)) (fun y y1 y2 => mm y k (by omega) (by omega) (by omega) (by omega)) (fun y i y0 y1 y2 => mm y i (by omega) (by omega) (by omega) (by omega))
      · have q15k := q15 k hk
        rw [show 2 + 49 + 17 * k = 51 + 17 * k by omega] at q15k ⊢
        exact LR_same q15k (fun y i y1 y2 => cc y i (by omega) (by omega) (by omega) (by omega)) (mm 523 k (by omega) (by omega) (by omega) (by omega)) (fun i _ _ => mm 524 i (by omega) (by omega) (by omega) (by omega))
    · -- a FAULT
      rw [if_neg snd, if_pos rfl] at C1
      obtain ⟨m', v, M1, M2, M3, M4, _⟩ := g2 dA (fun _ _ _ => rfl)
      have gb := good_both N M4
      rw [if_neg snd] at gb
      have fM : F_X10_passage Z0.1 N 510 (iz x) dA = some (-1, si (si m' 513 0 (gi c' 94 6)) 514 0 (gi c' 94 7)) := M1.trans ((F_X10_passage_117_s Z0.1 N 510 (iz x) v m').trans (bnd gb (if_pos rfl)))
      have o : ∀ y k : Nat, ¬ (y = 510 ∨ 528 ≤ y ∧ y ≤ 530) → ¬ (512 ≤ y ∧ y ≤ 514 ∧ k = 0) → gi (si (si m' 513 0 (gi c' 94 6)) 514 0 (gi c' 94 7)) y k = gi dA y k := fun y k q1 q2 => by
        rw [gi_si_if, if_neg (by omega), gi_si_if, if_neg (by omega), M2 y k q1 q2]
      refine ⟨-1, dA, _, C1, fM, Inv_tape h ?_ ?_ ?_ ?_ (fun y k q => ?_) (fun y k q => ?_)⟩
      · rw [o 2 1 (by omega) (by omega), oA 2 1 (by omega), r3 2 1 (by omega)]; exact k1
      · rw [gi_si_if, if_neg (by omega), gi_si_if, if_neg (by omega)]; exact M3
      · rw [o 2 2 (by omega) (by omega), A2, gi_si_if, if_neg (by omega), gi_si_if, if_pos ⟨rfl, rfl⟩]
      · rw [o 2 3 (by omega) (by omega), A3, gi_si_if, if_pos ⟨rfl, rfl⟩]
      · rw [o y k (by omega) (by omega), fA y k (by omega) (by omega)]
      · rw [o y k (by omega) (by omega), fA y k (by omega) (by omega)]
