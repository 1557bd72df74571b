/-! two -/
theorem eq_two (N : Nat) (pa la na wa : Int32) (dy : DY) (hN : 200000 ≤ N) (h : Inv dy) : ∃ r dy1 dy2, F_X9_two Z0.1 N 1 pa la na wa dy = some (r, dy1) ∧ F_X10_two Z0.1 N 510 pa la na wa dy1 = some (r, dy2) ∧ Inv dy2 := by
  obtain ⟨x, rfl, x1, x2⟩ := iz_ex pa
  obtain ⟨y, rfl, y1, y2⟩ := iz_ex la
  obtain ⟨z, rfl, z1, z2⟩ := iz_ex na
  obtain ⟨v, rfl, v1, v2⟩ := iz_ex wa
  obtain ⟨p, l, p3, l3, e1, m1, e2, m2⟩ := cnts h
  have n1 : ¬ (1 : Int32) = 0 := by decide
  obtain ⟨cp1, cp2⟩ := c_prep N x y p l dy x1 x2 y1 y2 e1 p3 e2 l3
  -- what the class asks of what
  have C0 : F_X9_two Z0.1 N 1 (iz x) (iz y) (iz z) (iz v) dy = F_X9_two_24 Z0.1 N 1 (iz x) (iz y) (iz z) (iz v) (if v = 0 ∨ (10 ≤ v ∧ v < 19) then 1 else 0) dy := by
    rw [F_X9_two_s]
    by_cases a : v = 0
    · rw [if_pos (show iz v = 0 by rw [a]; rfl), if_pos (Or.inl a)]
    · rw [if_neg (show ¬ iz v = 0 from fun q => a (by
        have := congrArg Int32.toInt q
        rw [iz_toInt v1 v2] at this
        exact this))]
      by_cases b : v < 10
      · rw [if_pos (show iz v < (10 : Int32) from iz_lti (b := 10) (by omega)), if_neg (by omega)]
      · rw [if_neg (show ¬ iz v < (10 : Int32) from iz_nlt (b := 10) (by omega))]
        by_cases c : 19 ≤ v
        · rw [if_pos (show (19 : Int32) ≤ iz v from iz_lei (a := 19) (by omega)), if_neg (by omega)]
        · rw [if_neg (show ¬ (19 : Int32) ≤ iz v from iz_nle (a := 19) (by omega)), if_pos (by omega)]
  rw [F_X9_two_24_s] at C0
  -- the reference, on any dy1
  have M0 : ∀ d : DY, gi d 515 0 = iz p → gi d 522 0 = iz l → ∀ n : Nat, n ≤ 12 → ((0 ≤ x ∧ x < p) → gi d 518 x.toNat = iz n) → F_X10_two Z0.1 N 510 (iz x) (iz y) (iz z) (iz v) d = if ((0 ≤ x ∧ x < p) ∧ (0 ≤ y ∧ y < l)) ∧ n = 2 ∧ (0 ≤ z ∧ z ≤ 8) ∧ (v = 0 ∨ (10 ≤ v ∧ v < 19)) then F_X10_two_60 Z0.1 N 510 (iz x) (iz y) (iz z) (iz v) (si d 510 0 0) else some (-1, si d 510 0 0) := fun d q1 q2 n hn q3 => by
    have k1 : gi (si d 510 0 0) 515 0 = iz p := by rw [gi_si_if, if_neg (by omega)]; exact q1
    have k2 : gi (si d 510 0 0) 522 0 = iz l := by rw [gi_si_if, if_neg (by omega)]; exact q2
    rw [F_X10_two_s, bd_eq, m_isPas N x p _ x1 x2 k1 p3, sb_eq]
    by_cases okP : 0 ≤ x ∧ x < p
    · rw [if_pos okP, if_neg n1, m_isLaw N y l _ y1 y2 k2 l3, sb_eq]
      by_cases okL : 0 ≤ y ∧ y < l
      · have k3 : gi (si d 510 0 0) 518 x.toNat = iz n := by rw [gi_si_if, if_neg (by omega)]; exact q3 okP
        rw [if_pos okL, if_neg n1, if_pos (show ib (iz x) 12 from by
          obtain ⟨k, rfl⟩ : ∃ k : Nat, x = k := ⟨x.toNat, by omega⟩
          exact iz_ib (by omega)), r_510_8, show (iz x).toNatClampNeg = x.toNat from by
          obtain ⟨k, rfl⟩ : ∃ k : Nat, x = k := ⟨x.toNat, by omega⟩
          rw [tnn _ k rfl (by omega), Int.toNat_natCast], k3]
        by_cases n2 : n = 2
        · rw [if_pos (show iz (n : Int) = 2 by rw [n2]; rfl), show (8 : Int32) = iz 8 from rfl, m_in0 _ _ z 8 _ z1 z2 (by omega) (by omega), sb_eq]
          by_cases okZ : 0 ≤ z ∧ z ≤ 8
          · rw [if_pos okZ, if_neg n1]
            by_cases a : v = 0
            · rw [if_pos (show iz v = 0 by rw [a]; rfl), if_pos ⟨⟨okP, okL⟩, n2, okZ, Or.inl a⟩]
            · rw [if_neg (show ¬ iz v = 0 from fun q => a (by
                have := congrArg Int32.toInt q
                rw [iz_toInt v1 v2] at this
                exact this)), show (10 : Int32) = iz 10 from rfl, show (18 : Int32) = iz 18 from rfl, m_inz _ _ v 10 18 _ v1 v2 (by omega) (by omega) (by omega) (by omega), sb_eq]
              by_cases b : 10 ≤ v ∧ v ≤ 18
              · rw [if_pos b, if_neg n1, if_pos ⟨⟨okP, okL⟩, n2, okZ, Or.inr ⟨b.1, by omega⟩⟩]
              · rw [if_neg b, if_pos rfl, if_neg (fun q => by omega)]
          · rw [if_neg okZ, if_pos rfl, if_neg (fun q => okZ q.2.2.1)]
        · rw [if_neg (show ¬ iz (n : Int) = 2 from iz_nei (b := 2) (by omega)), if_neg (fun q => n2 q.2.1)]
      · rw [if_neg okL, if_pos rfl, if_neg (fun q => okL q.1.2)]
    · rw [if_neg okP, if_pos rfl, if_neg (fun q => okP q.1.1)]
  -- nothing is asked for
  have no : ∀ n : Nat, n ≤ 12 → ((0 ≤ x ∧ x < p) → gi dy 518 x.toNat = iz n) → ¬ (((0 ≤ x ∧ x < p) ∧ (0 ≤ y ∧ y < l)) ∧ n = 2 ∧ (0 ≤ z ∧ z ≤ 8) ∧ (v = 0 ∨ (10 ≤ v ∧ v < 19))) → ∀ d : DY, (∀ x i : Nat, ¬ (95 ≤ x ∧ x ≤ 111) → gi d x i = gi dy x i) → F_X9_two Z0.1 N 1 (iz x) (iz y) (iz z) (iz v) dy = some (-1, d) → ∃ r dy1 dy2, F_X9_two Z0.1 N 1 (iz x) (iz y) (iz z) (iz v) dy = some (r, dy1) ∧ F_X10_two Z0.1 N 510 (iz x) (iz y) (iz z) (iz v) dy1 = some (r, dy2) ∧ Inv dy2 := fun n hn q1 q2 d hd hC => by
    refine ⟨-1, d, si d 510 0 0, hC, ?_, inv_try h (fun x i a1 a2 a3 a4 => by rw [gi_si_if, if_neg (by omega)]; exact hd x i (by omega))⟩
    rw [M0 d ((hd _ _ (by omega)).trans m1) ((hd _ _ (by omega)).trans m2) n hn (fun q => (hd _ _ (by omega)).trans (q1 q)), if_neg q2]
  -- how many are there
  obtain ⟨n, n12, hn⟩ : ∃ n : Nat, n ≤ 12 ∧ ((0 ≤ x ∧ x < p) → gi dy 518 x.toNat = iz n) := by
    by_cases okP : 0 ≤ x ∧ x < p
    · obtain ⟨_, _, _, _, _, _, _, q14, _⟩ := h.1
      obtain ⟨_, _, n, ⟨_, _, n12⟩, _, _, _, ⟨_, g⟩, _⟩ := q14 x.toNat (by omega)
      rw [show 3 * 0 + x.toNat = x.toNat by omega] at g
      exact ⟨n, n12, fun _ => g⟩
    · exact ⟨0, by omega, fun q => absurd q okP⟩
  by_cases okV : v = 0 ∨ (10 ≤ v ∧ v < 19)
  rotate_left
  · rw [if_neg okV, if_pos rfl] at C0
    exact no n n12 hn (fun q => okV q.2.2.2) dy (fun _ _ _ => rfl) C0
  rw [if_pos okV, if_neg n1] at C0
  by_cases zn : z < 0
  · rw [if_pos (show iz z < 0 from iz_lti (b := 0) (by omega))] at C0
    exact no n n12 hn (fun q => by omega) dy (fun _ _ _ => rfl) C0
  rw [if_neg (show ¬ iz z < 0 from iz_nlt (b := 0) (by omega))] at C0
  by_cases z8 : 8 < z
  · rw [if_pos (show (8 : Int32) < iz z from iz_lti (a := 8) (by omega))] at C0
    exact no n n12 hn (fun q => by omega) dy (fun _ _ _ => rfl) C0
  rw [if_neg (show ¬ (8 : Int32) < iz z from iz_nlt (a := 8) (by omega))] at C0
  by_cases ok : (0 ≤ x ∧ x < p) ∧ (0 ≤ y ∧ y < l)
  rotate_left
  · rw [cp2 ok, sb_eq, if_pos rfl] at C0
    exact no n n12 hn (fun q => ok q.1) dy (fun _ _ _ => rfl) C0
  obtain ⟨c1, E1, C⟩ := cp1 ok
  rw [E1, sb_eq, if_neg n1, r_1_4] at C0
  obtain ⟨k, rfl⟩ : ∃ k : Nat, x = k := ⟨x.toNat, by omega⟩
  obtain ⟨j, rfl⟩ : ∃ j : Nat, y = j := ⟨y.toNat, by omega⟩
  obtain ⟨n0, rfl⟩ : ∃ n0 : Nat, z = n0 := ⟨z.toNat, by omega⟩
  rw [Int.toNat_natCast, Int.toNat_natCast] at C
  have k3 : k < 3 := by omega
  have j3 : j < 3 := by omega
  obtain ⟨L, W, n', q1, q2, q3, q4⟩ := PREP_of h k3 j3 C (m := dy) (fun _ _ _ _ => rfl)
  have en : n' = n := by
    have a := hn ok.1
    rw [Int.toNat_natCast] at a
    have := q2.symm.trans a
    rw [iz_inj (by omega) (by omega) (by omega) (by omega)] at this
    omega
  subst en
  have g3 : gi c1 95 3 = iz n' := (GRD_of q4).2.1.2.2
  by_cases n2 : n' = 2
  rotate_left
  · rw [g3, if_neg (show ¬ iz (n' : Int) = 2 from iz_nei (b := 2) (by omega))] at C0
    exact no n' n12 hn (fun q => n2 q.2.1) c1 (fun x i q => C.2.2.1 x i (by omega)) C0
  subst n2
  rw [g3, if_pos (show iz ((2 : Nat) : Int) = 2 from rfl)] at C0
  -- the kind
  obtain ⟨kd, kd10, hkd⟩ : ∃ kd : Nat, kd < 10 ∧ (v = 0 ∧ kd = 0 ∨ v ≠ 0 ∧ (kd : Int) = v - 9) := by
    rcases okV with q | q
    · exact ⟨0, by omega, Or.inl ⟨q, rfl⟩⟩
    · exact ⟨(v - 9).toNat, by omega, Or.inr ⟨by omega, by omega⟩⟩
  obtain ⟨r, c', P1, P2, P3⟩ := parts_both N k j L W n0 kd hN k3 j3 c1 dy q4 (by omega) kd10
  have C1 : F_X9_two Z0.1 N 1 (iz (k : Int)) (iz (j : Int)) (iz (n0 : Int)) (iz v) dy = some (r, c') := by
    rw [C0]
    rcases hkd with ⟨q, w⟩ | ⟨q, w⟩
    · rw [if_pos (show iz v = 0 by rw [q]; rfl), F_X9_two_84_s, r_1_7]
      rw [w] at P1
      exact bnd P1 rfl
    · rw [if_neg (show ¬ iz v = 0 from fun u => q (by
        have := congrArg Int32.toInt u
        rw [iz_toInt v1 v2] at this
        exact this)), F_X9_two_84_s, r_1_7, show iz v - (9 : Int32) = iz (kd : Int) from (iz_sub v 9).trans (congrArg iz (by omega))]
      exact bnd P1 rfl
  have cs : ∀ x i : Nat, ¬ (94 ≤ x ∧ x ≤ 239) → gi c' x i = gi dy x i := fun x i hx => (P2 x i hx).trans (C.2.2.1 x i (by omega))
  obtain ⟨w1, w2, u1, u2, u3, u4, u5⟩ := P3 (si c' 510 0 0) (fun x i a b => by rw [gi_si_if, if_neg (by omega)]; exact cs x i (by omega))
  refine ⟨r, c', w2, C1, ?_, inv_try h (fun x i a1 a2 a3 a4 => by rw [u5 x i a2 a3 a4, gi_si_if, if_neg (by omega)]; exact cs x i a1)⟩
  rw [M0 c' ((cs _ _ (by omega)).trans m1) ((cs _ _ (by omega)).trans m2) 2 (by omega) (fun q => (cs _ _ (by omega)).trans (hn q)), if_pos ⟨ok, rfl, ⟨by omega, by omega⟩, okV⟩, F_X10_two_60_s]
  refine bnd u1 (bnd u2 ?_)
  rcases hkd with ⟨q, w⟩ | ⟨q, w⟩
  · exact (if_pos (show iz v = 0 by rw [q]; rfl)).trans (congrArg (fun a => some (a, w2)) (u3 w))
  · have e9 : iz v - (10 : Int32) = iz ((kd - 1 : Nat) : Int) := (iz_sub v 10).trans (congrArg iz (by omega))
    refine (if_neg (show ¬ iz v = 0 from fun u => q (by
      have := congrArg Int32.toInt u
      rw [iz_toInt v1 v2] at this
      exact this))).trans ?_
    rw [e9, if_pos (show ib (iz ((kd - 1 : Nat) : Int)) 9 from iz_ib (by omega)), r_510_54, tnn _ (kd - 1) rfl (by omega), u4 (kd - 1) (by omega) (by omega)]
