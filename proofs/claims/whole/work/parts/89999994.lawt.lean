/-! reading a LAW: a test -/
theorem c_setT (N n t w : Nat) (s num nb : Int32) (d : DY) (hn : n < 16) (ht : t < 4) (hw : w ≤ 10) (h0 : gi d 105 0 = iz n) : F_X2_setTest Z0.1 N 105 (iz t) (iz w) s num nb d = some (si (si (si (si d 108 (4 * n + t) (iz w)) 109 (4 * n + t) s) 110 (4 * n + t) num) 111 (4 * n + t) nb) := by
  obtain ⟨_, _, l3, l4, l5, l6⟩ := lb_of 105 (by decide)
  have e : iz (n : Int) * (4 : Int32) + iz (t : Int) = iz ((4 * n + t : Nat) : Int) := by
    rw [show iz (n : Int) * (4 : Int32) = iz ((n * 4 : Nat) : Int) from iz_mul n 4, iz_add]
    exact congrArg iz (by omega)
  have i64 : ib (iz ((4 * n + t : Nat) : Int)) 64 := iz_ib (by omega)
  rw [F_X2_setTest_s, h0, if_neg (show ¬ (16 : Int32) ≤ iz (n : Int) from iz_nle (a := 16) (by omega)), if_neg (show ¬ iz (t : Int) < 0 from iz_nlt (b := 0) (by omega)), if_neg (show ¬ (4 : Int32) ≤ iz (t : Int) from iz_nle (a := 4) (by omega)), if_neg (show ¬ iz (w : Int) < 0 from iz_nlt (b := 0) (by omega)), if_neg (show ¬ (11 : Int32) ≤ iz (w : Int) from iz_nle (a := 11) (by omega)), e, if_pos i64, bd_eq, if_pos i64, bd_eq, if_pos i64, bd_eq, if_pos i64, bd_eq, l3, l4, l5, l6, tnn _ (4 * n + t) rfl (by omega)]
theorem c_62 (N n t w : Nat) (nb s num : Int32) (d : DY) (hs : gi d 94 6 = 0 → t < 4 ∧ n < 16 ∧ gi d 105 0 = iz n) (hw : w ≤ 10) : ∃ e : DY, F_X3_readTest_62 Z0.1 N 239 (iz t) nb (iz w) s num d = some e ∧ (∀ x k : Nat, ¬ (108 ≤ x ∧ x ≤ 111 ∧ k = 4 * n + t) → gi e x k = gi d x k) ∧ (∀ x k : Nat, gl e x k = gl d x k) ∧ (gi d 94 6 = 0 → gi e 108 (4 * n + t) = iz w ∧ gi e 109 (4 * n + t) = s ∧ gi e 110 (4 * n + t) = num ∧ gi e 111 (4 * n + t) = nb) := by
  have F := F_X3_readTest_62_s Z0.1 N 239 (iz t) nb (iz w) s num d
  rw [r_239_0, r_239_1, c_sound, sb_eq] at F
  by_cases z : gi d 94 6 = 0
  · obtain ⟨h1, h2, h3⟩ := hs z
    rw [if_pos z, if_neg (show ¬ (1 : Int32) = 0 by decide), c_setT N n t w s num nb d h2 h1 hw h3, sb_eq] at F
    refine ⟨_, F, fun x k q => ?_, fun _ _ => rfl, fun _ => ⟨?_, ?_, ?_, ?_⟩⟩
    · rw [gi_si_if, if_neg (by omega), gi_si_if, if_neg (by omega), gi_si_if, if_neg (by omega), gi_si_if, if_neg (by omega)]
    · rw [gi_si_if, if_neg (by omega), gi_si_if, if_neg (by omega), gi_si_if, if_neg (by omega), gi_si_if, if_pos ⟨rfl, rfl⟩]
    · rw [gi_si_if, if_neg (by omega), gi_si_if, if_neg (by omega), gi_si_if, if_pos ⟨rfl, rfl⟩]
    · rw [gi_si_if, if_neg (by omega), gi_si_if, if_pos ⟨rfl, rfl⟩]
    · rw [gi_si_if, if_pos ⟨rfl, rfl⟩]
  · rw [if_neg z, if_pos rfl] at F
    exact ⟨d, F, fun _ _ _ => rfl, fun _ _ => rfl, fun q => absurd q z⟩
theorem b_62 (N : Nat) (t nb w s num : Int32) (d : DY) (h : gi d 94 6 = 1) : F_X3_readTest_62 Z0.1 N 239 t nb w s num d = some d := by
  rw [F_X3_readTest_62_s, r_239_0, b_sound N d h, sb_eq, if_pos rfl]
theorem b_sign (N : Nat) (d : DY) (h : gi d 94 6 = 1) : F_X3_readSign Z0.1 N 239 d = some (2, d) := by
  rw [F_X3_readSign_s, r_239_0, b_isSign N _ d h, sb_eq, if_pos rfl, b_isSign N _ d h, sb_eq, if_pos rfl, b_needSign N _ d h, sb_eq]
/-- a test of both -/
def TRG (c m : DY) (k o : Nat) : Prop := ∃ wh : Nat, wh ≤ 10 ∧ gi c 108 k = iz wh ∧ gi m 530 o = iz wh ∧ (gi c 111 k = 0 ∧ gi m 530 (o + 3) = 0 ∨ gi c 111 k = 1 ∧ gi m 530 (o + 3) = 1) ∧ (8 ≤ wh ∧ gi c 109 k = 2 ∧ gi c 110 k = 1 ∧ gi m 530 (o + 1) = 0 ∨ wh < 8 ∧ gi c 110 k = gi m 530 (o + 2) ∧ (gi c 109 k = 0 ∧ gi m 530 (o + 1) = 60 ∨ gi c 109 k = 1 ∧ gi m 530 (o + 1) = 62 ∨ gi c 109 k = 2 ∧ gi m 530 (o + 1) = 61))
def frT4 (c c' : DY) (k0 : Nat) : Prop := ∀ x k : Nat, ¬ (x = 94 ∧ 2 ≤ k ∧ k ≤ 7) → ¬ (108 ≤ x ∧ x ≤ 111 ∧ k = k0) → gi c' x k = gi c x k
def frT5 (m m' : DY) (K : Nat) : Prop := ∀ x k : Nat, ¬ (x = 510 ∧ ((18 ≤ k ∧ k ≤ 28 ∧ k ≠ 19) ∨ k = 35 ∨ k = 37)) → ¬ (x = 530 ∧ K ≤ k ∧ k < K + 4) → gi m' x k = gi m x k
theorem trest_both {c m : DY} {Z : Nat → Int} {sz f : Nat} (N n t K : Nat) (nb : Int32) (hN : 900 ≤ N) (hT : TKS c m Z sz f) (h3 : FL3 c m f) (hn : n ≤ 16) (hK : K = 18 * n + 2 + 4 * min t 3) (h37 : gi m 510 37 = iz (min t 4 : Nat)) (hs : gi c 94 6 = 0 → t < 4 ∧ n < 16 ∧ gi c 105 0 = iz n) (hnb : gi m 530 (K + 3) = nb) (hb : nb = 0 ∨ nb = 1) : ∃ (c' m' : DY) (v : Int32), ((F_X3_readFind Z0.1 N 239 c).bind fun u4 => (if (8 : Int32) ≤ u4.1 then F_X3_readTest_62 Z0.1 N 239 (iz t) nb u4.1 (2 : Int32) (1 : Int32) u4.2 else (F_X3_readSign Z0.1 N 239 u4.2).bind fun u6 => (F_X6_needNumber Z0.1 N 94 u6.2).bind fun u9 => F_X3_readTest_62 Z0.1 N 239 (iz t) nb u4.1 u6.1 u9.1 u9.2)) = some c' ∧ F_X10_test_83 Z0.1 N 510 (iz K) m = some (v, m') ∧ frT4 c c' (4 * n + t) ∧ frT5 m m' K ∧ ((v = 0 ∧ ∃ w : Nat, BRK c' m' w) ∨ (v = 1 ∧ ∃ f' : Nat, TKS c' m' Z sz f' ∧ f < f' ∧ FLT c' m' f' ∧ gi m' 510 37 = iz (min (t + 1) 4 : Nat) ∧ (gi c' 94 6 = 0 → gi c 94 6 = 0 ∧ TRG c' m' (4 * n + t) K))) := by
  have n1 : ¬ (1 : Int32) = 0 := by decide
  have h6 := FL3_n1 h3
  have M0 := F_X10_test_83_s Z0.1 N 510 (iz K) m
  have K3 : K ≤ 302 := by omega
  rcases find_both N hN hT h6 with ⟨a1, a2⟩ | ⟨w, c1, w10, a1, a2, s1, kd⟩
  · obtain ⟨br, p1, p2⟩ := brk_both (c := c) (m := m) (f := f) (by have := hT.1; omega)
    refine ⟨_, _, 0, bnd a1 ((if_neg (show ¬ (8 : Int32) ≤ 0 by decide)).trans (bnd (b_sign N _ br.1) (bnd (b_num N _ br.1) (b_62 N _ _ _ _ _ _ br.1)))), ?_, fun x k q1 q2 => p1.1 x k q1, fun x k q1 q2 => p2.1 x k (by omega), Or.inl ⟨rfl, f, br⟩⟩
    exact M0.trans (bnd a2 ((if_pos rfl).trans (bnd (m_stops N f m hT.2.2.2.1.2) (if_pos (show zb (0 : Int32) by decide)))))
  · obtain ⟨m1, hm1⟩ : ∃ m1 : DY, m1 = si (si (si m 530 K (iz w)) 530 (K + 1) 0) 530 (K + 2) 0 := ⟨_, rfl⟩
    obtain ⟨m2, hm2⟩ : ∃ m2 : DY, m2 = si m1 510 37 (iz (min (t + 1) 4 : Nat)) := ⟨_, rfl⟩
    have o1 : ∀ x k : Nat, ¬ (x = 530 ∧ K ≤ k ∧ k < K + 3) → gi m1 x k = gi m x k := fun x k q => by rw [hm1, gi_si_if, if_neg (by omega), gi_si_if, if_neg (by omega), gi_si_if, if_neg (by omega)]
    have o2 : ∀ x k : Nat, ¬ (x = 530 ∧ K ≤ k ∧ k < K + 3) → ¬ (x = 510 ∧ k = 37) → gi m2 x k = gi m x k := fun x k q q2 => by rw [hm2, gi_si_if, if_neg q2, o1 x k q]
    have e1 : iz (K : Int) + (1 : Int32) = iz ((K + 1 : Nat) : Int) := iz_add K 1
    have e2 : iz (K : Int) + (2 : Int32) = iz ((K + 2 : Nat) : Int) := iz_add K 2
    have M1 : F_X10_test_83 Z0.1 N 510 (iz K) m = (F_X10_token Z0.1 N 510 m2).bind fun u2 => (if iz w < (8 : Int32) then (F_X10_isSignOf Z0.1 N 510 (60 : Int32) u2).bind fun u4 => (if u4.1 = 0 then (F_X10_isSignOf Z0.1 N 510 (62 : Int32) u4.2).bind fun u6 => (if u6.1 = 0 then (F_X10_isSignOf Z0.1 N 510 (61 : Int32) u6.2).bind fun u8 => (if u8.1 = 0 then (F_X10_stops Z0.1 N 510 u8.2).bind fun u10 => if zb u10.1 then some (u10.1, u10.2) else none else F_X10_test_189 Z0.1 N 510 (iz K) u8.2) else F_X10_test_189 Z0.1 N 510 (iz K) u6.2) else F_X10_test_189 Z0.1 N 510 (iz K) u4.2) else some ((1 : Int32), u2)) := by
      rw [M0, a2, sb_eq, if_neg (show ¬ iz (w : Int) = (-1 : Int32) from fun q => by
        have := congrArg Int32.toInt q
        rw [iz_toInt (by omega) (by omega)] at this
        exact absurd this (by show ¬ (w : Int) = -1; omega)), if_pos (show ib (iz (K : Int)) 306 from iz_ib (by omega)), bd_eq, e1, if_pos (show ib (iz ((K + 1 : Nat) : Int)) 306 from iz_ib (by omega)), bd_eq, e2, if_pos (show ib (iz ((K + 2 : Nat) : Int)) 306 from iz_ib (by omega)), bd_eq, r_510_38, tnn _ K rfl (by omega), tnn _ (K + 1) rfl (by omega), tnn _ (K + 2) rfl (by omega), ← hm1, o1 510 37 (by omega), h37]
      by_cases z : t < 4
      · rw [if_neg (show ¬ (4 : Int32) ≤ iz ((min t 4 : Nat) : Int) from iz_nle (a := 4) (by omega)), F_X10_test_141_s, bd_eq, show iz ((min t 4 : Nat) : Int) + (1 : Int32) = iz ((min (t + 1) 4 : Nat) : Int) from (iz_add _ 1).trans (congrArg iz (by omega)), ← hm2]
      · rw [if_pos (show (4 : Int32) ≤ iz ((min t 4 : Nat) : Int) from iz_lei (a := 4) (by omega)), F_X10_test_141_s, bd_eq, show iz ((min t 4 : Nat) : Int) + (0 : Int32) = iz ((min (t + 1) 4 : Nat) : Int) from (iz_add _ 0).trans (congrArg iz (by omega)), ← hm2]
    have T2 : TKS c m2 Z sz f := TKS_fr hT (fun _ _ _ => rfl) (fun x k q => o2 x k (by omega) (by omega)) (by rw [hm2, hm1]; rfl)
    obtain ⟨c1', m3, s1', t3, T3, fx1, fy3⟩ := both_step N hN T2
    have ec : c1' = c1 := Option.some.inj (s1'.symm.trans s1)
    subst ec
    have f1 := (nx_b Z sz f hT.1.2).2.2 (by omega)
    rw [t3, sb_eq] at M1
    have g37 : gi m3 510 37 = iz (min (t + 1) 4 : Nat) := by rw [fy3.1 510 37 (by omega), hm2, gi_si_if, if_pos ⟨rfl, rfl⟩]
    have o3 : ∀ x k : Nat, ¬ (x = 530 ∧ K ≤ k ∧ k < K + 3) → ¬ (x = 510 ∧ (k = 37 ∨ k = 18 ∨ k = 20 ∨ k = 21 ∨ k = 22)) → gi m3 x k = gi m x k := fun x k q q2 => by rw [fy3.1 x k (by omega), o2 x k q (by omega)]
    have g530 : ∀ k : Nat, gi m3 530 k = gi m1 530 k := fun k => by rw [fy3.1 530 k (by omega), hm2, gi_si_if, if_neg (by omega)]
    have gK0 : gi m3 530 K = iz w := by rw [g530, hm1, gi_si_if, if_neg (by omega), gi_si_if, if_neg (by omega), gi_si_if, if_pos ⟨rfl, rfl⟩]
    have gK1 : gi m3 530 (K + 1) = 0 := by rw [g530, hm1, gi_si_if, if_neg (by omega), gi_si_if, if_pos ⟨rfl, rfl⟩]
    have F3 : FLT c1' m3 (nx Z sz f) := FLT_of3 (FL3_cells h3 (fx1.1 94 6 (by omega)) (fx1.1 94 7 (by omega)) (o3 510 25 (by omega) (by omega)) (o3 510 26 (by omega) (by omega))) f1
    have s6 : gi c1' 94 6 = gi c 94 6 := fx1.1 94 6 (by omega)
    have nbK : gi m3 530 (K + 3) = nb := by rw [o3 530 _ (by omega) (by omega)]; exact hnb
    by_cases w8 : 8 ≤ w
    · -- no sign, no number
      rw [if_neg (show ¬ iz (w : Int) < (8 : Int32) from iz_nlt (b := 8) (by omega))] at M1
      obtain ⟨e, E1, E2, E3, E4⟩ := c_62 N n t w nb 2 1 c1' (fun z => by
        obtain ⟨h1, h2, h4⟩ := hs (s6.symm.trans z)
        exact ⟨h1, h2, (fx1.1 105 0 (by omega)).trans h4⟩) w10
      refine ⟨e, m3, 1, bnd a1 ((if_pos (show (8 : Int32) ≤ iz (w : Int) from iz_lei (a := 8) (by omega))).trans E1), M1, fun x k q1 q2 => by rw [E2 x k q2, fx1.1 x k (by omega)], fun x k q1 q2 => o3 x k (by omega) (by omega), Or.inr ⟨rfl, _, TKS_fr T3 (fun x k q => E2 x k (by omega)) (fun _ _ _ => rfl) rfl, f1, FLT_cells F3 (E2 _ _ (by omega)) (E2 _ _ (by omega)) rfl rfl, g37, fun z => ?_⟩⟩
      have z1 : gi c1' 94 6 = 0 := (E2 94 6 (by omega)).symm.trans z
      obtain ⟨y1, y2, y3, y4⟩ := E4 z1
      refine ⟨s6.symm.trans z1, w, w10, y1, gK0, ?_, Or.inl ⟨w8, y2, y3, gK1⟩⟩
      rw [y4, nbK]
      rcases hb with q | q
      · exact Or.inl ⟨q, q⟩
      · exact Or.inr ⟨q, q⟩
    · rw [if_pos (show iz (w : Int) < (8 : Int32) from iz_lti (b := 8) (by omega))] at M1
      have C1 : ∀ R : Option DY, ((F_X3_readSign Z0.1 N 239 c1').bind fun u6 => (F_X6_needNumber Z0.1 N 94 u6.2).bind fun u9 => F_X3_readTest_62 Z0.1 N 239 (iz t) nb (iz w) u6.1 u9.1 u9.2) = R → ((F_X3_readFind Z0.1 N 239 c).bind fun u4 => (if (8 : Int32) ≤ u4.1 then F_X3_readTest_62 Z0.1 N 239 (iz t) nb u4.1 (2 : Int32) (1 : Int32) u4.2 else (F_X3_readSign Z0.1 N 239 u4.2).bind fun u6 => (F_X6_needNumber Z0.1 N 94 u6.2).bind fun u9 => F_X3_readTest_62 Z0.1 N 239 (iz t) nb u4.1 u6.1 u9.1 u9.2)) = R := fun R hR => bnd a1 ((if_neg (show ¬ (8 : Int32) ≤ iz (w : Int) from iz_nle (a := 8) (by omega))).trans hR)
      have n6 : gi c1' 94 6 ≠ 1 := by rw [s6]; exact h6
      rcases sgn_both N hN T3 n6 (F_X10_test_189 Z0.1 N 510 (iz K)) (fun d => (F_X10_stops Z0.1 N 510 d).bind fun u10 => if zb u10.1 then some (u10.1, u10.2) else none) with ⟨b1, b2⟩ | ⟨s, ch, c2, hsc, b1, s2, kd3, g22, b2⟩
      · obtain ⟨br, p1, p2⟩ := brk_both (c := c1') (m := m3) (f := nx Z sz f) (by have := T3.1; omega)
        refine ⟨_, _, 0, C1 _ (bnd b1 (bnd (b_num N _ br.1) (b_62 N _ _ _ _ _ _ br.1))), M1.trans (b2.trans (bnd (m_stops N _ m3 T3.2.2.2.1.2) (if_pos (show zb (0 : Int32) by decide)))), fun x k q1 q2 => by rw [p1.1 x k q1, fx1.1 x k (by omega)], fun x k q1 q2 => by rw [p2.1 x k (by omega), o3 x k (by omega) (by omega)], Or.inl ⟨rfl, _, br⟩⟩
      · have M2 := M1.trans b2
        rw [F_X10_test_189_s, e1, if_pos (show ib (iz ((K + 1 : Nat) : Int)) 306 from iz_ib (by omega)), bd_eq, r_510_38, tnn _ (K + 1) rfl (by omega), g22, e2] at M2
        obtain ⟨m4, hm4⟩ : ∃ m4 : DY, m4 = si m3 530 (K + 1) ch := ⟨_, rfl⟩
        rw [← hm4] at M2
        have o4 : ∀ x k : Nat, ¬ (x = 530 ∧ k = K + 1) → gi m4 x k = gi m3 x k := fun x k q => by rw [hm4, gi_si_if, if_neg q]
        have T4 : TKS c1' m4 Z sz (nx Z sz f) := TKS_fr T3 (fun _ _ _ => rfl) (fun x k q => o4 x k (by omega)) (by rw [hm4]; rfl)
        obtain ⟨c2', m5, s2', t5, T5, fx2, fy5⟩ := both_step N hN T4
        have ec : c2' = c2 := Option.some.inj (s2'.symm.trans s2)
        subst ec
        have f2 := (nx_b Z sz (nx Z sz f) T3.1.2).2.2 (by omega)
        rw [t5, sb_eq] at M2
        have n62 : gi c2' 94 6 ≠ 1 := by rw [fx2.1 94 6 (by omega)]; exact n6
        have F5 : FLT c2' m5 (nx Z sz (nx Z sz f)) := FLT_up (FLT_cells F3 (fx2.1 94 6 (by omega)) (fx2.1 94 7 (by omega)) (by rw [fy5.1 510 25 (by omega), o4 510 25 (by omega)]) (by rw [fy5.1 510 26 (by omega), o4 510 26 (by omega)])) (by omega)
        rcases nbr_both N hN T5 n62 with ⟨d1, d2⟩ | ⟨v, c3, d1, s3, g21, g22', kd2⟩
        · obtain ⟨br, p1, p2⟩ := brk_both (c := c2') (m := m5) (f := nx Z sz (nx Z sz f)) (by have := T5.1; omega)
          rw [if_neg d2] at M2
          refine ⟨_, _, 0, C1 _ (bnd b1 (bnd d1 (b_62 N _ _ _ _ _ _ br.1))), M2.trans (bnd (m_stops N _ m5 T5.2.2.2.1.2) (if_pos (show zb (0 : Int32) by decide))), fun x k q1 q2 => by rw [p1.1 x k q1, fx2.1 x k (by omega), fx1.1 x k (by omega)], fun x k q1 q2 => by rw [p2.1 x k (by omega), fy5.1 x k (by omega), o4 x k (by omega), o3 x k (by omega) (by omega)], Or.inl ⟨rfl, _, br⟩⟩
        · rw [if_pos g21, if_pos (show ib (iz ((K + 2 : Nat) : Int)) 306 from iz_ib (by omega)), bd_eq, tnn _ (K + 2) rfl (by omega), g22'] at M2
          obtain ⟨m6, hm6⟩ : ∃ m6 : DY, m6 = si m5 530 (K + 2) v := ⟨_, rfl⟩
          rw [← hm6] at M2
          have o6 : ∀ x k : Nat, ¬ (x = 530 ∧ k = K + 2) → gi m6 x k = gi m5 x k := fun x k q => by rw [hm6, gi_si_if, if_neg q]
          have T6 : TKS c2' m6 Z sz (nx Z sz (nx Z sz f)) := TKS_fr T5 (fun _ _ _ => rfl) (fun x k q => o6 x k (by omega)) (by rw [hm6]; rfl)
          obtain ⟨c3', m7, s3', t7, T7, fx3, fy7⟩ := both_step N hN T6
          have ec : c3' = c3 := Option.some.inj (s3'.symm.trans s3)
          subst ec
          have f3 := (nx_b Z sz (nx Z sz (nx Z sz f)) T5.1.2).2.2 (by omega)
          rw [t7, sb_eq] at M2
          have s63 : gi c3' 94 6 = gi c 94 6 := by rw [fx3.1 94 6 (by omega), fx2.1 94 6 (by omega)]; exact s6
          have F7 : FLT c3' m7 (nx Z sz (nx Z sz (nx Z sz f))) := FLT_up (FLT_cells F5 (fx3.1 94 6 (by omega)) (fx3.1 94 7 (by omega)) (by rw [fy7.1 510 25 (by omega), o6 510 25 (by omega)]) (by rw [fy7.1 510 26 (by omega), o6 510 26 (by omega)])) (by omega)
          obtain ⟨e, E1, E2, E3, E4⟩ := c_62 N n t w nb s v c3' (fun z => by
            obtain ⟨h1, h2, h4⟩ := hs (s63.symm.trans z)
            exact ⟨h1, h2, by rw [fx3.1 105 0 (by omega), fx2.1 105 0 (by omega), fx1.1 105 0 (by omega)]; exact h4⟩) w10
          have o7 : ∀ k : Nat, k ≠ K + 2 → k ≠ K + 1 → gi m7 530 k = gi m3 530 k := fun k q1 q2 => by rw [fy7.1 530 k (by omega), o6 530 k (by omega), fy5.1 530 k (by omega), o4 530 k (by omega)]
          refine ⟨e, m7, 1, C1 _ (bnd b1 (bnd d1 E1)), M2, fun x k q1 q2 => by rw [E2 x k q2, fx3.1 x k (by omega), fx2.1 x k (by omega), fx1.1 x k (by omega)], fun x k q1 q2 => by rw [fy7.1 x k (by omega), o6 x k (by omega), fy5.1 x k (by omega), o4 x k (by omega), o3 x k (by omega) (by omega)], Or.inr ⟨rfl, _, TKS_fr T7 (fun x k q => E2 x k (by omega)) (fun _ _ _ => rfl) rfl, by omega, FLT_cells F7 (E2 _ _ (by omega)) (E2 _ _ (by omega)) rfl rfl, ?_, fun z => ?_⟩⟩
          · rw [fy7.1 510 37 (by omega), o6 510 37 (by omega), fy5.1 510 37 (by omega), o4 510 37 (by omega)]; exact g37
          · have z1 : gi c3' 94 6 = 0 := (E2 94 6 (by omega)).symm.trans z
            obtain ⟨y1, y2, y3, y4⟩ := E4 z1
            have q1 : gi m7 530 (K + 1) = ch := by rw [fy7.1 530 _ (by omega), o6 530 _ (by omega), fy5.1 530 _ (by omega), hm4, gi_si_if, if_pos ⟨rfl, rfl⟩]
            have q2 : gi m7 530 (K + 2) = v := by rw [fy7.1 530 _ (by omega), hm6, gi_si_if, if_pos ⟨rfl, rfl⟩]
            refine ⟨s63.symm.trans z1, w, w10, y1, (o7 K (by omega) (by omega)).trans gK0, ?_, Or.inr ⟨by omega, y3.trans q2.symm, ?_⟩⟩
            · rw [y4, o7 (K + 3) (by omega) (by omega), nbK]
              rcases hb with q | q
              · exact Or.inl ⟨q, q⟩
              · exact Or.inr ⟨q, q⟩
            · rw [y2, q1]; exact hsc
