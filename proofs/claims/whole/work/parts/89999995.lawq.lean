/-! reading a LAW: a test in its rule -/
def LWQ (c m : DY) (n : Nat) : Prop := ∀ r : Nat, r < n → (∃ d : Nat, d ≤ 5 ∧ gi c 106 r = iz d ∧ gi m 530 (18 * r) = iz d) ∧ ∃ t : Nat, t ≤ 4 ∧ gi c 107 r = iz t ∧ gi m 530 (18 * r + 1) = iz t ∧ ∀ k : Nat, k < t → TRG c m (4 * r + k) (18 * r + 2 + 4 * k)
def LW (j : Nat) (c m : DY) : Prop := gi m 510 36 = iz (min j 16 : Nat) ∧ (gi c 94 6 = 0 → j ≤ 16 ∧ gi c 105 0 = iz j ∧ LWQ c m j)
def RP (j t : Nat) (c m : DY) : Prop := gi m 510 36 = iz (min j 16 : Nat) ∧ gi m 510 37 = iz (min t 4 : Nat) ∧ (gi c 94 6 = 0 → j < 16 ∧ t ≤ 4 ∧ gi c 105 0 = iz j ∧ LWQ c m j ∧ ∀ k : Nat, k < t → TRG c m (4 * j + k) (18 * j + 2 + 4 * k))
theorem TRG_fr {c m c' m' : DY} {k o : Nat} (h : TRG c m k o) (hc : ∀ x : Nat, 108 ≤ x → x ≤ 111 → gi c' x k = gi c x k) (hm : ∀ i : Nat, o ≤ i → i < o + 4 → gi m' 530 i = gi m 530 i) : TRG c' m' k o := by
  unfold TRG
  rw [hc 108 (by omega) (by omega), hc 109 (by omega) (by omega), hc 110 (by omega) (by omega), hc 111 (by omega) (by omega), hm o (by omega) (by omega), hm (o + 1) (by omega) (by omega), hm (o + 2) (by omega) (by omega), hm (o + 3) (by omega) (by omega)]
  exact h
theorem LWQ_fr {c m c' m' : DY} {n : Nat} (h : LWQ c m n) (hc : ∀ x k : Nat, (106 ≤ x ∧ x ≤ 107 ∧ k < n) ∨ (108 ≤ x ∧ x ≤ 111 ∧ k < 4 * n) → gi c' x k = gi c x k) (hm : ∀ i : Nat, i < 18 * n → gi m' 530 i = gi m 530 i) : LWQ c' m' n := by
  intro r hr
  obtain ⟨⟨d, d1, d2, d3⟩, t, t1, t2, t3, t4⟩ := h r hr
  exact ⟨⟨d, d1, (hc 106 r (by omega)).trans d2, (hm _ (by omega)).trans d3⟩, t, t1, (hc 107 r (by omega)).trans t2, (hm _ (by omega)).trans t3, fun k hk => TRG_fr (t4 k hk) (fun x q1 q2 => hc x _ (by omega)) (fun i q1 q2 => hm i (by omega))⟩
theorem RP_fr {c m c' m' : DY} {j t : Nat} (h : RP j t c m) (hc : ∀ x k : Nat, 105 ≤ x → x ≤ 111 → gi c' x k = gi c x k) (hs : gi c' 94 6 = 0 → gi c 94 6 = 0) (hm : ∀ x k : Nat, x = 510 ∧ (k = 36 ∨ k = 37) ∨ x = 530 → gi m' x k = gi m x k) : RP j t c' m' := by
  obtain ⟨h1, h2, h3⟩ := h
  refine ⟨(hm _ _ (by omega)).trans h1, (hm _ _ (by omega)).trans h2, fun z => ?_⟩
  obtain ⟨a, b, d, e, g⟩ := h3 (hs z)
  exact ⟨a, b, (hc _ _ (by omega) (by omega)).trans d, LWQ_fr e (fun x k q => hc x k (by omega) (by omega)) (fun i _ => hm _ _ (by omega)), fun k hk => TRG_fr (g k hk) (fun x q1 q2 => hc x _ (by omega) (by omega)) (fun i _ _ => hm _ _ (by omega))⟩
/-- what a part of a rule leaves -/
def LT (c m c' m' : DY) (v : Int32) (Z : Nat → Int) (sz f : Nat) (R : DY → DY → Prop) : Prop := frLC c c' ∧ frLM m m' ∧ ((v = 0 ∧ ∃ w : Nat, BRK c' m' w) ∨ (v = 1 ∧ ∃ f' : Nat, TKS c' m' Z sz f' ∧ f < f' ∧ FLT c' m' f' ∧ (gi c' 94 6 = 0 → gi c 94 6 = 0) ∧ R c' m'))
theorem test_both {c m : DY} {Z : Nat → Int} {sz f : Nat} (N j t : Nat) (hN : 900 ≤ N) (hT : TKS c m Z sz f) (hF : FLT c m f) (hR : RP j t c m) (ht : t ≤ 500) : ∃ (c' m' : DY) (v : Int32), F_X3_readTest Z0.1 N 239 (iz t) c = some c' ∧ F_X10_test Z0.1 N 510 m = some (v, m') ∧ LT c m c' m' v Z sz f (RP j (t + 1)) := by
  have n1 : ¬ (1 : Int32) = 0 := by decide
  have f500 : f ≤ 500 := by have := hT.1; omega
  -- too many
  have st : ∃ c0 m0 : DY, F_X3_readTest Z0.1 N 239 (iz t) c = F_X3_readTest_20 Z0.1 N 239 (iz t) c0 ∧ F_X10_test Z0.1 N 510 m = F_X10_test_17 Z0.1 N 510 m0 ∧ TKS c0 m0 Z sz f ∧ FL3 c0 m0 f ∧ RP j t c0 m0 ∧ frP c c0 ∧ frQ m m0 ∧ (gi c0 94 6 = 0 → gi c 94 6 = 0 ∧ t < 4) := by
    have C := F_X3_readTest_s Z0.1 N 239 (iz t) c
    have M := F_X10_test_s Z0.1 N 510 m
    rw [r_239_0, hT.2.2.2.1.1] at C
    rw [hR.2.1, hT.2.2.2.1.2] at M
    by_cases z : t < 4
    · rw [if_pos (show iz (t : Int) < (4 : Int32) from iz_lti (b := 4) (by omega))] at C
      rw [if_neg (show ¬ iz ((min t 4 : Nat) : Int) = (4 : Int32) from iz_nei (b := 4) (by omega))] at M
      exact ⟨c, m, C, M, hT, FL3_of hF, hR, frP_re c, frQ_re m, fun q => ⟨q, z⟩⟩
    · rw [if_neg (show ¬ iz (t : Int) < (4 : Int32) from iz_nlt (b := 4) (by omega))] at C
      rw [if_pos (show iz ((min t 4 : Nat) : Int) = (4 : Int32) from by rw [show min t 4 = 4 by omega]; rfl)] at M
      obtain ⟨c1, m1, q1, q2, q3, q4, q5, q6, q7, q8, q9⟩ := note_both N (c := c) (m := m) (at_ := f) (F0 := 3) f500 (by omega) (Or.inl hF)
      exact ⟨c1, m1, C.trans (bnd q1 rfl), M.trans (bnd q2 rfl), TKS_fr hT (fun x k q => q6 x k (by omega)) (fun x k q => q8 x k (by omega)) (q9 _ _), q5 rfl, RP_fr hR (fun x k _ _ => q6 x k (by omega)) (fun z => absurd z q4) (fun x k q => q8 x k (by omega)), ⟨fun x k q => q6 x k (by omega), q7⟩, ⟨fun x k q => q8 x k (by omega), fun x k _ => q9 x k⟩, fun z => absurd z q4⟩
  obtain ⟨c0, m0, C0, M0, T0, F0, R0, P0, Q0, S0⟩ := st
  have h60 := FL3_n1 F0
  obtain ⟨K, hK⟩ : ∃ K : Nat, K = 18 * min j 16 + 2 + 4 * min t 3 := ⟨_, rfl⟩
  have C1 := C0.trans (F_X3_readTest_20_s Z0.1 N 239 (iz t) c0)
  rw [r_239_0] at C1
  -- the reference's place
  have M1 : F_X10_test Z0.1 N 510 m = (F_X10_isWord Z0.1 N 510 (7237492 : Int64) m0).bind fun u2 => (if u2.1 = 0 then F_X10_test_68 Z0.1 N 510 (iz K) 530 (iz ((K + 3 : Nat) : Int)) (0 : Int32) u2.2 else F_X10_test_68 Z0.1 N 510 (iz K) 530 (iz ((K + 3 : Nat) : Int)) (1 : Int32) u2.2) := by
    have e1 : (18 : Int32) * iz ((min j 16 : Nat) : Int) + (2 : Int32) = iz ((18 * min j 16 + 2 : Nat) : Int) := by
      rw [show (18 : Int32) * iz ((min j 16 : Nat) : Int) = iz ((18 * min j 16 : Nat) : Int) from (iz_mul 18 _).trans (congrArg iz (by omega))]
      exact iz_add _ 2
    have e2 : ∀ y : Nat, y = min t 3 → iz ((18 * min j 16 + 2 : Nat) : Int) + (4 : Int32) * iz (y : Int) = iz (K : Int) := fun y hy => by
      rw [show (4 : Int32) * iz (y : Int) = iz ((4 * y : Nat) : Int) from (iz_mul 4 _).trans (congrArg iz (by omega)), iz_add]
      exact congrArg iz (by omega)
    rw [M0, F_X10_test_17_s, R0.2.1, R0.1, e1]
    by_cases z : t < 4
    · rw [if_neg (show ¬ (4 : Int32) ≤ iz ((min t 4 : Nat) : Int) from iz_nle (a := 4) (by omega)), F_X10_test_43_s, e2 (min t 4) (by omega), r_510_38, show iz (K : Int) + (3 : Int32) = iz ((K + 3 : Nat) : Int) from iz_add K 3]
    · rw [if_pos (show (4 : Int32) ≤ iz ((min t 4 : Nat) : Int) from iz_lei (a := 4) (by omega)), F_X10_test_43_s, show (3 : Int32) = iz ((3 : Nat) : Int) from rfl, e2 3 (by omega), r_510_38, show iz (K : Int) + iz ((3 : Nat) : Int) = iz ((K + 3 : Nat) : Int) from iz_add K 3]
  have M68 : ∀ nb : Int32, F_X10_test_68 Z0.1 N 510 (iz K) 530 (iz ((K + 3 : Nat) : Int)) nb m0 = (F_X10_isWord Z0.1 N 510 (7237492 : Int64) (si m0 530 (K + 3) nb)).bind fun u2 => (if u2.1 = 0 then F_X10_test_83 Z0.1 N 510 (iz K) u2.2 else (F_X10_token Z0.1 N 510 u2.2).bind fun u4 => F_X10_test_83 Z0.1 N 510 (iz K) u4) := fun nb => by
    rw [F_X10_test_68_s, if_pos (show ib (iz ((K + 3 : Nat) : Int)) 306 from iz_ib (by omega)), bd_eq, tnn _ (K + 3) rfl (by omega)]
  have T1 : ∀ nb : Int32, TKS c0 (si m0 530 (K + 3) nb) Z sz f := fun nb => TKS_fr T0 (fun _ _ _ => rfl) (fun x k q => by rw [gi_si_if, if_neg (by omega)]) rfl
  -- the rest
  have fin : ∀ (c1 m1 : DY) (nb : Int32) (f1 : Nat), (nb = 0 ∨ nb = 1) → TKS c1 m1 Z sz f1 → f ≤ f1 → FL3 c1 m1 f1 → frX c0 c1 → frY (si m0 530 (K + 3) nb) m1 → F_X3_readTest Z0.1 N 239 (iz t) c = ((F_X3_readFind Z0.1 N 239 c1).bind fun u4 => (if (8 : Int32) ≤ u4.1 then F_X3_readTest_62 Z0.1 N 239 (iz t) nb u4.1 (2 : Int32) (1 : Int32) u4.2 else (F_X3_readSign Z0.1 N 239 u4.2).bind fun u6 => (F_X6_needNumber Z0.1 N 94 u6.2).bind fun u9 => F_X3_readTest_62 Z0.1 N 239 (iz t) nb u4.1 u6.1 u9.1 u9.2)) → F_X10_test Z0.1 N 510 m = F_X10_test_83 Z0.1 N 510 (iz K) m1 → ∃ (c' m' : DY) (v : Int32), F_X3_readTest Z0.1 N 239 (iz t) c = some c' ∧ F_X10_test Z0.1 N 510 m = some (v, m') ∧ LT c m c' m' v Z sz f (RP j (t + 1)) := fun c1 m1 nb f1 hb T f1f F fx fy hC hM => by
    have o1 : ∀ x k : Nat, ¬ (x = 530 ∧ k = K + 3) → ¬ (x = 510 ∧ (k = 18 ∨ k = 20 ∨ k = 21 ∨ k = 22)) → gi m1 x k = gi m0 x k := fun x k q1 q2 => by rw [fy.1 x k q2, gi_si_if, if_neg q1]
    obtain ⟨c', m', v, a1, a2, a3, a4, a5⟩ := trest_both N (min j 16) t K nb hN T F (by omega) hK (by rw [o1 510 37 (by omega) (by omega)]; exact R0.2.1) (fun z => by
      have z0 : gi c0 94 6 = 0 := (fx.1 94 6 (by omega)).symm.trans z
      obtain ⟨j16, _, g0, _⟩ := R0.2.2 z0
      refine ⟨(S0 z0).2, by omega, ?_⟩
      rw [fx.1 105 0 (by omega), g0, show min j 16 = j by omega]) (by rw [fy.1 530 _ (by omega), gi_si_if, if_pos ⟨rfl, rfl⟩]) hb
    refine ⟨c', m', v, hC.trans a1, hM.trans a2, fun x k q => by rw [a3 x k (by omega) (by omega), fx.1 x k (by omega), P0.1 x k (by omega)], fun x k q => by rw [a4 x k (by omega) (by omega), o1 x k (by omega) (by omega), Q0.1 x k (by omega)], ?_⟩
    rcases a5 with z | ⟨v1, f', b1, b2, b3, b4, b5⟩
    · exact Or.inl z
    · have up : gi c' 94 6 = 0 → gi c0 94 6 = 0 := fun z => (fx.1 94 6 (by omega)).symm.trans (b5 z).1
      refine Or.inr ⟨v1, f', b1, by omega, b3, fun z => (S0 (up z)).1, ?_, b4, fun z => ?_⟩
      · rw [a4 510 36 (by omega) (by omega), o1 510 36 (by omega) (by omega)]; exact R0.1
      · have z0 := up z
        obtain ⟨j16, t4, g0, la, tr⟩ := R0.2.2 z0
        have t4' := (S0 z0).2
        have hj : min j 16 = j := by omega
        have hK' : K = 18 * j + 2 + 4 * t := by omega
        have tn := (b5 z).2
        rw [hj] at tn a3
        refine ⟨j16, by omega, ?_, LWQ_fr la (fun x k q => ?_) (fun i hi => ?_), fun k hk => ?_⟩
        · rw [a3 105 0 (by omega) (by omega), fx.1 105 0 (by omega)]; exact g0
        · rw [a3 x k (by omega) (by omega), fx.1 x k (by omega)]
        · rw [a4 530 i (by omega) (by omega), o1 530 i (by omega) (by omega)]
        · by_cases e : k = t
          · rw [e, ← hK']; exact tn
          · refine TRG_fr (tr k (by omega)) (fun x q1 q2 => ?_) (fun i q1 q2 => ?_)
            · rw [a3 x _ (by omega) (by omega), fx.1 x _ (by omega)]
            · rw [a4 530 i (by omega) (by omega), o1 530 i (by omega) (by omega)]
  rcases takes_both N 13 7237492 hN T0 h60 wol_13 with ⟨x1, x2⟩ | ⟨c1, s, x1, x2, kd⟩
  · have y2 : F_X10_isWord Z0.1 N 510 7237492 (si m0 530 (K + 3) 0) = some (0, si m0 530 (K + 3) 0) := by
      rcases takes_both N 13 7237492 hN (T1 0) h60 wol_13 with ⟨_, z⟩ | ⟨_, _, z, _⟩
      · exact z
      · exact absurd (Prod.mk.inj (Option.some.inj (x1.symm.trans z))).1 (by decide)
    exact fin c0 _ 0 f (Or.inl rfl) (T1 0) (by omega) (FL3_cells F0 rfl rfl (by rw [gi_si_if, if_neg (by omega)]) (by rw [gi_si_if, if_neg (by omega)])) (frX_re c0) (frY_re _) (C1.trans (bnd x1 rfl)) (M1.trans (bnd x2 ((if_pos rfl).trans ((M68 0).trans (bnd y2 (if_pos rfl))))))
  · have y2 : F_X10_isWord Z0.1 N 510 7237492 (si m0 530 (K + 3) 1) = some (1, si m0 530 (K + 3) 1) := by
      rcases takes_both N 13 7237492 hN (T1 1) h60 wol_13 with ⟨z, _⟩ | ⟨_, _, _, z, _⟩
      · exact absurd (Prod.mk.inj (Option.some.inj (x1.symm.trans z))).1 (by decide)
      · exact z
    obtain ⟨c1', m2, s', t2, T2, fx, fy⟩ := both_step N hN (T1 1)
    have ec : c1' = c1 := Option.some.inj (s'.symm.trans s)
    subst ec
    have ff := (nx_b Z sz f hT.1.2).2.2 (by omega)
    refine fin c1' m2 1 (nx Z sz f) (Or.inr rfl) T2 (by omega) (FL3_of (FLT_of3 (FL3_cells F0 (fx.1 94 6 (by omega)) (fx.1 94 7 (by omega)) ?_ ?_) ff)) fx fy (C1.trans (bnd x1 rfl)) (M1.trans (bnd x2 ((if_neg n1).trans ((M68 1).trans (bnd y2 ((if_neg n1).trans (bnd t2 rfl)))))))
    · rw [fy.1 510 25 (by omega), gi_si_if, if_neg (by omega)]
    · rw [fy.1 510 26 (by omega), gi_si_if, if_neg (by omega)]
