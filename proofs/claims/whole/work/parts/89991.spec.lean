/-! a trial told by what is told alone: each side for itself -/
theorem spec_gen (N n0 : Nat) (L W n : Nat) (ι : Nat → Nat) (M : Nat) (seed : Int32) (hN : 900 ≤ N) (h2 : n0 ≤ 200) (PC PM : DY → Prop) (lay : DY → Option DY) (hb : ∀ c m : DY, PC c → PM m → ∃ c' m1 : DY, F_X8_begin Z0.1 N 112 seed c = some c' ∧ lay m = some m1 ∧ RRx (mixD c' m1) 95 105 112 4 ι L W n M ∧ BG0 c' n ∧ frT1 c c' ∧ frT2 m m1) (c0 m0 : DY) (hc0 : PC c0) (hm0 : PM m0) : ∃ (A : Nat) (T : Nat → Int32), A ≤ n ∧ (∀ i : Nat, i < n → T i = -1 ∨ ∃ v : Nat, v < n0 ∧ T i = iz v) ∧ (∀ c : DY, PC c → ∃ c' : DY, F_X9_arrivals Z0.1 N 1 seed (iz n0) c = some (iz A, c') ∧ (∀ i : Nat, i < n → gi c' 115 i = T i) ∧ frT1 c c') ∧ ∀ m : DY, PM m → ∃ m1 m' : DY, lay m = some m1 ∧ F_X10_tryOn Z0.1 N 510 (iz n0) m1 = some m' ∧ gi m' 531 2886 = iz A ∧ (gi m' 531 2882 = iz M ∧ ∀ i : Nat, i < n → gi m' 531 (720 * 4 + 16 + 20 * ι i + 14) = T i) ∧ frT2 m m' := by
  obtain ⟨c1, m1, b1, b2, b3, b4, b5, b6⟩ := hb c0 m0 hc0 hm0
  have n12 : n ≤ 12 := b3.1.2.2.1
  obtain ⟨A, T, c2, m2, t1, t2, t3, t4, t5, t6, t7, t8, _⟩ := trial N L W n ι M c1 m1 n0 hN h2 b3 b4
  refine ⟨A, T, t1, fun i hi => (t6 i hi).2.2, fun c hc => ?_, fun m hm => ?_⟩
  · obtain ⟨c1', m1', y1, y2, y3, y4, y5, y6⟩ := hb c m0 hc hm0
    have em : m1' = m1 := Option.some.inj (y2.symm.trans b2)
    subst em
    obtain ⟨A', T', c2', m2', s1, s2, s3, s4, s5, s6, s7, s8, s9⟩ := trial N L W n ι M c1' m1' n0 hN h2 y3 y4
    have em : m2' = m2 := Option.some.inj (s3.symm.trans t3)
    subst em
    have eA : A' = A := by
      have := s4.symm.trans t4
      rw [iz_inj (by omega) (by omega) (by omega) (by omega)] at this
      omega
    subst eA
    refine ⟨c2', ?_, fun i hi => ?_, frT1_tr y5 s7⟩
    · rw [F_X9_arrivals_s, r_1_6]
      exact bnd y1 s2
    · rw [(s6 i hi).1, ← (t6 i hi).2.1, (s6 i hi).2.1]
  · obtain ⟨c1', m1', y1, y2, y3, y4, y5, y6⟩ := hb c0 m hc0 hm
    have ec : c1' = c1 := Option.some.inj (y1.symm.trans b1)
    subst ec
    obtain ⟨A', T', c2', m2', s1, s2, s3, s4, s5, s6, s7, s8, s9⟩ := trial N L W n ι M c1' m1' n0 hN h2 y3 y4
    obtain ⟨eA, ec⟩ := Prod.mk.inj (Option.some.inj (s2.symm.trans t2))
    subst ec
    rw [eA] at s4
    exact ⟨m1', m2', y2, s3, s4, ⟨s9, fun i hi => by rw [(s6 i hi).2.1, ← (t6 i hi).1, (s6 i hi).1]⟩, frT2_tr y6 s8⟩
/-- c has the ground and the law of c0, m what is told of m0 -/
def sameC (c0 c : DY) : Prop := ∀ x i : Nat, 95 ≤ x → x ≤ 111 → gi c x i = gi c0 x i
def sameM (m0 m : DY) : Prop := ∀ x i : Nat, 511 ≤ x → x ≤ 527 → gi m x i = gi m0 x i
theorem sameC_tr {a b c : DY} (h : sameC a b) (k : frT1 b c) : sameC a c := fun x i q1 q2 => (k.1 x i (by omega)).trans (h x i q1 q2)
theorem sameM_tr {a b c : DY} (h : sameM a b) (k : frT2 b c) : sameM a c := fun x i q1 q2 => (k.1 x i (by omega) (by omega) (by omega)).trans (h x i q1 q2)
theorem lay_gen {k j : Nat} {ι : Nat → Nat} {L W n M : Nat} (N : Nat) (seed x5 x6 : Int32) (c m : DY) (hN : 900 ≤ N) (k3 : k < 3) (j3 : j < 3) (hP : PREP (mixD c m) k j ι L W n M) (hx : ∀ a : Nat, a < M → (awy x5 x6 a ↔ ∀ i : Nat, i < n → ι i ≠ a)) : ∃ c' m1 : DY, F_X8_begin Z0.1 N 112 seed c = some c' ∧ F_X10_lay Z0.1 N 510 4 (iz k) (iz j) seed x5 x6 m = some m1 ∧ RRx (mixD c' m1) 95 105 112 4 ι L W n M ∧ BG0 c' n ∧ frT1 c c' ∧ frT2 m m1 := by
  obtain ⟨c', m1, a1, a2, a3, a4, a5⟩ := layG N seed x5 x6 c m hN cvg_try (r := 4) (by omega) (by omega) (by omega) hP.1 hP.2 hx
  exact ⟨c', m1, a1, a2, a3, BG0_of a4 hP.1 (fun i => mix_c _ _ _ _ (by omega)), frT1_beg a4, frT2_laid a5⟩
theorem spec_lay {k j : Nat} {ι : Nat → Nat} {L W n M : Nat} (N n0 : Nat) (seed x5 x6 : Int32) (c0 m0 : DY) (hN : 900 ≤ N) (h2 : n0 ≤ 200) (k3 : k < 3) (j3 : j < 3) (hP : PREP (mixD c0 m0) k j ι L W n M) (hx : ∀ a : Nat, a < M → (awy x5 x6 a ↔ ∀ i : Nat, i < n → ι i ≠ a)) : ∃ (A : Nat) (T : Nat → Int32), A ≤ n ∧ (∀ i : Nat, i < n → T i = -1 ∨ ∃ v : Nat, v < n0 ∧ T i = iz v) ∧ (∀ c : DY, sameC c0 c → ∃ c' : DY, F_X9_arrivals Z0.1 N 1 seed (iz n0) c = some (iz A, c') ∧ (∀ i : Nat, i < n → gi c' 115 i = T i) ∧ frT1 c c') ∧ ∀ m : DY, sameM m0 m → ∃ m1 m' : DY, F_X10_lay Z0.1 N 510 4 (iz k) (iz j) seed x5 x6 m = some m1 ∧ F_X10_tryOn Z0.1 N 510 (iz n0) m1 = some m' ∧ gi m' 531 2886 = iz A ∧ (gi m' 531 2882 = iz M ∧ ∀ i : Nat, i < n → gi m' 531 (720 * 4 + 16 + 20 * ι i + 14) = T i) ∧ frT2 m m' := spec_gen N n0 L W n ι M seed hN h2 (sameC c0) (sameM m0) (fun m => F_X10_lay Z0.1 N 510 4 (iz k) (iz j) seed x5 x6 m) (fun c m hc hm => lay_gen N seed x5 x6 c m hN k3 j3 (PREP_mix hP hc hm) hx) c0 m0 (fun _ _ _ _ => rfl) (fun _ _ _ _ => rfl)
theorem awy_none {M : Nat} (hM : M ≤ 12) : ∀ a : Nat, a < M → (awy 12 (-1) a ↔ ∀ i : Nat, i < M → id i ≠ a) := fun a ha => ⟨fun z => by
  rcases z with z | z
  · exact absurd z (iz_nle (a := 12) (b := a) (by omega))
  · rw [l_m1] at z
    exact absurd z (iz_nei (by omega)), fun z => absurd rfl (z a ha)⟩
/-- what is told makes a trial's ground -/
theorem PREP_of {dy c m : DY} {k j : Nat} (h : Inv dy) (k3 : k < 3) (j3 : j < 3) (hc : CPD k j dy c) (hm : sameM dy m) : ∃ L W n : Nat, gi dy (41 + 17 * k) 3 = iz n ∧ gi dy 518 k = iz n ∧ n ≤ 12 ∧ PREP (mixD c m) k j id L W n n := by
  obtain ⟨_, _, _, _, _, _, _, hPR, hLR, _⟩ := id h.1
  obtain ⟨C1, C2, C3, C4⟩ := hc
  have hp9 : ∀ p ∈ pC, p.1 ≤ 9 := by decide
  have hP : PR dy (41 + 17 * k) k := by
    have := hPR k k3
    rw [show 2 + 39 + 17 * k = 41 + 17 * k by omega, show 3 * 0 + k = k by omega] at this
    exact this
  have hL : LR dy (51 + 17 * j) (gi dy 523 j) 524 (288 * j) := by
    have := hLR j j3
    rw [show 2 + 49 + 17 * j = 51 + 17 * j by omega, show 3 * 0 + j = j by omega] at this
    exact this
  obtain ⟨L, W, n, ⟨k1, k1', k1''⟩, ⟨k2, k2'⟩, ⟨k3', k3''⟩, _, ⟨k5, k5'⟩, k6, k7, _⟩ := hP
  have cM : ∀ x i : Nat, 511 ≤ x → x ≤ 527 → gi (mixD c m) x i = gi dy x i := fun x i h1 h2 => by rw [mix_m _ _ _ _ (by omega), hm x i h1 h2]
  have f : ∀ x : Nat, x < 4 → gi (mixD c m) 95 x = gi dy (41 + 17 * k) x := fun x hx => by rw [mix_c _ _ _ _ (by omega)]; exact C1.1 x (pF_in x hx)
  have cc : ∀ x i : Nat, 2 ≤ x → x ≤ 9 → i < 12 → gi (mixD c m) (95 + x) i = gi dy (41 + 17 * k + x) i := fun x i h1 h2 h3 => by rw [mix_c _ _ _ _ (by omega)]; exact C1.2 (x, 12) (pC_in x (by omega) h1) i h3
  have c1 : ∀ i : Nat, i < 96 → gi (mixD c m) (95 + 1) i = gi dy (41 + 17 * k + 1) i := fun i h3 => by rw [mix_c _ _ _ _ (by omega)]; exact C1.2 (1, 96) (by decide) i h3
  refine ⟨L, W, n, k5, k5', k1'', ⟨⟨k1, k1', k1'', k1''⟩, ⟨(f 0 (by omega)).trans k2, (cM _ _ (by omega) (by omega)).trans k2'⟩, ⟨(f 1 (by omega)).trans k3', (cM _ _ (by omega) (by omega)).trans k3''⟩, ⟨(f 3 (by omega)).trans k5, (cM _ _ (by omega) (by omega)).trans k5'⟩, fun i hi => ?_, ⟨fun i hi => hi, fun i j h _ => h⟩, fun i hi => ?_⟩, LR_of hL ⟨fun x hx => ?_, fun p hp i hi => ?_⟩ (cM 523 _ (by omega) (by omega)) (fun i _ => cM 524 _ (by omega) (by omega))⟩
  · rw [c1 i hi, cM 520 _ (by omega) (by omega)]
    exact k6 i hi
  · obtain ⟨⟨x, x1, x2, x3⟩, ⟨y, y1, y2, y3⟩, tw, fr, fb⟩ := k7 i hi
    have i12 : i < 12 := by omega
    refine ⟨⟨x, x1, (cc 2 i (by omega) (by omega) i12).trans x2, (cM 521 _ (by omega) (by omega)).trans x3⟩, ⟨y, y1, (cc 3 i (by omega) (by omega) i12).trans y2, (cM 521 _ (by omega) (by omega)).trans y3⟩, TW_of tw (fun x h1 h2 => cc x i (by omega) (by omega) i12) (fun x hx => cM 521 _ (by omega) (by omega)), ?_⟩
    have w13 : gi (mixD c m) 521 (8 * (12 * k + id i) + 7) = gi dy (41 + 17 * k + 9) i := (cM 521 _ (by omega) (by omega)).trans fr.symm
    unfold FRG
    rw [w13, cc 9 i (by omega) (by omega) i12]
    rcases fb with z | ⟨j, j1, j2⟩
    · refine Or.inr ⟨fun j hj y => ?_, Or.inl z⟩
      rw [z, l_m1] at y
      exact iz_nei (by omega) y
    · exact Or.inl ⟨j, j1, j2, j2⟩
  · rw [mix_c _ _ _ _ (by omega)]
    exact C2.1 x hx
  · rw [mix_c _ _ _ _ (by have := lC_le p hp; omega)]
    exact C2.2 p hp i hi
/-- what both sides ask first -/
theorem wrap_trial (N mx : Nat) (pa la na r0 : Int32) (dy : DY) (hmx : mx ≤ 200) (h : Inv dy) (G H : DY → Option (Int32 × DY)) (hok : ∀ (k j n0 L W n : Nat) (c : DY), pa = iz k → la = iz j → na = iz n0 → k < 3 → j < 3 → 1 ≤ n0 → n0 ≤ mx → CPD k j dy c → gi dy 518 k = iz n → PREP (mixD c dy) k j id L W n n → ∃ (r : Int32) (c' m' : DY), G c = some (r, c') ∧ (∀ x i : Nat, ¬ (94 ≤ x ∧ x ≤ 239) → gi c' x i = gi c x i) ∧ H (si c' 510 0 0) = some (r, m') ∧ ∀ x i : Nat, x ≠ 510 → (x < 532 ∨ 545 < x) → ¬ (x = 531 ∧ 2880 ≤ i) → gi m' x i = gi c' x i) : ∃ r dy1 dy2, ((F_X9_isTime Z0.1 N na (iz mx) dy).bind fun u1 => (if u1.1 = 0 then some (r0, u1.2) else (F_X9_prepare Z0.1 N 1 pa la u1.2).bind fun u3 => (if u3.1 = 0 then some (r0, u3.2) else G u3.2))) = some (r, dy1) ∧ (bd (si dy1 510 0 0) fun d1 => (F_X10_isTried Z0.1 N 510 pa la na (iz mx) d1).bind fun u2 => (if u2.1 = 0 then some (r0, u2.2) else H u2.2)) = some (r, dy2) ∧ Inv dy2 := by
  obtain ⟨x, rfl, x1, x2⟩ := iz_ex pa
  obtain ⟨y, rfl, y1, y2⟩ := iz_ex la
  obtain ⟨z, rfl, z1, z2⟩ := iz_ex na
  obtain ⟨_, _, _, ⟨cn1, cn2⟩, ⟨p, l, e1, p3, e2, l3⟩, _⟩ := id h.1
  have n1 : ¬ (1 : Int32) = 0 := by decide
  have hM : ∀ d : DY, gi d 515 0 = iz p → gi d 522 0 = iz l → (bd (si d 510 0 0) fun d1 => (F_X10_isTried Z0.1 N 510 (iz x) (iz y) (iz z) (iz mx) d1).bind fun u2 => (if u2.1 = 0 then some (r0, u2.2) else H u2.2)) = (if (if ((0 ≤ x ∧ x < p) ∧ (0 ≤ y ∧ y < l)) ∧ (1 ≤ z ∧ z ≤ mx) then (1 : Int32) else 0) = 0 then some (r0, si d 510 0 0) else H (si d 510 0 0)) := fun d h1 h2 => by
    rw [bd_eq, m_tried N x y z p l mx _ x1 x2 y1 y2 z1 z2 (by omega) (by rw [gi_si_if, if_neg (by omega)]; exact h1) p3 (by rw [gi_si_if, if_neg (by omega)]; exact h2) l3, sb_eq]
  obtain ⟨cp1, cp2⟩ := c_prep N x y p l dy x1 x2 y1 y2 e1 p3 e2 l3
  have h0 := hM dy (cn1.symm.trans e1) (cn2.symm.trans e2)
  by_cases tm : 1 ≤ z ∧ z ≤ (mx : Int)
  · by_cases ok : (0 ≤ x ∧ x < p) ∧ (0 ≤ y ∧ y < l)
    · obtain ⟨c1, E1, C⟩ := cp1 ok
      obtain ⟨k, rfl⟩ : ∃ k : Nat, x = k := ⟨x.toNat, by omega⟩
      obtain ⟨j, rfl⟩ : ∃ j : Nat, y = j := ⟨y.toNat, by omega⟩
      obtain ⟨n0, rfl⟩ : ∃ n0 : Nat, z = n0 := ⟨z.toNat, by omega⟩
      rw [Int.toNat_natCast, Int.toNat_natCast] at C
      have k3 : k < 3 := by omega
      have j3 : j < 3 := by omega
      obtain ⟨L, W, n, q1, q2, q3, q4⟩ := PREP_of h k3 j3 C (m := dy) (fun _ _ _ _ => rfl)
      obtain ⟨r, c', m', g1, g2, g3, g4⟩ := hok k j n0 L W n c1 rfl rfl rfl k3 j3 (by omega) (by omega) C q2 q4
      have cs : ∀ x i : Nat, ¬ (94 ≤ x ∧ x ≤ 239) → gi c' x i = gi dy x i := fun x i hx => (g2 x i hx).trans (C.2.2.1 x i (by omega))
      refine ⟨r, c', m', ?_, ?_, inv_try h (fun x i a1 a2 a3 a4 => (g4 x i a2 a3 a4).trans (cs x i a1))⟩
      · rw [c_time _ N _ mx dy z1 z2 (by omega), sb_eq, if_pos tm, if_neg n1, E1, sb_eq, if_neg n1]
        exact g1
      · rw [hM c' ((cs 515 0 (by omega)).trans (cn1.symm.trans e1)) ((cs 522 0 (by omega)).trans (cn2.symm.trans e2)), if_pos (show ((0 ≤ (k : Int) ∧ (k : Int) < p) ∧ (0 ≤ (j : Int) ∧ (j : Int) < l)) ∧ (1 ≤ (n0 : Int) ∧ (n0 : Int) ≤ (mx : Int)) from ⟨ok, tm⟩), if_neg n1]
        exact g3
    · refine ⟨r0, dy, si dy 510 0 0, ?_, ?_, inv_0 h⟩
      · rw [c_time _ N _ mx dy z1 z2 (by omega), sb_eq, if_pos tm, if_neg n1, cp2 ok, sb_eq, if_pos rfl]
      · rw [h0, if_neg (show ¬ (((0 ≤ x ∧ x < p) ∧ (0 ≤ y ∧ y < l)) ∧ (1 ≤ z ∧ z ≤ (mx : Int))) from fun q => ok q.1), if_pos rfl]
  · refine ⟨r0, dy, si dy 510 0 0, ?_, ?_, inv_0 h⟩
    · rw [c_time _ N _ mx dy z1 z2 (by omega), sb_eq, if_neg tm, if_pos rfl]
    · rw [h0, if_neg (show ¬ (((0 ≤ x ∧ x < p) ∧ (0 ≤ y ∧ y < l)) ∧ (1 ≤ z ∧ z ≤ (mx : Int))) from fun q => tm q.2), if_pos rfl]
