/-! one who goes: both sides -/
/-- what one who goes does to who is there and who arrived -/
def AT1 (c c' : DY) (w i : Nat) : Prop := (gi c (w + 1) i ≠ -1 ∧ gi c' (w + 1) i = -1 ∧ gi c' (w + 3) i = gi c w 2 ∧ gi c' w 5 = gi c w 5 + 1) ∨ ((gi c' (w + 1) i = -1 ↔ gi c (w + 1) i = -1) ∧ gi c' (w + 3) i = gi c (w + 3) i ∧ gi c' w 5 = gi c w 5)
/-- what holds when i has gone; mv: whether he moved -/
def GON (D c c' m m' : DY) (w r : Nat) (ι : Nat → Nat) (L W i mv : Nat) : Prop := chC w i c c' ∧ chM r (ι i) m m' ∧ GDo c' m' w r ∧ (∃ px py : Int, (gi c' (w + 1) i = iz px ∧ gi c' (w + 2) i = iz py ∧ gi m' 536 (ι i) = iz px ∧ gi m' 537 (ι i) = iz py) ∧ (px = -1 ∧ py = -1 ∨ inS L W px py) ∧ ((gi m' 535 (ι i) = 1 ∧ gi m' 534 (ι i) ≠ 0) ↔ (py ≠ -1 ∧ py ≠ cy D w 0 i))) ∧ gi m' 535 (ι i) = iz mv ∧ (gi c' (w + 3) i = gi m' 531 (720 * r + 16 + 20 * ι i + 14) ∧ gi c' (w + 4) i + iz mv = gi m' 531 (720 * r + 16 + 20 * ι i + 15) ∧ gi c' (w + 5) i = gi m' 531 (720 * r + 16 + 20 * ι i + 16) ∧ gi c' (w + 6) i = gi m' 531 (720 * r + 16 + 20 * ι i + 17)) ∧ gi c' (w + 7) i = gi c (w + 7) i ∧ AT1 c c' w i
theorem GON_stay {D c m : DY} {g w r : Nat} {ι : Nat → Nat} {L W i : Nat} {p : Prop} (hW : GW D c m g w r ι L W i p) (hGD : GDo c m w r) (hp : ¬ p) : GON D c c m m w r ι L W i 0 := by
  obtain ⟨⟨px, py, a1, a2, a3, a4⟩, b, d, e, f⟩ := hW
  obtain ⟨e1, e2⟩ := e hp
  obtain ⟨a5, a6⟩ := a3 hp
  refine ⟨chC_refl w i c, chM_refl r _ m, hGD, ⟨px, py, a1, a2, ⟨fun z => ?_, fun z => absurd a6 z.2⟩⟩, e1, ⟨b.1, ?_, b.2.2.1, b.2.2.2⟩, rfl, Or.inr ⟨Iff.rfl, rfl, rfl⟩⟩
  · rw [e1] at z
    exact absurd z.1 (by decide)
  · rw [← b.2.1]
    exact Int32.add_zero _
theorem goes_both (N : Nat) (D c m : DY) (g l w r : Nat) (ι : Nat → Nat) (L W n M i : Nat) (P : Nat → Prop) (hN : 20 ≤ N) (hG : CVg g l w) (r14 : r < 14) (hR : RRx D g l w r ι L W n M) (hS : GS D c m w r) (hW : ∀ o : Nat, o < n → GW D c m g w r ι L W o (P o)) (hA : GA m ι n M) (hGD : GDo c m w r) (hAi : AIMS D D g w ι n) (hi : i < n) (hnP : ¬ P i) : ∃ (c' m' : DY) (mv : Nat), mv ≤ 1 ∧ F_X8_goes Z0.1 N w (iz i) c = some (iz mv, c') ∧ (cx D w 0 i = -1 → m' = m) ∧ (cx D w 0 i ≠ -1 → F_X10_goes Z0.1 N 510 (iz r) (iz (ι i : Nat)) m = some m') ∧ GON D c c' m m' w r ι L W i mv := by
  have hv := RRx_CV hG hR
  have hM := RRx_MV hG r14 hR
  obtain ⟨dj, dj2⟩ := cv_dj hG
  obtain ⟨_, ⟨L16, W6, n12⟩, ⟨e0, e1, e3⟩, hwall, hpos, hwk⟩ := id hv
  obtain ⟨⟨_, _, _, _, M12⟩, ⟨m0, m1, m2⟩, mwall, ⟨hι, hmono⟩, _, _, mwk⟩ := id hM
  obtain ⟨s1, s2, s3, s4, s5, s6, s7, s8⟩ := id hS
  have hιi := hι i hi
  have i12 : i < 12 := by omega
  have w12 : ι i < 12 := by omega
  have cg : ∀ y k : Nat, y ≤ 9 → gi c (g + y) k = gi D (g + y) k := fun y k hy => s1 _ _ (by omega) (by omega)
  have c0 : gi c g 0 = iz L := by rw [s1 g 0 (by omega) (by omega)]; exact e0
  have c1 : gi c g 1 = iz W := by rw [s1 g 1 (by omega) (by omega)]; exact e1
  have c3 : gi c g 3 = iz n := by rw [s1 g 3 (by omega) (by omega)]; exact e3
  have r0 : gi m 531 (720 * r) = iz L := by
    have := s7 0 (by omega) (by unfold cntP; omega)
    rw [Nat.add_zero] at this
    rw [this]; exact m0
  have r1 : gi m 531 (720 * r + 1) = iz W := by rw [s7 1 (by omega) (by unfold cntP; omega)]; exact m1
  have r2 : gi m 531 (720 * r + 2) = iz M := by rw [s7 2 (by omega) (by unfold cntP; omega)]; exact m2
  have r3 : gi m 531 (720 * r + 3) = gi c w 2 := by
    rw [s7 3 (by omega) (by unfold cntP; omega), s2 2 (by omega)]
    exact hR.2.2.2.2.2.2.1.1.symm
  have hWi := hW i hi
  obtain ⟨⟨px, py, ⟨a1, a2, a3, a4⟩, a5, a6, _⟩, ⟨b3, b4, b5, b6⟩, _, hq, _⟩ := id hWi
  obtain ⟨q1, q2⟩ := hq hnP
  obtain ⟨z1, z2⟩ := a6 hnP
  obtain ⟨ai1, ai2⟩ := hAi i hi
  have ac8 : gi c (w + 8) i = gi D (w + 8) i := s3 i
  have am8 : gi m 534 (ι i) = gi D 534 (ι i) := s6 (ι i)
  by_cases th : px = -1
  · refine ⟨c, m, 0, by omega, ?_, fun _ => rfl, fun z => absurd (z1.symm.trans th) z, GON_stay hWi hGD hnP⟩
    rw [F_X8_goes_s]
    have tH : F_X8_isThere Z0.1 N w (iz i) c = some (0, c) := by
      rw [F_X8_isThere_s, cv_r0 hG, c_hasG _ _ g i n c (by omega) (by omega) c3 n12, sb_eq, if_pos (show 0 ≤ (i : Int) ∧ (i : Int) < n by omega), if_neg (by decide : ¬ (1 : Int32) = 0), if_pos (show ib (iz (i : Int)) 48 from iz_ib (by omega)), cv_w1 hG, tnn _ i rfl (by omega), a1, th, if_pos (show iz (-1) = -1 from rfl)]
    exact bnd tH rfl
  · have ins : inS L W px py := by
      rcases a5 with z | z
      · exact absurd z.1 th
      · exact z
    have ins' := ins
    unfold inS at ins'
    have thD : cx D w 0 i ≠ -1 := fun z => th (z1.trans z)
    obtain ⟨wy, wyv, w4, w8⟩ : ∃ wy : Int, (wy = 1 ∨ wy = -1) ∧ gi c (g + 4) i = iz wy ∧ gi m 531 (720 * r + 16 + 20 * ι i + 8) = if wy = 1 then 1 else 0 := by
      have e8 := s7 (16 + 20 * ι i + 8) (by omega) (by unfold cntP; omega)
      rw [← Nat.add_assoc, ← Nat.add_assoc] at e8
      rcases (mwk i hi).1 with ⟨u1, u2⟩ | ⟨u1, u2⟩
      · exact ⟨1, Or.inl rfl, by rw [cg 4 i (by omega), u1]; rfl, by rw [e8, u2, if_pos rfl]⟩
      · exact ⟨-1, Or.inr rfl, by rw [cg 4 i (by omega), u1]; rfl, by rw [e8, u2, if_neg (by decide)]⟩
    by_cases five : gi D (w + 8) i = 5
    · have am5 : gi m 534 (ι i) = 5 := by
        rw [am8]
        rcases ai1 with ⟨z, _⟩ | ⟨z, _⟩
        · rw [five] at z; exact absurd z (by decide)
        · rw [z, five]
      refine ⟨c, m, 0, by omega, ?_, fun z => absurd z thD, fun _ => ?_, GON_stay hWi hGD hnP⟩
      · have tH : F_X8_isThere Z0.1 N w (iz i) c = some (1, c) := by
          rw [F_X8_isThere_s, cv_r0 hG, c_hasG _ _ g i n c (by omega) (by omega) c3 n12, sb_eq, if_pos (show 0 ≤ (i : Int) ∧ (i : Int) < n by omega), if_neg (by decide : ¬ (1 : Int32) = 0), if_pos (show ib (iz (i : Int)) 48 from iz_ib (by omega)), cv_w1 hG, tnn _ i rfl (by omega), a1, if_neg (show ¬ iz px = -1 from iz_nei (b := -1) (by omega))]
        rw [F_X8_goes_s]
        refine bnd tH ?_
        show (if (1 : Int32) = 0 then _ else _) = _
        rw [if_neg (by decide : ¬ (1 : Int32) = 0), if_pos (show ib (iz (i : Int)) 12 from iz_ib (by omega)), cv_w8 hG, tnn _ i rfl (by omega)]
        show (if gi c (w + 8) i = 5 then _ else _) = _
        rw [ac8, five, if_pos rfl]
        rfl
      · rw [F_X10_goes_s]
        refine bnd (m_at _ _ r (ι i) _) ?_
        have way : ∃ x, F_X10_way Z0.1 N 510 (iz r) (iz (ι i : Nat)) m = some (x, m) := by
          have b8 : iz ((720 * r + 16 + 20 * ι i : Nat) : Int) + (8 : Int32) = iz ((720 * r + 16 + 20 * ι i + 8 : Nat) : Int) := iz_add _ 8
          by_cases z : gi m 531 (720 * r + 16 + 20 * ι i + 8) = 1
          · refine ⟨1, ?_⟩
            rw [F_X10_way_s]
            refine bnd (m_at _ _ r (ι i) _) ?_
            show (if ib (iz ((720 * r + 16 + 20 * ι i : Nat) : Int) + (8 : Int32)) 10080 then _ else _) = _
            rw [b8, if_pos (ibr _ (by omega)), r_510_39, tnn _ (720 * r + 16 + 20 * ι i + 8) rfl (by omega)]
            exact if_pos z
          · refine ⟨-1, ?_⟩
            rw [F_X10_way_s]
            refine bnd (m_at _ _ r (ι i) _) ?_
            show (if ib (iz ((720 * r + 16 + 20 * ι i : Nat) : Int) + (8 : Int32)) 10080 then _ else _) = _
            rw [b8, if_pos (ibr _ (by omega)), r_510_39, tnn _ (720 * r + 16 + 20 * ι i + 8) rfl (by omega)]
            exact if_neg z
        obtain ⟨x, hx⟩ := way
        refine bnd hx ?_
        rw [if_pos (show ib (iz (ι i : Nat)) 12 from iz_ib (by omega)), r_510_43, tnn _ (ι i) rfl (by omega)]
        show (if gi m 534 (ι i) = 5 then _ else _) = _
        rw [am5, if_pos rfl]
    · obtain ⟨am, am2, hamM, hamC⟩ : ∃ am : Nat, am ≤ 2 ∧ gi m 534 (ι i) = iz am ∧ (if gi D (w + 8) i = 3 then gi D (g + 8) i else gi D (w + 8) i) = iz am := by
        rcases ai1 with ⟨z, ⟨h1, h2⟩ | ⟨h1, h2⟩⟩ | ⟨z, h⟩
        · exact ⟨1, by omega, by rw [am8, h2]; rfl, by rw [if_pos z, h1]; rfl⟩
        · exact ⟨2, by omega, by rw [am8, h2]; rfl, by rw [if_pos z, h1]; rfl⟩
        · rcases h with h | h | h | h
          · exact ⟨0, by omega, by rw [am8, z, h]; rfl, by rw [h, if_neg (by decide)]; rfl⟩
          · exact ⟨1, by omega, by rw [am8, z, h]; rfl, by rw [h, if_neg (by decide)]; rfl⟩
          · exact ⟨2, by omega, by rw [am8, z, h]; rfl, by rw [h, if_neg (by decide)]; rfl⟩
          · exact absurd h five
      have C130 := c_g130 N i n am c wy px py (gi D (w + 8) i) (gi D (g + 8) i) hG n12 hi c3 am2 wyv w4 ac8 (cg 8 i (by omega)) five hamC a1 a2 ⟨by omega, by omega⟩
      obtain ⟨y0, y1, hy, M86⟩ := m_g86 N r (ι i) am m wy px py r14 w12 am2 wyv w8 hamM a3 a4
      have bX : -100 ≤ px + dXI am wy ∧ px + dXI am wy ≤ 100 := by
        unfold dXI
        by_cases z : am = 0
        · rw [if_pos z]; omega
        · rw [if_neg z]; omega
      have bY : -100 ≤ py + dYI am wy ∧ py + dYI am wy ≤ 100 := by
        unfold dYI
        by_cases z : am = 0
        · rw [if_pos z]; omega
        · rw [if_neg z]
          by_cases z' : am = 1
          · rw [if_pos z']; omega
          · rw [if_neg z']; omega
      have dX0 : am = 0 → dXI am wy = wy ∧ dYI am wy = 0 := fun z => ⟨if_pos z, if_pos z⟩
      have dY0 : am ≠ 0 → dXI am wy = 0 ∧ (dYI am wy = 1 ∨ dYI am wy = -1) := fun z => by
        refine ⟨if_neg z, ?_⟩
        unfold dYI
        rw [if_neg z]
        by_cases z' : am = 1
        · rw [if_pos z']; exact wyv
        · rw [if_neg z']; omega
      revert C130 M86 bX bY hy
      generalize hX : px + dXI am wy = X
      generalize hY : py + dYI am wy = Y
      intro C130 hy M86 bX bY
      have o20 : 720 * r + 16 + 20 * ι i + 20 < 10080 := by omega
      have cI := c_inside N c g L W X Y L16 W6 c0 c1 (by omega) (by omega) (by omega) (by omega)
      have mI := m_insG N r L W m X Y r14 L16 W6 r0 r1 bX bY
      have cyD : cy D w 0 i = py := z2.symm
      have oo : ∀ k : Nat, k < 20 → ¬ (720 * r + 16 + 20 * ι i + k = 720 * r + 6) := fun k _ => by omega
      have bump : ∃ (c' m' : DY) (mv : Nat), c' = si c (w + 6) i (gi c (w + 6) i + 1) ∧ m' = si m 531 (720 * r + 16 + 20 * ι i + 17) (gi m 531 (720 * r + 16 + 20 * ι i + 17) + 1) ∧ mv = 0 ∧ GON D c c' m m' w r ι L W i mv := by
        refine ⟨_, _, _, rfl, rfl, rfl, ⟨fun x k h1 h2 h3 => ?_, fun _ _ => rfl⟩, ⟨fun x k h1 h2 => ?_, fun _ _ => rfl⟩, ⟨?_, fun x hx => ?_⟩, ⟨px, py, ⟨?_, ?_, ?_, ?_⟩, a5, ⟨fun z => ?_, fun z => absurd cyD.symm z.2⟩⟩, ?_, ⟨?_, ?_, ?_, ?_⟩, ?_, Or.inr ⟨?_, ?_, ?_⟩⟩
        · rw [gi_si_if, if_neg (by omega)]
        · rw [gi_si_if, if_neg (by omega)]
        · rw [gi_si_if, if_neg (by omega), gi_si_if, if_neg (by omega)]; exact hGD.1
        · rw [gi_si_if, if_neg (by omega), gi_si_if, if_neg (by omega), gi_si_if, if_neg (by omega), gi_si_if, if_neg (by omega), gi_si_if, if_neg (by omega), gi_si_if, if_neg (by omega), gi_si_if, if_neg (by omega), gi_si_if, if_neg (by omega), gi_si_if, if_neg (by omega), gi_si_if, if_neg (by omega)]; exact hGD.2 x hx
        · rw [gi_si_if, if_neg (by omega)]; exact a1
        · rw [gi_si_if, if_neg (by omega)]; exact a2
        · rw [gi_si_if, if_neg (by omega)]; exact a3
        · rw [gi_si_if, if_neg (by omega)]; exact a4
        · have z1' := z.1
          rw [gi_si_if, if_neg (by omega), q1] at z1'
          exact absurd z1' (by decide)
        · rw [gi_si_if, if_neg (by omega)]; exact q1
        · rw [gi_si_if, if_neg (by omega), gi_si_if, if_neg (by omega)]; exact b3
        · rw [gi_si_if, if_neg (by omega), gi_si_if, if_neg (by omega), ← b4]; exact Int32.add_zero _
        · rw [gi_si_if, if_neg (by omega), gi_si_if, if_neg (by omega)]; exact b5
        · rw [gi_si_if, if_pos ⟨rfl, rfl⟩, gi_si_if, if_pos ⟨rfl, rfl⟩, b6]
        · rw [gi_si_if, if_neg (by omega)]
        · rw [gi_si_if, if_neg (by omega)]
        · rw [gi_si_if, if_neg (by omega)]
        · rw [gi_si_if, if_neg (by omega)]
      obtain ⟨cb, mb, mvb, hcb, hmb, hmvb, hGb⟩ := bump
      have c201 := c_201 N i c hG i12
      have m143 := m_g143 N (720 * r + 16 + 20 * ι i) m o20
      rw [← hcb] at c201
      rw [← hmb] at m143
      rw [hmvb] at hGb
      by_cases cin : 0 ≤ X ∧ X < L ∧ 0 ≤ Y ∧ Y < W
      · rw [if_pos cin] at cI mI
        have cinS : inS L W X Y := cin
        have hw01 : ∀ k : Nat, k < 96 → gi c (g + 1) k = 0 ∨ gi c (g + 1) k = 1 := fun k hk => by rw [cg 1 k (by omega)]; exact hwall k hk
        have cW := (c_wallG N c g L W X Y hG.1 L16 W6 c0 c1 hw01 (by omega) (by omega) (by omega) (by omega)).2 cinS
        have mW := m_walG N r m X Y r14 (by omega) (by omega)
        have eW : gi m 531 (720 * r + 256 + (6 * X + Y).toNat) = gi c (g + 1) (6 * X + Y).toNat := by
          have k1 := s7 (256 + (6 * X + Y).toNat) (by omega) (by unfold cntP; omega)
          rw [← Nat.add_assoc] at k1
          rw [k1, cg 1 _ (by omega)]
          exact (mwall _ (by omega)).1.symm
        rw [eW] at mW
        have c170 : ∀ (x4 : Int32) (R), F_X8_goes_170 Z0.1 N w (iz i) (iz wy) x4 (iz X) (iz Y) 0 c = R → F_X8_goes_130 Z0.1 N w (iz i) (iz wy) x4 (iz X) (iz Y) c = R := fun x4 R hR' => by
          rw [F_X8_goes_130_s, cv_r0 hG]
          refine bnd cI ?_
          show (if (1 : Int32) = 0 then _ else _) = _
          rw [if_neg (by decide : ¬ (1 : Int32) = 0), F_X8_goes_151_s]
          by_cases x0 : x4 = 0
          · rw [if_pos x0]; exact hR'
          · rw [if_neg x0, if_pos rfl]; exact hR'
        have m86 : ∀ R, (if gi c (g + 1) (6 * X + Y).toNat = 1 then F_X10_goes_143 Z0.1 N 510 (iz ((720 * r + 16 + 20 * ι i : Nat) : Int)) m else (F_X10_isStoodOn Z0.1 N 510 (iz r) (iz X) (iz Y) m).bind fun u5 => (if u5.1 = 0 then F_X10_goes_157 Z0.1 N 510 (iz r) (iz (ι i : Nat)) (iz ((720 * r + 16 + 20 * ι i : Nat) : Int)) (iz wy) (iz X) (iz Y) 1 u5.2 else F_X10_goes_143 Z0.1 N 510 (iz ((720 * r + 16 + 20 * ι i : Nat) : Int)) u5.2)) = R → F_X10_goes Z0.1 N 510 (iz r) (iz (ι i : Nat)) m = R := fun R hR' => by
          rw [M86, F_X10_goes_86_s, hy]
          refine bnd mI ?_
          show (if (1 : Int32) = 0 then _ else _) = _
          rw [if_neg (by decide : ¬ (1 : Int32) = 0)]
          refine bnd mW ?_
          by_cases q : gi c (g + 1) (6 * X + Y).toNat = 1
          · rw [if_pos q] at hR'
            rw [if_pos q]
            exact hR'
          · rw [if_neg q] at hR'
            rw [if_neg q]
            show (if (0 : Int32) = 0 then _ else _) = _
            rw [if_pos rfl]
            exact hR'
        by_cases wl : gi c (g + 1) (6 * X + Y).toNat = 1
        · rw [wl] at cW
          rw [if_pos wl] at m86
          refine ⟨cb, mb, 0, by omega, C130.trans (c170 _ _ ?_), fun z => absurd z thD, fun _ => m86 _ m143, hGb⟩
          rw [F_X8_goes_170_s, if_pos rfl, cv_r0 hG]
          refine bnd cW ?_
          show (if (1 : Int32) = 0 then _ else _) = _
          rw [if_neg (by decide : ¬ (1 : Int32) = 0)]
          exact c201
        · have wl0 : gi c (g + 1) (6 * X + Y).toNat = 0 := (hw01 _ (by omega)).resolve_right wl
          rw [wl0] at cW
          rw [if_neg wl] at m86
          have pq : ∀ o : Nat, o < n → gi c (w + 1) o = iz (gi c (w + 1) o).toInt ∧ gi c (w + 2) o = iz (gi c (w + 2) o).toInt ∧ -1 ≤ (gi c (w + 1) o).toInt ∧ (gi c (w + 1) o).toInt ≤ 20 ∧ -1 ≤ (gi c (w + 2) o).toInt ∧ (gi c (w + 2) o).toInt ≤ 20 := fun o ho => by
            obtain ⟨⟨qx, qy, ⟨d1, d2, _, _⟩, d5, _⟩, _⟩ := hW o ho
            unfold inS at d5
            rw [d1, d2, iz_toInt (by omega) (by omega), iz_toInt (by omega) (by omega)]
            exact ⟨rfl, rfl, by omega, by omega, by omega, by omega⟩
          obtain ⟨v, v1, v2⟩ := c_who N c g l w n (fun o => (gi c (w + 1) o).toInt) (fun o => (gi c (w + 2) o).toInt) X Y hG n12 c3 pq (by omega) (by omega) (by omega) (by omega) n N 0 (by omega) (by omega) (fun j hj => absurd hj (by omega))
          have cV : F_X8_whoIsOn Z0.1 N w (iz X) (iz Y) c = some (iz v, c) := by rw [F_X8_whoIsOn_s]; exact v1
          have mV : F_X10_isStoodOn Z0.1 N 510 (iz r) (iz X) (iz Y) m = some (if v = -1 then 0 else 1, m) := by
            rw [F_X10_isStoodOn_s]
            exact m_stood N r ι n M m _ _ X Y v r14 M12 r2 hι (fun o ho => by
              obtain ⟨d1, d2, d3⟩ := pq o ho
              obtain ⟨⟨qx, qy, ⟨f1, f2, f3, f4⟩, _⟩, _⟩ := hW o ho
              rw [f3, f4, ← f1, ← f2]
              exact ⟨d1, d2, d3⟩) (fun j hj ha => (hA j hj ha).1) bX bY v2 M N 0 (by omega) (by omega) (fun o _ h => absurd h (by omega))
          have vb : v = -1 ∨ 0 ≤ v ∧ v < 12 := by
            rcases v2 with z | ⟨o, ho, z, _⟩
            · exact Or.inl z.1
            · right; omega
          by_cases v0 : v = -1
          · rw [if_pos v0] at mV
            rw [v0] at cV
            have n1 : ¬ (1 : Int32) = 0 := by decide
            have cF : ∀ (x4 : Int32) (R), (if x4 = 0 then F_X8_goes_247 Z0.1 N w (iz i) (iz X) (iz Y) (si c (w + 5) i (gi c (w + 5) i + 1)) else (F_X8_passDoor Z0.1 N w (if iz px < iz X then iz px else iz X) (iz wy) c).bind fun u9 => F_X8_goes_247 Z0.1 N w (iz i) (iz X) (iz Y) u9) = R → F_X8_goes_170 Z0.1 N w (iz i) (iz wy) x4 (iz X) (iz Y) 0 c = R := fun x4 R hR' => by
              rw [F_X8_goes_170_s, if_pos rfl, cv_r0 hG]
              refine bnd cW ?_
              show (if (0 : Int32) = 0 then _ else _) = _
              rw [if_pos rfl]
              refine bnd cV ?_
              show (if iz (-1) = -1 then _ else _) = _
              rw [if_pos (show iz (-1) = -1 from rfl)]
              have i12' : ib (iz (i : Int)) 12 := iz_ib (by omega)
              have i48' : ib (iz (i : Int)) 48 := iz_ib (by omega)
              rw [if_pos i12', if_pos i12', if_pos i48', cv_w5 hG, cv_w1 hG, tnn _ i rfl (by omega), bd_eq]
              show (if x4 = 0 then F_X8_goes_247 Z0.1 N w (iz i) (iz X) (iz Y) (si c (w + 5) i (gi c (w + 5) i + 1)) else (F_X8_passDoor Z0.1 N w (if gi c (w + 1) i < iz X then gi c (w + 1) i else iz X) (iz wy) c).bind fun u9 => F_X8_goes_247 Z0.1 N w (iz i) (iz X) (iz Y) u9) = _
              rw [a1]
              exact hR'
            have m157 := m_g157 N r (ι i) (720 * r + 16 + 20 * ι i) am m (iz wy) (iz X) (iz Y) 1 w12 o20 am2 hamM
            rw [if_neg n1] at m157
            have m246 := fun d => (m_g246 N r (ι i) (720 * r + 16 + 20 * ι i) d (iz X) (iz Y) r14 w12 o20 (by omega)).2
            have mvO : ∀ (s : Int32) (x k : Nat), ¬ (x = 535 ∧ k = ι i) → ¬ (x = 531 ∧ (k = 720 * r + 16 + 20 * ι i + 15 ∨ k = 720 * r + 16 + 20 * ι i + 16)) → gi (mvD m (ι i) (720 * r + 16 + 20 * ι i) s) x k = gi m x k := fun s x k h1 h2 => by
              unfold mvD
              rw [gi_si_if, if_neg (by omega), gi_si_if, if_neg (by omega), gi_si_if, if_neg (by omega)]
            have mv35 : ∀ s : Int32, gi (mvD m (ι i) (720 * r + 16 + 20 * ι i) s) 535 (ι i) = 1 := fun s => by
              unfold mvD
              rw [gi_si_if, if_neg (by omega), gi_si_if, if_neg (by omega), gi_si_if, if_pos ⟨rfl, rfl⟩]
            have mv15 : ∀ s : Int32, gi (mvD m (ι i) (720 * r + 16 + 20 * ι i) s) 531 (720 * r + 16 + 20 * ι i + 15) = gi m 531 (720 * r + 16 + 20 * ι i + 15) + 1 := fun s => by
              unfold mvD
              rw [gi_si_if, if_neg (by omega), gi_si_if, if_pos ⟨rfl, rfl⟩]
            have mv16 : ∀ s : Int32, gi (mvD m (ι i) (720 * r + 16 + 20 * ι i) s) 531 (720 * r + 16 + 20 * ι i + 16) = gi m 531 (720 * r + 16 + 20 * ι i + 16) + s := fun s => by
              unfold mvD
              rw [gi_si_if, if_pos ⟨rfl, rfl⟩]
            by_cases am0 : am = 0
            · rw [if_pos am0] at C130 m157
              obtain ⟨dx0, dy0⟩ := dX0 am0
              have hXe : X = px + wy := by rw [← hX, dx0]
              have hYe : Y = py := by rw [← hY, dy0]; omega
              obtain ⟨xd, xd15, cm, mm⟩ : ∃ xd : Nat, xd < 15 ∧ (if iz px < iz X then iz px else iz X) = iz xd ∧ (if iz px ≤ iz X then iz px else iz X) = iz xd := by
                rcases wyv with z | z
                · refine ⟨px.toNat, by omega, ?_, ?_⟩
                  · rw [if_pos (iz_lti (by omega))]
                    exact congrArg iz (by omega)
                  · rw [if_pos (iz_lei (by omega))]
                    exact congrArg iz (by omega)
                · refine ⟨X.toNat, by omega, ?_, ?_⟩
                  · rw [if_neg (iz_nlt (by omega))]
                    exact congrArg iz (by omega)
                  · rw [if_neg (iz_nle (by omega))]
                    exact congrArg iz (by omega)
              rw [a3, mm] at m157
              obtain ⟨cd, md, g1, g2, g3, g4, g5, g6, g7⟩ := doors_both N r xd c (mvD m (ι i) (720 * r + 16 + 20 * ι i) 0) (iz wy) hG r14 xd15 (fun x hx => by
                rw [mvO 0 531 _ (by omega) (by omega), mvO 0 531 _ (by omega) (by omega), mvO 0 531 _ (by omega) (by omega), mvO 0 531 _ (by omega) (by omega), mvO 0 531 _ (by omega) (by omega)]
                exact hGD.2 x hx)
              rw [g2, sb_eq, m246 md] at m157
              refine ⟨si (si cd (w + 1) i (iz X)) (w + 2) i (iz Y), si (si md 536 (ι i) (iz X)) 537 (ι i) (iz Y), 1, by omega, C130.trans (c170 _ _ (cF _ _ ?_)), fun z => absurd z thD, fun _ => m86 _ (bnd mV ?_), ⟨fun x k h1 h2 h3 => ?_, fun x k => g5 x k⟩, ⟨fun x k h1 h2 => ?_, fun x k => g7 x k⟩, ⟨?_, fun x hx => ?_⟩, ⟨X, Y, ⟨?_, ?_, ?_, ?_⟩, Or.inr cinS, ⟨fun z => ?_, fun z => absurd (hYe.trans cyD.symm) z.2⟩⟩, ?_, ⟨?_, ?_, ?_, ?_⟩, ?_, Or.inr ⟨⟨fun z => ?_, fun z => ?_⟩, ?_, ?_⟩⟩
              · rw [if_neg n1, cm]
                exact bnd g1 (c_247 N i cd _ _ hG i12)
              · show (if (0 : Int32) = 0 then _ else _) = _
                rw [if_pos rfl]
                exact m157
              · rw [gi_si_if, if_neg (by omega), gi_si_if, if_neg (by omega)]
                exact g4 x k h3
              · rw [gi_si_if, if_neg (by omega), gi_si_if, if_neg (by omega), g6 x k (by omega)]
                exact mvO 0 x k (by omega) (by omega)
              · rw [gi_si_if, if_neg (by omega), gi_si_if, if_neg (by omega), gi_si_if, if_neg (by omega), gi_si_if, if_neg (by omega), g4 _ _ (by omega), g6 _ _ (by omega), mvO 0 _ _ (by omega) (by omega)]
                exact hGD.1
              · have := g3 x hx
                rw [gi_si_if, if_neg (by omega), gi_si_if, if_neg (by omega), gi_si_if, if_neg (by omega), gi_si_if, if_neg (by omega), gi_si_if, if_neg (by omega), gi_si_if, if_neg (by omega), gi_si_if, if_neg (by omega), gi_si_if, if_neg (by omega), gi_si_if, if_neg (by omega), gi_si_if, if_neg (by omega), gi_si_if, if_neg (by omega), gi_si_if, if_neg (by omega), gi_si_if, if_neg (by omega), gi_si_if, if_neg (by omega), gi_si_if, if_neg (by omega), gi_si_if, if_neg (by omega), gi_si_if, if_neg (by omega), gi_si_if, if_neg (by omega), gi_si_if, if_neg (by omega), gi_si_if, if_neg (by omega)]
                exact this
              · rw [gi_si_if, if_neg (by omega), gi_si_if, if_pos ⟨rfl, rfl⟩]
              · rw [gi_si_if, if_pos ⟨rfl, rfl⟩]
              · rw [gi_si_if, if_neg (by omega), gi_si_if, if_pos ⟨rfl, rfl⟩]
              · rw [gi_si_if, if_pos ⟨rfl, rfl⟩]
              · have z2' := z.2
                rw [gi_si_if, if_neg (by omega), gi_si_if, if_neg (by omega), g6 _ _ (by omega), mvO 0 _ _ (by omega) (by omega), hamM, am0] at z2'
                exact absurd rfl z2'
              · rw [gi_si_if, if_neg (by omega), gi_si_if, if_neg (by omega), g6 _ _ (by omega), mv35]; rfl
              · rw [gi_si_if, if_neg (by omega), gi_si_if, if_neg (by omega), gi_si_if, if_neg (by omega), gi_si_if, if_neg (by omega), g4 _ _ (by omega), g6 _ _ (by omega), mvO 0 _ _ (by omega) (by omega)]; exact b3
              · rw [gi_si_if, if_neg (by omega), gi_si_if, if_neg (by omega), gi_si_if, if_neg (by omega), gi_si_if, if_neg (by omega), g4 _ _ (by omega), g6 _ _ (by omega), mv15, b4]; rfl
              · rw [gi_si_if, if_neg (by omega), gi_si_if, if_neg (by omega), gi_si_if, if_neg (by omega), gi_si_if, if_neg (by omega), g4 _ _ (by omega), g6 _ _ (by omega), mv16, b5]; exact (Int32.add_zero _).symm
              · rw [gi_si_if, if_neg (by omega), gi_si_if, if_neg (by omega), gi_si_if, if_neg (by omega), gi_si_if, if_neg (by omega), g4 _ _ (by omega), g6 _ _ (by omega), mvO 0 _ _ (by omega) (by omega)]; exact b6
              · rw [gi_si_if, if_neg (by omega), gi_si_if, if_neg (by omega), g4 _ _ (by omega)]
              · rw [gi_si_if, if_neg (by omega), gi_si_if, if_pos ⟨rfl, rfl⟩] at z
                exact absurd z (iz_nei (b := -1) (by omega))
              · rw [a1] at z
                exact absurd z (iz_nei (b := -1) (by omega))
              · rw [gi_si_if, if_neg (by omega), gi_si_if, if_neg (by omega), g4 _ _ (by omega)]
              · rw [gi_si_if, if_neg (by omega), gi_si_if, if_neg (by omega), g4 _ _ (by omega)]
            · rw [if_neg am0] at C130 m157
              obtain ⟨dx0, dy0⟩ := dY0 am0
              have hYe : Y = py + 1 ∨ Y = py - 1 := by rw [← hY]; omega
              rw [m246] at m157
              refine ⟨si (si (si c (w + 5) i (gi c (w + 5) i + 1)) (w + 1) i (iz X)) (w + 2) i (iz Y), si (si (mvD m (ι i) (720 * r + 16 + 20 * ι i) 1) 536 (ι i) (iz X)) 537 (ι i) (iz Y), 1, by omega, C130.trans (c170 _ _ (cF _ _ ?_)), fun z => absurd z thD, fun _ => m86 _ (bnd mV ?_), ⟨fun x k h1 h2 h3 => ?_, fun _ _ => rfl⟩, ⟨fun x k h1 h2 => ?_, fun _ _ => rfl⟩, ⟨?_, fun x hx => ?_⟩, ⟨X, Y, ⟨?_, ?_, ?_, ?_⟩, Or.inr cinS, ⟨fun _ => ⟨by omega, by omega⟩, fun _ => ⟨?_, ?_⟩⟩⟩, ?_, ⟨?_, ?_, ?_, ?_⟩, ?_, Or.inr ⟨⟨fun z => ?_, fun z => ?_⟩, ?_, ?_⟩⟩
              · rw [if_pos rfl]
                exact c_247 N i _ _ _ hG i12
              · show (if (0 : Int32) = 0 then _ else _) = _
                rw [if_pos rfl]
                exact m157
              · rw [gi_si_if, if_neg (by omega), gi_si_if, if_neg (by omega), gi_si_if, if_neg (by omega)]
              · rw [gi_si_if, if_neg (by omega), gi_si_if, if_neg (by omega)]
                exact mvO 1 x k (by omega) (by omega)
              · rw [gi_si_if, if_neg (by omega), gi_si_if, if_neg (by omega), gi_si_if, if_neg (by omega), gi_si_if, if_neg (by omega), gi_si_if, if_neg (by omega), mvO 1 _ _ (by omega) (by omega)]
                exact hGD.1
              · have := hGD.2 x hx
                have eC : ∀ k : Nat, gi (si (si (si c (w + 5) i (gi c (w + 5) i + 1)) (w + 1) i (iz X)) (w + 2) i (iz Y)) (w + 11) k = gi c (w + 11) k := fun k => by
                  rw [gi_si_if, if_neg (by omega), gi_si_if, if_neg (by omega), gi_si_if, if_neg (by omega)]
                have eM : ∀ k : Nat, 720 * r + 640 ≤ k → gi (si (si (mvD m (ι i) (720 * r + 16 + 20 * ι i) 1) 536 (ι i) (iz X)) 537 (ι i) (iz Y)) 531 k = gi m 531 k := fun k hk => by
                  rw [gi_si_if, if_neg (by omega), gi_si_if, if_neg (by omega), mvO 1 _ _ (by omega) (by omega)]
                rw [eC, eC, eC, eC, eC, eM _ (by omega), eM _ (by omega), eM _ (by omega), eM _ (by omega), eM _ (by omega)]
                exact this
              · rw [gi_si_if, if_neg (by omega), gi_si_if, if_pos ⟨rfl, rfl⟩]
              · rw [gi_si_if, if_pos ⟨rfl, rfl⟩]
              · rw [gi_si_if, if_neg (by omega), gi_si_if, if_pos ⟨rfl, rfl⟩]
              · rw [gi_si_if, if_pos ⟨rfl, rfl⟩]
              · rw [gi_si_if, if_neg (by omega), gi_si_if, if_neg (by omega), mv35]
              · rw [gi_si_if, if_neg (by omega), gi_si_if, if_neg (by omega), mvO 1 _ _ (by omega) (by omega), hamM]
                exact iz_nei (b := 0) (by omega)
              · rw [gi_si_if, if_neg (by omega), gi_si_if, if_neg (by omega), mv35]; rfl
              · rw [gi_si_if, if_neg (by omega), gi_si_if, if_neg (by omega), gi_si_if, if_neg (by omega), gi_si_if, if_neg (by omega), gi_si_if, if_neg (by omega), mvO 1 _ _ (by omega) (by omega)]; exact b3
              · rw [gi_si_if, if_neg (by omega), gi_si_if, if_neg (by omega), gi_si_if, if_neg (by omega), gi_si_if, if_neg (by omega), gi_si_if, if_neg (by omega), mv15, b4]; rfl
              · rw [gi_si_if, if_neg (by omega), gi_si_if, if_neg (by omega), gi_si_if, if_pos ⟨rfl, rfl⟩, gi_si_if, if_neg (by omega), gi_si_if, if_neg (by omega), mv16, b5]
              · rw [gi_si_if, if_neg (by omega), gi_si_if, if_neg (by omega), gi_si_if, if_neg (by omega), gi_si_if, if_neg (by omega), gi_si_if, if_neg (by omega), mvO 1 _ _ (by omega) (by omega)]; exact b6
              · rw [gi_si_if, if_neg (by omega), gi_si_if, if_neg (by omega), gi_si_if, if_neg (by omega)]
              · rw [gi_si_if, if_neg (by omega), gi_si_if, if_pos ⟨rfl, rfl⟩] at z
                exact absurd z (iz_nei (b := -1) (by omega))
              · rw [a1] at z
                exact absurd z (iz_nei (b := -1) (by omega))
              · rw [gi_si_if, if_neg (by omega), gi_si_if, if_neg (by omega), gi_si_if, if_neg (by omega)]
              · rw [gi_si_if, if_neg (by omega), gi_si_if, if_neg (by omega), gi_si_if, if_neg (by omega)]
          · rw [if_neg v0] at mV
            refine ⟨cb, mb, 0, by omega, C130.trans (c170 _ _ ?_), fun z => absurd z thD, fun _ => m86 _ (bnd mV m143), hGb⟩
            rw [F_X8_goes_170_s, if_pos rfl, cv_r0 hG]
            refine bnd cW ?_
            show (if (0 : Int32) = 0 then _ else _) = _
            rw [if_pos rfl]
            refine bnd cV ?_
            show (if iz v = -1 then _ else _) = _
            rw [if_neg (show ¬ iz v = -1 from iz_nei (b := -1) (by omega))]
            exact c201
      · rw [if_neg cin] at cI mI
        have ii : ib (iz (ι i : Nat)) 12 := iz_ib (by omega)
        have m129 : ∀ R, (if am = 0 then F_X10_goes_157 Z0.1 N 510 (iz r) (iz (ι i : Nat)) (iz ((720 * r + 16 + 20 * ι i : Nat) : Int)) (iz wy) (iz X) (iz Y) 0 m else F_X10_goes_143 Z0.1 N 510 (iz ((720 * r + 16 + 20 * ι i : Nat) : Int)) m) = R → F_X10_goes Z0.1 N 510 (iz r) (iz (ι i : Nat)) m = R := fun R hR' => by
          rw [M86, F_X10_goes_86_s, hy]
          refine bnd mI ?_
          show (if (0 : Int32) = 0 then F_X10_goes_129 Z0.1 N (F_X10_goes_143 Z0.1 N) 510 (iz r) (iz (ι i : Nat)) (iz ((720 * r + 16 + 20 * ι i : Nat) : Int)) (iz wy) (iz X) (iz Y) 0 m else _) = _
          rw [if_pos rfl, F_X10_goes_129_s, if_pos rfl, if_pos ii, r_510_43, tnn _ (ι i) rfl (by omega), hamM]
          by_cases z : am = 0
          · rw [if_pos z] at hR'
            rw [if_pos (show iz (am : Int) = 0 from by rw [z]; rfl)]
            exact hR'
          · rw [if_neg z] at hR'
            rw [if_neg (show ¬ iz (am : Int) = 0 from iz_nei (b := 0) (by omega))]
            exact hR'
        have c151 : ∀ (x4 : Int32) (R), F_X8_goes_151 Z0.1 N w (iz i) (iz wy) x4 (iz X) (iz Y) 1 c = R → F_X8_goes_130 Z0.1 N w (iz i) (iz wy) x4 (iz X) (iz Y) c = R := fun x4 R hR' => by
          rw [F_X8_goes_130_s, cv_r0 hG]
          refine bnd cI ?_
          show (if (0 : Int32) = 0 then _ else _) = _
          rw [if_pos rfl]
          exact hR'
        by_cases am0 : am = 0
        · rw [if_pos am0] at C130 m129
          have m157 := m_g157 N r (ι i) (720 * r + 16 + 20 * ι i) am m (iz wy) (iz X) (iz Y) 0 w12 o20 am2 hamM
          rw [if_pos rfl, if_pos am0, (m_g246 N r (ι i) (720 * r + 16 + 20 * ι i) _ (iz X) (iz Y) r14 w12 o20 (by omega)).1] at m157
          refine ⟨arrD c w i, _, 1, by omega, C130.trans (c151 _ _ ?_), fun z => absurd z thD, fun _ => m129 _ m157, ⟨fun x k h1 h2 h3 => ?_, fun _ _ => rfl⟩, ⟨fun x k h1 h2 => ?_, fun _ _ => rfl⟩, ⟨?_, fun x hx => ?_⟩, ⟨-1, -1, ⟨?_, ?_, ?_, ?_⟩, Or.inl ⟨rfl, rfl⟩, ⟨fun z => ?_, fun z => absurd rfl z.1⟩⟩, ?_, ⟨?_, ?_, ?_, ?_⟩, ?_, Or.inl ⟨fun z => ?_, ?_, ?_, ?_⟩⟩
          · rw [F_X8_goes_151_s, if_neg (by decide : ¬ (1 : Int32) = 0), if_neg (by decide : ¬ (1 : Int32) = 0)]
            exact bnd (c_out N i c hG i12) rfl
          · unfold arrD
            rw [gi_si_if, if_neg (by omega), gi_si_if, if_neg (by omega), gi_si_if, if_neg (by omega), gi_si_if, if_neg (by omega)]
          · unfold outD mvD
            rw [gi_si_if, if_neg (by omega), gi_si_if, if_neg (by omega), gi_si_if, if_neg (by omega), gi_si_if, if_neg (by omega), gi_si_if, if_neg (by omega), gi_si_if, if_neg (by omega), gi_si_if, if_neg (by omega)]
          · unfold arrD outD
            have e6 : gi (mvD m (ι i) (720 * r + 16 + 20 * ι i) 0) 531 (720 * r + 6) = gi m 531 (720 * r + 6) := by
              unfold mvD
              rw [gi_si_if, if_neg (by omega), gi_si_if, if_neg (by omega), gi_si_if, if_neg (by omega)]
            rw [gi_si_if, if_pos ⟨rfl, rfl⟩, gi_si_if, if_neg (by omega), gi_si_if, if_neg (by omega), gi_si_if, if_pos ⟨rfl, rfl⟩, e6, hGD.1]
          · have eC : ∀ k : Nat, gi (arrD c w i) (w + 11) k = gi c (w + 11) k := fun k => by
              unfold arrD
              rw [gi_si_if, if_neg (by omega), gi_si_if, if_neg (by omega), gi_si_if, if_neg (by omega), gi_si_if, if_neg (by omega)]
            have eM : ∀ k : Nat, 640 ≤ k → gi (outD (mvD m (ι i) (720 * r + 16 + 20 * ι i) 0) r (ι i) (720 * r + 16 + 20 * ι i)) 531 (720 * r + k) = gi m 531 (720 * r + k) := fun k hk => by
              unfold outD mvD
              rw [gi_si_if, if_neg (by omega), gi_si_if, if_neg (by omega), gi_si_if, if_neg (by omega), gi_si_if, if_neg (by omega), gi_si_if, if_neg (by omega), gi_si_if, if_neg (by omega), gi_si_if, if_neg (by omega)]
            have h0 := hGD.2 x hx
            have x0 := eM (640 + 5 * x) (by omega)
            have x1 := eM (640 + 5 * x + 1) (by omega)
            have x2 := eM (640 + 5 * x + 2) (by omega)
            have x3 := eM (640 + 5 * x + 3) (by omega)
            have x4 := eM (640 + 5 * x + 4) (by omega)
            rw [← Nat.add_assoc] at x0
            rw [← Nat.add_assoc, ← Nat.add_assoc] at x1 x2 x3 x4
            rw [eC, eC, eC, eC, eC, x0, x1, x2, x3, x4]
            exact h0
          · unfold arrD
            rw [gi_si_if, if_neg (by omega), gi_si_if, if_neg (by omega), gi_si_if, if_neg (by omega), gi_si_if, if_pos ⟨rfl, rfl⟩]; rfl
          · unfold arrD
            rw [gi_si_if, if_neg (by omega), gi_si_if, if_neg (by omega), gi_si_if, if_pos ⟨rfl, rfl⟩]; rfl
          · unfold outD
            rw [gi_si_if, if_neg (by omega), gi_si_if, if_pos ⟨rfl, rfl⟩]; rfl
          · unfold outD
            rw [gi_si_if, if_pos ⟨rfl, rfl⟩]; rfl
          · have z2' := z.2
            unfold outD mvD at z2'
            rw [gi_si_if, if_neg (by omega), gi_si_if, if_neg (by omega), gi_si_if, if_neg (by omega), gi_si_if, if_neg (by omega), gi_si_if, if_neg (by omega), gi_si_if, if_neg (by omega), gi_si_if, if_neg (by omega), hamM, am0] at z2'
            exact absurd rfl z2'
          · unfold outD mvD
            rw [gi_si_if, if_neg (by omega), gi_si_if, if_neg (by omega), gi_si_if, if_neg (by omega), gi_si_if, if_neg (by omega), gi_si_if, if_neg (by omega), gi_si_if, if_neg (by omega), gi_si_if, if_pos ⟨rfl, rfl⟩]; rfl
          · unfold arrD outD
            have e3' : gi (mvD m (ι i) (720 * r + 16 + 20 * ι i) 0) 531 (720 * r + 3) = gi m 531 (720 * r + 3) := by
              unfold mvD
              rw [gi_si_if, if_neg (by omega), gi_si_if, if_neg (by omega), gi_si_if, if_neg (by omega)]
            rw [gi_si_if, if_neg (by omega), gi_si_if, if_pos ⟨rfl, rfl⟩, gi_si_if, if_neg (by omega), gi_si_if, if_neg (by omega), gi_si_if, if_neg (by omega), gi_si_if, if_pos ⟨rfl, rfl⟩, e3', r3]
          · unfold arrD outD mvD
            rw [gi_si_if, if_neg (by omega), gi_si_if, if_neg (by omega), gi_si_if, if_neg (by omega), gi_si_if, if_neg (by omega), gi_si_if, if_neg (by omega), gi_si_if, if_neg (by omega), gi_si_if, if_neg (by omega), gi_si_if, if_neg (by omega), gi_si_if, if_neg (by omega), gi_si_if, if_pos ⟨rfl, rfl⟩, b4]
            rfl
          · unfold arrD outD mvD
            rw [gi_si_if, if_neg (by omega), gi_si_if, if_neg (by omega), gi_si_if, if_neg (by omega), gi_si_if, if_neg (by omega), gi_si_if, if_neg (by omega), gi_si_if, if_neg (by omega), gi_si_if, if_neg (by omega), gi_si_if, if_neg (by omega), gi_si_if, if_pos ⟨rfl, rfl⟩, b5]
            exact (Int32.add_zero _).symm
          · unfold arrD outD mvD
            rw [gi_si_if, if_neg (by omega), gi_si_if, if_neg (by omega), gi_si_if, if_neg (by omega), gi_si_if, if_neg (by omega), gi_si_if, if_neg (by omega), gi_si_if, if_neg (by omega), gi_si_if, if_neg (by omega), gi_si_if, if_neg (by omega), gi_si_if, if_neg (by omega), gi_si_if, if_neg (by omega), gi_si_if, if_neg (by omega)]
            exact b6
          · unfold arrD
            rw [gi_si_if, if_neg (by omega), gi_si_if, if_neg (by omega), gi_si_if, if_neg (by omega), gi_si_if, if_neg (by omega)]
          · rw [a1] at z
            exact absurd z (iz_nei (b := -1) (by omega))
          · unfold arrD
            rw [gi_si_if, if_neg (by omega), gi_si_if, if_neg (by omega), gi_si_if, if_neg (by omega), gi_si_if, if_pos ⟨rfl, rfl⟩]
          · unfold arrD
            rw [gi_si_if, if_neg (by omega), gi_si_if, if_pos ⟨rfl, rfl⟩]
          · unfold arrD
            rw [gi_si_if, if_pos ⟨rfl, rfl⟩]
        · rw [if_neg am0] at C130 m129
          refine ⟨cb, mb, 0, by omega, C130.trans (c151 _ _ ?_), fun z => absurd z thD, fun _ => m129 _ m143, hGb⟩
          rw [F_X8_goes_151_s, if_pos rfl, F_X8_goes_170_s, if_neg (by decide : ¬ (1 : Int32) = 0)]
          exact c201
