/-! what one does, by where all stand: the class alone -/
def GFP (L W n : Nat) (wl : Int → Int → Prop) (px py : Nat → Int) (i : Nat) (st : Prop) (am : Nat) (wy : Int) (mv : Nat) (X Y : Int) : Prop := ((px i = -1 ∨ st) ∧ mv = 0 ∧ X = px i ∧ Y = py i) ∨ (¬ (px i = -1 ∨ st) ∧ ¬ inS L W (px i + dXI am wy) (py i + dYI am wy) ∧ am = 0 ∧ mv = 1 ∧ X = -1 ∧ Y = -1) ∨ (¬ (px i = -1 ∨ st) ∧ ¬ inS L W (px i + dXI am wy) (py i + dYI am wy) ∧ am ≠ 0 ∧ mv = 0 ∧ X = px i ∧ Y = py i) ∨ (¬ (px i = -1 ∨ st) ∧ inS L W (px i + dXI am wy) (py i + dYI am wy) ∧ (wl (px i + dXI am wy) (py i + dYI am wy) ∨ ∃ o : Nat, o < n ∧ px o = px i + dXI am wy ∧ py o = py i + dYI am wy) ∧ mv = 0 ∧ X = px i ∧ Y = py i) ∨ (¬ (px i = -1 ∨ st) ∧ inS L W (px i + dXI am wy) (py i + dYI am wy) ∧ ¬ (wl (px i + dXI am wy) (py i + dYI am wy) ∨ ∃ o : Nat, o < n ∧ px o = px i + dXI am wy ∧ py o = py i + dYI am wy) ∧ mv = 1 ∧ X = px i + dXI am wy ∧ Y = py i + dYI am wy)
theorem GFP_one {L W n : Nat} {wl : Int → Int → Prop} {px py : Nat → Int} {i am : Nat} {st : Prop} {wy X Y X' Y' : Int} {mv mv' : Nat} (h : GFP L W n wl px py i st am wy mv X Y) (k : GFP L W n wl px py i st am wy mv' X' Y') : mv = mv' ∧ X = X' ∧ Y = Y' := by
  rcases h with ⟨a, b, d, e⟩ | ⟨a, a2, a3, b, d, e⟩ | ⟨a, a2, a3, b, d, e⟩ | ⟨a, a2, a3, b, d, e⟩ | ⟨a, a2, a3, b, d, e⟩ <;> rcases k with ⟨a', b', d', e'⟩ | ⟨a', a2', a3', b', d', e'⟩ | ⟨a', a2', a3', b', d', e'⟩ | ⟨a', a2', a3', b', d', e'⟩ | ⟨a', a2', a3', b', d', e'⟩
  all_goals first
    | exact ⟨b.trans b'.symm, d.trans d'.symm, e.trans e'.symm⟩
    | exact absurd a a'
    | exact absurd a' a
    | exact absurd a2 a2'
    | exact absurd a2' a2
    | exact absurd a3 a3'
    | exact absurd a3' a3
theorem GFP_cg {L W n : Nat} {wl wl' : Int → Int → Prop} {px py px' py' : Nat → Int} {i am : Nat} {st st' : Prop} {wy X Y : Int} {mv : Nat} (hi : i < n) (hw : ∀ x y : Int, inS L W x y → (wl' x y ↔ wl x y)) (hx : ∀ o : Nat, o < n → px' o = px o ∧ py' o = py o) (hs : st' ↔ st) (h : GFP L W n wl px py i st am wy mv X Y) : GFP L W n wl' px' py' i st' am wy mv X Y := by
  have ho : (∃ o : Nat, o < n ∧ px' o = px i + dXI am wy ∧ py' o = py i + dYI am wy) ↔ ∃ o : Nat, o < n ∧ px o = px i + dXI am wy ∧ py o = py i + dYI am wy := ⟨fun ⟨o, o1, o2, o3⟩ => ⟨o, o1, (hx o o1).1 ▸ o2, (hx o o1).2 ▸ o3⟩, fun ⟨o, o1, o2, o3⟩ => ⟨o, o1, (hx o o1).1.trans o2, (hx o o1).2.trans o3⟩⟩
  unfold GFP
  rw [(hx i hi).1, (hx i hi).2, hs, ho]
  by_cases z : inS L W (px i + dXI am wy) (py i + dYI am wy)
  · rw [hw _ _ z]
    exact h
  · rcases h with q | q | q | ⟨_, q, _⟩ | ⟨_, q, _⟩
    · exact Or.inl q
    · exact Or.inr (Or.inl q)
    · exact Or.inr (Or.inr (Or.inl q))
    · exact absurd q z
    · exact absurd q z
def CGO (c : DY) (g l w L W n : Nat) (px py : Nat → Int) : Prop := CVg g l w ∧ (L ≤ 16 ∧ W ≤ 6 ∧ n ≤ 12) ∧ (gi c g 0 = iz L ∧ gi c g 1 = iz W ∧ gi c g 3 = iz n) ∧ (∀ k : Nat, k < 96 → gi c (g + 1) k = 0 ∨ gi c (g + 1) k = 1) ∧ ∀ o : Nat, o < n → gi c (w + 1) o = iz (px o) ∧ gi c (w + 2) o = iz (py o) ∧ (px o = -1 ∧ py o = -1 ∨ inS L W (px o) (py o))
theorem c_goesF (N : Nat) (c : DY) (g l w L W n i am : Nat) (px py : Nat → Int) (wy : Int) (hN : 20 ≤ N) (h : CGO c g l w L W n px py) (hi : i < n) (w4 : gi c (g + 4) i = iz wy) (wyv : wy = 1 ∨ wy = -1) (am2 : am ≤ 2) (haim : gi c (w + 8) i = 5 ∨ gi c (w + 8) i ≠ 5 ∧ (if gi c (w + 8) i = 3 then gi c (g + 8) i else gi c (w + 8) i) = iz am) : ∃ (mv : Nat) (X Y : Int) (c' : DY), mv ≤ 1 ∧ F_X8_goes Z0.1 N w (iz i) c = some (iz mv, c') ∧ gi c' (w + 1) i = iz X ∧ gi c' (w + 2) i = iz Y ∧ (X = -1 ∧ Y = -1 ∨ inS L W X Y) ∧ GFP L W n (fun x y => gi c (g + 1) (6 * x + y).toNat = 1) px py i (gi c (w + 8) i = 5) am wy mv X Y ∧ chC w i c c' ∧ gi c' (w + 7) i = gi c (w + 7) i := by
  obtain ⟨hG, ⟨L16, W6, n12⟩, ⟨c0, c1, c3⟩, hw01, hp⟩ := h
  obtain ⟨dj, dj2⟩ := cv_dj hG
  have n1 : ¬ (1 : Int32) = 0 := by decide
  have i12 : i < 12 := by omega
  obtain ⟨a1, a2, a5⟩ := hp i hi
  have hasH := c_hasG Z0.1 N g i n c (by omega) (by omega) c3 n12
  rw [if_pos (show 0 ≤ (i : Int) ∧ (i : Int) < n by omega)] at hasH
  by_cases th : px i = -1
  · refine ⟨0, px i, py i, c, by omega, ?_, a1, a2, a5, Or.inl ⟨Or.inl th, rfl, rfl, rfl⟩, chC_refl w i c, rfl⟩
    rw [F_X8_goes_s]
    have tH : F_X8_isThere Z0.1 N w (iz i) c = some (0, c) := by
      rw [F_X8_isThere_s, cv_r0 hG, hasH, sb_eq, if_neg n1, if_pos (show ib (iz (i : Int)) 48 from iz_ib (by omega)), cv_w1 hG, tnn _ i rfl (by omega), a1, th, if_pos (show iz (-1) = -1 from rfl)]
    exact bnd tH rfl
  · have ins : inS L W (px i) (py i) := by
      rcases a5 with z | z
      · exact absurd z.1 th
      · exact z
    have ins' := ins
    unfold inS at ins'
    by_cases five : gi c (w + 8) i = 5
    · refine ⟨0, px i, py i, c, by omega, ?_, a1, a2, a5, Or.inl ⟨Or.inr five, rfl, rfl, rfl⟩, chC_refl w i c, rfl⟩
      have tH : F_X8_isThere Z0.1 N w (iz i) c = some (1, c) := by
        rw [F_X8_isThere_s, cv_r0 hG, hasH, sb_eq, if_neg n1, if_pos (show ib (iz (i : Int)) 48 from iz_ib (by omega)), cv_w1 hG, tnn _ i rfl (by omega), a1, if_neg (show ¬ iz (px i) = -1 from iz_nei (b := -1) (by omega))]
      rw [F_X8_goes_s]
      refine bnd tH ?_
      show (if (1 : Int32) = 0 then _ else _) = _
      rw [if_neg n1, if_pos (show ib (iz (i : Int)) 12 from iz_ib (by omega)), cv_w8 hG, tnn _ i rfl (by omega)]
      show (if gi c (w + 8) i = 5 then _ else _) = _
      rw [five, if_pos rfl]
      rfl
    · have hamC : (if gi c (w + 8) i = 3 then gi c (g + 8) i else gi c (w + 8) i) = iz am := by
        rcases haim with z | z
        · exact absurd z five
        · exact z.2
      have C130 := c_g130 N i n am c wy (px i) (py i) _ _ hG n12 hi c3 am2 wyv w4 rfl rfl five hamC a1 a2 ⟨by omega, by omega⟩
      have nst : ¬ (px i = -1 ∨ gi c (w + 8) i = 5) := fun z => by
        rcases z with z | z
        · exact th z
        · exact five z
      have bX : -100 ≤ px i + dXI am wy ∧ px i + dXI am wy ≤ 100 := by
        unfold dXI
        by_cases z : am = 0
        · rw [if_pos z]; omega
        · rw [if_neg z]; omega
      have bY : -100 ≤ py i + dYI am wy ∧ py i + dYI am wy ≤ 100 := by
        unfold dYI
        by_cases z : am = 0
        · rw [if_pos z]; omega
        · rw [if_neg z]
          by_cases z' : am = 1
          · rw [if_pos z']; omega
          · rw [if_neg z']; omega
      have dX0 : am = 0 → dXI am wy = wy ∧ dYI am wy = 0 := fun z => ⟨if_pos z, if_pos z⟩
      unfold GFP
      revert C130 bX bY
      generalize hX : px i + dXI am wy = X
      generalize hY : py i + dYI am wy = Y
      intro C130 bX bY
      have cI := c_inside N c g L W X Y L16 W6 c0 c1 (by omega) (by omega) (by omega) (by omega)
      have c201 := c_201 N i c hG i12
      have bchC : chC w i c (si c (w + 6) i (gi c (w + 6) i + 1)) := ⟨fun x k h1 h2 h3 => by rw [gi_si_if, if_neg (by omega)], fun _ _ => rfl⟩
      have b1 : gi (si c (w + 6) i (gi c (w + 6) i + 1)) (w + 1) i = iz (px i) := by rw [gi_si_if, if_neg (by omega)]; exact a1
      have b2 : gi (si c (w + 6) i (gi c (w + 6) i + 1)) (w + 2) i = iz (py i) := by rw [gi_si_if, if_neg (by omega)]; exact a2
      have b7 : gi (si c (w + 6) i (gi c (w + 6) i + 1)) (w + 7) i = gi c (w + 7) i := by rw [gi_si_if, if_neg (by omega)]
      by_cases cin : 0 ≤ X ∧ X < L ∧ 0 ≤ Y ∧ Y < W
      · rw [if_pos cin] at cI
        have cinS : inS L W X Y := cin
        have cW := (c_wallG N c g L W X Y hG.1 L16 W6 c0 c1 hw01 (by omega) (by omega) (by omega) (by omega)).2 cinS
        have c170 : ∀ (x4 : Int32) (R), F_X8_goes_170 Z0.1 N w (iz i) (iz wy) x4 (iz X) (iz Y) 0 c = R → F_X8_goes_130 Z0.1 N w (iz i) (iz wy) x4 (iz X) (iz Y) c = R := fun x4 R hR' => by
          rw [F_X8_goes_130_s, cv_r0 hG]
          refine bnd cI ?_
          show (if (1 : Int32) = 0 then _ else _) = _
          rw [if_neg n1, F_X8_goes_151_s]
          by_cases x0 : x4 = 0
          · rw [if_pos x0]; exact hR'
          · rw [if_neg x0, if_pos rfl]; exact hR'
        by_cases wl : gi c (g + 1) (6 * X + Y).toNat = 1
        · rw [wl] at cW
          refine ⟨0, px i, py i, _, by omega, C130.trans (c170 _ _ ?_), b1, b2, a5, Or.inr (Or.inr (Or.inr (Or.inl ⟨nst, cinS, Or.inl wl, rfl, rfl, rfl⟩))), bchC, b7⟩
          rw [F_X8_goes_170_s, if_pos rfl, cv_r0 hG]
          refine bnd cW ?_
          show (if (1 : Int32) = 0 then _ else _) = _
          rw [if_neg n1]
          exact c201
        · have wl0 : gi c (g + 1) (6 * X + Y).toNat = 0 := (hw01 _ (by omega)).resolve_right wl
          rw [wl0] at cW
          obtain ⟨v, v1, v2⟩ := c_who N c g l w n px py X Y hG n12 c3 (fun o ho => by
            obtain ⟨d1, d2, d5⟩ := hp o ho
            unfold inS at d5
            exact ⟨d1, d2, by omega, by omega, by omega, by omega⟩) (by omega) (by omega) (by omega) (by omega) n N 0 (by omega) (by omega) (fun j hj => absurd hj (by omega))
          have cV : F_X8_whoIsOn Z0.1 N w (iz X) (iz Y) c = some (iz v, c) := by rw [F_X8_whoIsOn_s]; exact v1
          rcases v2 with ⟨v0, vno⟩ | ⟨o, ho, vo, vx, vy, _⟩
          · rw [v0] at cV
            have ok : ¬ (gi c (g + 1) (6 * X + Y).toNat = 1 ∨ ∃ o : Nat, o < n ∧ px o = X ∧ py o = Y) := fun z => by
              rcases z with z | ⟨o, ho, z1, z2⟩
              · exact wl z
              · exact vno o ho ⟨z1, z2, by omega⟩
            have cF : ∀ (x4 : Int32) (R), (if x4 = 0 then F_X8_goes_247 Z0.1 N w (iz i) (iz X) (iz Y) (si c (w + 5) i (gi c (w + 5) i + 1)) else (F_X8_passDoor Z0.1 N w (if iz (px i) < iz X then iz (px i) else iz X) (iz wy) c).bind fun u9 => F_X8_goes_247 Z0.1 N w (iz i) (iz X) (iz Y) u9) = R → F_X8_goes_170 Z0.1 N w (iz i) (iz wy) x4 (iz X) (iz Y) 0 c = R := fun x4 R hR' => by
              rw [F_X8_goes_170_s, if_pos rfl, cv_r0 hG]
              refine bnd cW ?_
              show (if (0 : Int32) = 0 then _ else _) = _
              rw [if_pos rfl]
              refine bnd cV ?_
              show (if iz (-1) = -1 then _ else _) = _
              rw [if_pos (show iz (-1) = -1 from rfl)]
              have i12' : ib (iz (i : Int)) 12 := iz_ib (by omega)
              have i48' : ib (iz (i : Int)) 48 := iz_ib (by omega)
              rw [if_pos i12', if_pos i12', if_pos i48', cv_w5 hG, cv_w1 hG, tnn _ i rfl (by omega), bd_eq]
              show (if x4 = 0 then F_X8_goes_247 Z0.1 N w (iz i) (iz X) (iz Y) (si c (w + 5) i (gi c (w + 5) i + 1)) else (F_X8_passDoor Z0.1 N w (if gi c (w + 1) i < iz X then gi c (w + 1) i else iz X) (iz wy) c).bind fun u9 => F_X8_goes_247 Z0.1 N w (iz i) (iz X) (iz Y) u9) = _
              rw [a1]
              exact hR'
            have F5 : ∀ d : DY, chC w i c d → gi d (w + 7) i = gi c (w + 7) i → F_X8_goes Z0.1 N w (iz i) c = F_X8_goes_247 Z0.1 N w (iz i) (iz X) (iz Y) d → ∃ (mv : Nat) (X' Y' : Int) (c' : DY), mv ≤ 1 ∧ F_X8_goes Z0.1 N w (iz i) c = some (iz mv, c') ∧ gi c' (w + 1) i = iz X' ∧ gi c' (w + 2) i = iz Y' ∧ (X' = -1 ∧ Y' = -1 ∨ inS L W X' Y') ∧ (((px i = -1 ∨ gi c (w + 8) i = 5) ∧ mv = 0 ∧ X' = px i ∧ Y' = py i) ∨ (¬ (px i = -1 ∨ gi c (w + 8) i = 5) ∧ ¬ inS L W X Y ∧ am = 0 ∧ mv = 1 ∧ X' = -1 ∧ Y' = -1) ∨ (¬ (px i = -1 ∨ gi c (w + 8) i = 5) ∧ ¬ inS L W X Y ∧ am ≠ 0 ∧ mv = 0 ∧ X' = px i ∧ Y' = py i) ∨ (¬ (px i = -1 ∨ gi c (w + 8) i = 5) ∧ inS L W X Y ∧ (gi c (g + 1) (6 * X + Y).toNat = 1 ∨ ∃ o : Nat, o < n ∧ px o = X ∧ py o = Y) ∧ mv = 0 ∧ X' = px i ∧ Y' = py i) ∨ (¬ (px i = -1 ∨ gi c (w + 8) i = 5) ∧ inS L W X Y ∧ ¬ (gi c (g + 1) (6 * X + Y).toNat = 1 ∨ ∃ o : Nat, o < n ∧ px o = X ∧ py o = Y) ∧ mv = 1 ∧ X' = X ∧ Y' = Y)) ∧ chC w i c c' ∧ gi c' (w + 7) i = gi c (w + 7) i := fun d hd hd7 hF => by
              refine ⟨1, X, Y, si (si d (w + 1) i (iz X)) (w + 2) i (iz Y), by omega, hF.trans (c_247 N i d _ _ hG i12), ?_, ?_, Or.inr cinS, Or.inr (Or.inr (Or.inr (Or.inr ⟨nst, cinS, ok, rfl, rfl, rfl⟩))), ⟨fun x k h1 h2 h3 => ?_, fun x k => hd.2 x k⟩, ?_⟩
              · rw [gi_si_if, if_neg (by omega), gi_si_if, if_pos ⟨rfl, rfl⟩]
              · rw [gi_si_if, if_pos ⟨rfl, rfl⟩]
              · rw [gi_si_if, if_neg (by omega), gi_si_if, if_neg (by omega)]
                exact hd.1 x k h1 h2 h3
              · rw [gi_si_if, if_neg (by omega), gi_si_if, if_neg (by omega)]
                exact hd7
            by_cases am0 : am = 0
            · rw [if_pos am0] at C130
              obtain ⟨dx0, dy0⟩ := dX0 am0
              have hXe : X = px i + wy := by rw [← hX, dx0]
              obtain ⟨xd, xd15, cm⟩ : ∃ xd : Nat, xd < 15 ∧ (if iz (px i) < iz X then iz (px i) else iz X) = iz xd := by
                rcases wyv with z | z
                · refine ⟨(px i).toNat, by omega, ?_⟩
                  rw [if_pos (iz_lti (by omega))]
                  exact congrArg iz (by omega)
                · refine ⟨X.toNat, by omega, ?_⟩
                  rw [if_neg (iz_nlt (by omega))]
                  exact congrArg iz (by omega)
              obtain ⟨cd, g1, g2, g3, g4⟩ := c_door N xd c (iz wy) hG xd15
              refine F5 cd ⟨fun x k h1 h2 h3 => g3 x k (by omega), g4⟩ (g3 _ _ (by omega)) (C130.trans (c170 _ _ (cF _ _ ?_)))
              rw [if_neg n1, cm]
              exact bnd g1 rfl
            · rw [if_neg am0] at C130
              refine F5 (si c (w + 5) i (gi c (w + 5) i + 1)) ⟨fun x k h1 h2 h3 => by rw [gi_si_if, if_neg (by omega)], fun _ _ => rfl⟩ (by rw [gi_si_if, if_neg (by omega)]) (C130.trans (c170 _ _ (cF _ _ ?_)))
              rw [if_pos rfl]
          · refine ⟨0, px i, py i, _, by omega, C130.trans (c170 _ _ ?_), b1, b2, a5, Or.inr (Or.inr (Or.inr (Or.inl ⟨nst, cinS, Or.inr ⟨o, ho, vx, vy⟩, rfl, rfl, rfl⟩))), bchC, b7⟩
            rw [F_X8_goes_170_s, if_pos rfl, cv_r0 hG]
            refine bnd cW ?_
            show (if (0 : Int32) = 0 then _ else _) = _
            rw [if_pos rfl]
            refine bnd cV ?_
            show (if iz v = -1 then _ else _) = _
            rw [if_neg (show ¬ iz v = -1 from iz_nei (b := -1) (by omega))]
            exact c201
      · rw [if_neg cin] at cI
        have cinS : ¬ inS L W X Y := cin
        by_cases am0 : am = 0
        · rw [if_pos am0] at C130
          refine ⟨1, -1, -1, arrD c w i, by omega, C130.trans ?_, ?_, ?_, Or.inl ⟨rfl, rfl⟩, Or.inr (Or.inl ⟨nst, cinS, am0, rfl, rfl, rfl⟩), ⟨fun x k h1 h2 h3 => ?_, fun _ _ => rfl⟩, ?_⟩
          · rw [F_X8_goes_130_s, cv_r0 hG]
            refine bnd cI ?_
            show (if (0 : Int32) = 0 then _ else _) = _
            rw [if_pos rfl, F_X8_goes_151_s, if_neg n1, if_neg n1]
            exact bnd (c_out N i c hG i12) rfl
          · unfold arrD
            rw [gi_si_if, if_neg (by omega), gi_si_if, if_neg (by omega), gi_si_if, if_neg (by omega), gi_si_if, if_pos ⟨rfl, rfl⟩]
            rfl
          · unfold arrD
            rw [gi_si_if, if_neg (by omega), gi_si_if, if_neg (by omega), gi_si_if, if_pos ⟨rfl, rfl⟩]
            rfl
          · unfold arrD
            rw [gi_si_if, if_neg (by omega), gi_si_if, if_neg (by omega), gi_si_if, if_neg (by omega), gi_si_if, if_neg (by omega)]
          · unfold arrD
            rw [gi_si_if, if_neg (by omega), gi_si_if, if_neg (by omega), gi_si_if, if_neg (by omega), gi_si_if, if_neg (by omega)]
        · rw [if_neg am0] at C130
          refine ⟨0, px i, py i, _, by omega, C130.trans ?_, b1, b2, a5, Or.inr (Or.inr (Or.inl ⟨nst, cinS, am0, rfl, rfl, rfl⟩)), bchC, b7⟩
          rw [F_X8_goes_130_s, cv_r0 hG]
          refine bnd cI ?_
          show (if (0 : Int32) = 0 then _ else _) = _
          rw [if_pos rfl, F_X8_goes_151_s, if_pos rfl, F_X8_goes_170_s, if_neg n1]
          exact c201
