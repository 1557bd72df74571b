/-! a tenth, one walker's aim -/
theorem c_need {g l w : Nat} (N i : Nat) (d : DY) (x hd : Int32) (hG : CVg g l w) (hi : i < 12) (h1 : gi d (w + 8) i = x) (h2 : gi d (g + 8) i = hd) : F_X8_needsLot Z0.1 N w (iz i) d = some (if x = 4 ∨ (x = 3 ∧ hd = 0) then 1 else 0, d) := by
  have ii : ib (iz (i : Int)) 12 := iz_ib (by omega)
  rw [F_X8_needsLot_s, if_pos ii, if_pos ii, if_pos ii, cv_w8 hG, cv_r0 hG, cv_g8 hG, tnn _ i rfl (by omega), h1, h2]
  by_cases a : x = 4
  · rw [if_pos a, if_pos (Or.inl a)]
  · rw [if_neg a]
    by_cases b : x = 3
    · rw [if_pos b]
      by_cases c : hd = 0
      · rw [if_pos c, if_pos (Or.inr ⟨b, c⟩)]
      · rw [if_neg c, if_neg (fun z => by
          rcases z with z | z
          · exact a z
          · exact c z.2)]
    · rw [if_neg b, if_neg (fun z => by
        rcases z with z | z
        · exact a z
        · exact b z.1)]
theorem m_aim (N r wi : Nat) (m e2 : DY) (x : Int32) (p : Nat) (r14 : r < 14) (hw : wi < 12) (ht : F_X10_isThere Z0.1 N 510 (iz r) (iz wi) m = some (1, m)) (ha : F_X10_actBy Z0.1 N 510 (iz r) (iz wi) m = some (x, e2)) (hh : gi e2 531 (720 * r + 16 + 20 * wi + 12) = iz p) (hp : p ≤ 2) : F_X10_aimBy Z0.1 N 510 (iz r) (iz wi) m = if x = 4 ∨ (x = 3 ∧ p = 0) then ((F_X10_lotIsRight Z0.1 N 510 (iz r) e2).bind fun u1 => (if u1.1 = 0 then some ((2 : Int32), u1.2) else some ((1 : Int32), u1.2))) else if x = 3 then some (iz p, e2) else some (x, e2) := by
  have n1 : ¬ (1 : Int32) = 0 := by decide
  have b12 : iz ((720 * r + 16 + 20 * wi : Nat) : Int) + (12 : Int32) = iz ((720 * r + 16 + 20 * wi + 12 : Nat) : Int) := iz_add _ 12
  have j12 := ibr (720 * r + 16 + 20 * wi + 12) (by omega)
  rw [F_X10_aimBy_s]
  refine bnd ht ?_
  show (if (1 : Int32) = 0 then _ else _) = _
  rw [if_neg n1]
  refine bnd ha ?_
  refine bnd (m_at _ _ r wi e2) ?_
  show (if ib (iz ((720 * r + 16 + 20 * wi : Nat) : Int) + (12 : Int32)) 10080 then _ else _) = _
  rw [b12, if_pos j12, r_510_39, tnn _ (720 * r + 16 + 20 * wi + 12) rfl (by omega)]
  show (if x = 3 then (if gi e2 531 (720 * r + 16 + 20 * wi + 12) ≤ 0 then F_X10_aimBy_55 Z0.1 N 510 (iz r) x e2 else (if gi e2 531 (720 * r + 16 + 20 * wi + 12) = 1 then some ((1 : Int32), e2) else some ((2 : Int32), e2))) else F_X10_aimBy_55 Z0.1 N 510 (iz r) x e2) = _
  rw [hh, F_X10_aimBy_55_s, F_X10_aimBy_65_s]
  by_cases a3 : x = 3
  · have n4 : ¬ x = 4 := fun z => by rw [a3] at z; exact absurd z (by decide)
    rw [if_pos a3, if_pos a3, if_pos a3]
    have P : p = 0 ∨ p = 1 ∨ p = 2 := by omega
    rcases P with rfl | rfl | rfl
    · rw [if_pos (by decide), if_pos (Or.inr ⟨a3, rfl⟩)]
    · rw [if_neg (by decide), if_pos (by decide), if_neg (fun z => by
        rcases z with z | z
        · exact n4 z
        · exact absurd z.2 (by decide))]
      rfl
    · rw [if_neg (by decide), if_neg (by decide), if_neg (fun z => by
        rcases z with z | z
        · exact n4 z
        · exact absurd z.2 (by decide))]
      rfl
  · rw [if_neg a3, if_neg a3, if_neg a3]
    by_cases a4 : x = 4
    · rw [if_pos a4, if_pos (Or.inl a4)]
    · rw [if_neg a4, if_neg (fun z => by
        rcases z with z | z
        · exact a4 z
        · exact a3 z.1)]
theorem aim_one (N k r g l w : Nat) (ι : Nat → Nat) (L W n M i : Nat) (c m : DY) (hN : 40 ≤ N) (hG : CVg g l w) (r14 : r < 14) (hR : RRx (mixD c m) g l w r ι L W n M) (hi : i < n) (h45 : gi m 510 45 = 0) : ∃ (c' m' : DY) (am : Int32), F_X8_pass_2 Z0.1 N (k + 1) w (iz i) c = F_X8_pass_2 Z0.1 N k w (iz ((i + 1 : Nat) : Int)) c' ∧ F_X10_aimBy Z0.1 N 510 (iz r) (iz (ι i : Nat)) m = some (am, m') ∧ aimR (gi c' (w + 8) i) am (gi c (g + 8) i) ∧ (cx (mixD c m) w 0 i = -1 → gi c' (w + 8) i = 5) ∧ RRx (mixD c' m') g l w r ι L W n M ∧ frC w i c c' ∧ frM r m m' := by
  have hv := RRx_CV hG hR
  have hM := RRx_MV hG r14 hR
  obtain ⟨dj, dj2⟩ := cv_dj hG
  obtain ⟨_, ⟨L16, W6, n12⟩, ⟨_, _, e3⟩, _, hpos, hwk⟩ := id hv
  have g3 : gi c g 3 = iz n := by rw [← mix_c c m g 3 (by omega)]; exact e3
  have hιi := hM.2.2.2.1.1 i hi
  have hM12 := hM.1.2.2.2.2
  have ii : ib (iz (i : Int)) 12 := iz_ib (by omega)
  have a1 : iz (i : Int) + (1 : Int32) = iz ((i + 1 : Nat) : Int) := iz_add i 1
  obtain ⟨_, _, _, _, ⟨p, p2, hp⟩, _⟩ := hwk i hi
  have hpc : gi c (g + 8) i = iz p := by rw [← mix_c c m (g + 8) i (by omega)]; exact hp
  obtain ⟨f1, f18, f11, f12, _⟩ := RRx_one hR i hi
  have hpm : gi m 531 (720 * r + 16 + 20 * ι i + 12) = iz p := by rw [← mix_m c m 531 _ (by omega), f12]; exact hp
  obtain ⟨_, _, _, _, _, hL, ⟨q2, q3, q4, _⟩, _⟩ := id hR
  obtain ⟨R, R16, r1, _, _⟩ := id hL
  have hth := m_thereR N (mixD c m) m g w r ι L W n M i hM hi (fun k => (mix_m c m 531 k (by omega)).symm)
  rw [hpc]
  by_cases th : cx (mixD c m) w 0 i = -1
  · rw [if_pos th] at hth
    have x0 := (hpos 0 i (by omega) hi).1
    rw [Nat.mul_zero, Nat.zero_add, mix_c c m (w + 1) i (by omega)] at x0
    have dd : F_X8_deed Z0.1 N w (iz i) c = some (5, c) := by
      rw [F_X8_deed_s, if_pos ii, if_pos (show ib (iz (i : Int)) 48 from iz_ib (by omega)), cv_w1 hG, tnn _ i rfl (by omega), x0, th, if_pos (show iz (-1) = -1 from rfl)]
    have e8 : gi (si c (w + 8) i 5) (w + 8) i = 5 := by rw [gi_si_if, if_pos ⟨rfl, rfl⟩]
    have e9 : gi (si c (w + 8) i 5) (g + 8) i = iz p := by rw [gi_si_if, if_neg (by omega)]; exact hpc
    have nl := c_need N i _ 5 (iz p) hG (by omega) e8 e9
    rw [if_neg (show ¬ ((5 : Int32) = 4 ∨ ((5 : Int32) = 3 ∧ iz (p : Int) = 0)) from fun z => by
      rcases z with z | z
      · exact absurd z (by decide)
      · exact absurd z.1 (by decide))] at nl
    refine ⟨si c (w + 8) i 5, m, 5, ?_, ?_, Or.inr ⟨e8.symm, Or.inr (Or.inr (Or.inr e8))⟩, fun _ => e8, ?_, ⟨fun x k h1 h2 h3 => by rw [gi_si_if, if_neg h2], fun _ _ => rfl⟩, ⟨fun _ _ _ _ _ _ => rfl, fun _ _ => rfl⟩⟩
    · rw [F_X8_pass_2_s, cv_r0 hG, g3, if_neg (show ¬ iz (n : Int) ≤ iz (i : Int) from iz_nle (by omega))]
      refine bnd dd ?_
      rw [if_pos ii, bd_eq, cv_w8 hG, tnn _ i rfl (by omega)]
      refine bnd nl ?_
      rw [a1]
      rfl
    · rw [F_X10_aimBy_s]
      refine bnd hth ?_
      rfl
    · refine RRx_seed hG hR (fun x k h1 h2 h3 h4 => ?_) (fun i' _ _ _ => ?_) ?_ ?_
      · rw [mix_c _ _ _ _ h1, mix_c _ _ _ _ h1, gi_si_if, if_neg (fun z => h3 z.1)]
      · rw [mix_m _ _ _ _ (by omega), mix_m _ _ _ _ (by omega)]
      · rw [mix_c _ _ _ _ (by omega), mix_m _ _ _ _ (by omega), gi_si_if, if_neg (by omega), ← mix_c c m w 3 (by omega), ← mix_m c m 531 _ (by omega)]; exact q3
      · rw [mix_c _ _ _ _ (by omega), mix_m _ _ _ _ (by omega), gi_si_if, if_neg (by omega), ← mix_c c m w 4 (by omega), ← mix_m c m 531 _ (by omega)]; exact q4
  · rw [if_neg th] at hth
    have hpi := cx_b hv i hi th
    obtain ⟨x, e, k1, k2, k3⟩ := c_deed N (mixD c m) c g l w L W n R i _ _ _ hN hv hL r1 R16 hi hpi (lkC_mix w c m)
    obtain ⟨e2, u1, u2⟩ := m_act N (mixD c m) m g l w r ι L W n M R i x hN hM hL r1 R16 hi hpi f1 q2.symm f18 f11 (lkM_mix c m) k3
    obtain ⟨dx, dx5, hx⟩ := DEED_b hL r1 R16 k3
    have hpm2 : gi e2 531 (720 * r + 16 + 20 * ι i + 12) = iz p := by rw [u1.2.1 531 _ (by omega) (by omega) (by omega)]; exact hpm
    have am := m_aim N r (ι i) m e2 x p r14 (by omega) hth u2 hpm2 p2
    have e8 : gi (si e (w + 8) i x) (w + 8) i = x := by rw [gi_si_if, if_pos ⟨rfl, rfl⟩]
    have e9 : gi (si e (w + 8) i x) (g + 8) i = iz p := by
      rw [gi_si_if, if_neg (by omega), k1.2.1 _ _ (by omega) (by omega)]; exact hpc
    have nl := c_need N i _ x (iz p) hG (by omega) e8 e9
    have pz : iz (p : Int) = 0 ↔ p = 0 := by
      rw [l_0, iz_inj (by omega) (by omega) (by omega) (by omega)]; omega
    have st : ∀ S, (if x = 4 ∨ (x = 3 ∧ iz (p : Int) = 0) then ((F_X8_draw Z0.1 N w (si e (w + 8) i x)).bind fun u11 => (if u11.1 = 0 then F_X8_pass_49 Z0.1 N (F_X8_pass_2 Z0.1 N k) w (iz i) (w + 8) (iz i) 2 u11.2 else F_X8_pass_49 Z0.1 N (F_X8_pass_2 Z0.1 N k) w (iz i) (w + 8) (iz i) 1 u11.2)) else F_X8_pass_2 Z0.1 N k w (iz ((i + 1 : Nat) : Int)) (si e (w + 8) i x)) = S → F_X8_pass_2 Z0.1 N (k + 1) w (iz i) c = S := fun S hS => by
      rw [F_X8_pass_2_s, cv_r0 hG, g3, if_neg (show ¬ iz (n : Int) ≤ iz (i : Int) from iz_nle (by omega))]
      refine bnd k2 ?_
      rw [if_pos ii, bd_eq, cv_w8 hG, tnn _ i rfl (by omega), a1]
      refine bnd nl ?_
      show (if (if x = 4 ∨ (x = 3 ∧ iz (p : Int) = 0) then (1 : Int32) else 0) = 0 then _ else _) = _
      by_cases z : x = 4 ∨ (x = 3 ∧ iz (p : Int) = 0)
      · rw [if_pos z] at hS
        rw [if_pos z, if_neg (by decide : ¬ (1 : Int32) = 0)]
        exact hS
      · rw [if_neg z] at hS
        rw [if_neg z, if_pos rfl]
        exact hS
    by_cases lot : x = 4 ∨ (x = 3 ∧ p = 0)
    · have lot' : x = 4 ∨ (x = 3 ∧ iz (p : Int) = 0) := by
        rcases lot with z | z
        · exact Or.inl z
        · exact Or.inr ⟨z.1, pz.mpr z.2⟩
      rw [if_pos lot'] at st
      rw [if_pos lot] at am
      obtain ⟨m', l1, l2, l3, l4⟩ := m_lot N r e2 r14 (by rw [u1.2.1 510 45 (by omega) (by omega) (by omega)]; exact h45)
      have cd := c_draw N w (si e (w + 8) i x)
      have s3 : gi (si e (w + 8) i x) w 3 = gi c w 3 := by rw [gi_si_if, if_neg (by omega)]; exact k1.2.1 _ _ (by omega) (by omega)
      have s4 : gi (si e (w + 8) i x) w 4 = gi c w 4 := by rw [gi_si_if, if_neg (by omega)]; exact k1.2.1 _ _ (by omega) (by omega)
      have t4 : gi e2 531 (720 * r + 4) = gi m 531 (720 * r + 4) := u1.2.1 531 _ (by omega) (by omega) (by omega)
      have t5 : gi e2 531 (720 * r + 5) = gi m 531 (720 * r + 5) := u1.2.1 531 _ (by omega) (by omega) (by omega)
      have q3' : gi c w 3 = gi m 531 (720 * r + 4) := by
        rw [← mix_c c m w 3 (by omega), ← mix_m c m 531 _ (by omega)]; exact q3
      have q4' : gi c w 4 = gi m 531 (720 * r + 5) := by
        rw [← mix_c c m w 4 (by omega), ← mix_m c m 531 _ (by omega)]; exact q4
      rw [s3, s4, q3'] at cd
      rw [t4] at l1 l3
      rw [t5] at l4
      have go : ∀ v : Int32, (v = 1 ∨ v = 2) → F_X8_pass_2 Z0.1 N (k + 1) w (iz i) c = F_X8_pass_2 Z0.1 N k w (iz ((i + 1 : Nat) : Int)) (si (si (si (si e (w + 8) i x) w 3 (gi m 531 (720 * r + 4) * 1103515245 + 12345)) w 4 (gi c w 4 + 1)) (w + 8) i v) → F_X10_aimBy Z0.1 N 510 (iz r) (iz (ι i : Nat)) m = some (v, m') → ∃ (c' m' : DY) (am : Int32), F_X8_pass_2 Z0.1 N (k + 1) w (iz i) c = F_X8_pass_2 Z0.1 N k w (iz ((i + 1 : Nat) : Int)) c' ∧ F_X10_aimBy Z0.1 N 510 (iz r) (iz (ι i : Nat)) m = some (am, m') ∧ aimR (gi c' (w + 8) i) am (iz p) ∧ (cx (mixD c m) w 0 i = -1 → gi c' (w + 8) i = 5) ∧ RRx (mixD c' m') g l w r ι L W n M ∧ frC w i c c' ∧ frM r m m' := fun v hv12 h1 h2 => by
        have ev : gi (si (si (si (si e (w + 8) i x) w 3 (gi m 531 (720 * r + 4) * 1103515245 + 12345)) w 4 (gi c w 4 + 1)) (w + 8) i v) (w + 8) i = v := by rw [gi_si_if, if_pos ⟨rfl, rfl⟩]
        refine ⟨_, m', v, h1, h2, Or.inr ⟨ev.symm, ?_⟩, fun z => absurd z th, ?_, ⟨fun y j y1 y2 y3 => ?_, fun y j => ?_⟩, ⟨fun y j y1 y2 y3 y4 => ?_, fun y j => (l2.2 y j).trans (u1.2.2 y j)⟩⟩
        · rw [ev]
          rcases hv12 with z | z
          · exact Or.inr (Or.inl z)
          · exact Or.inr (Or.inr (Or.inl z))
        · refine RRx_seed hG hR (fun y j y1 y2 y3 y4 => ?_) (fun j j1 j2 j3 => ?_) ?_ ?_
          · rw [mix_c _ _ _ _ y1, mix_c _ _ _ _ y1, gi_si_if, if_neg (by omega), gi_si_if, if_neg (by omega), gi_si_if, if_neg (by omega), gi_si_if, if_neg (by omega)]
            exact k1.2.1 _ _ (by omega) (by omega)
          · rw [mix_m _ _ _ _ (by omega), mix_m _ _ _ _ (by omega), l2.1 _ _ (by omega) (by omega) (by omega) (by omega)]
            exact u1.2.1 _ _ (by omega) (by omega) (by omega)
          · rw [mix_c _ _ _ _ (by omega), mix_m _ _ _ _ (by omega), gi_si_if, if_neg (by omega), gi_si_if, if_neg (by omega), gi_si_if, if_pos ⟨rfl, rfl⟩, l3]
          · rw [mix_c _ _ _ _ (by omega), mix_m _ _ _ _ (by omega), gi_si_if, if_neg (by omega), gi_si_if, if_pos ⟨rfl, rfl⟩, l4, q4']
        · rw [gi_si_if, if_neg y2, gi_si_if, if_neg (by omega), gi_si_if, if_neg (by omega), gi_si_if, if_neg y2]
          exact k1.2.1 _ _ (by omega) (by omega)
        · exact k1.2.2 y j
        · rw [l2.1 _ _ y1 y2 y3 y4]
          exact u1.2.1 _ _ (by omega) (by omega) (by omega)
      have h49 : ∀ (v : Int32) (d : DY), F_X8_pass_49 Z0.1 N (F_X8_pass_2 Z0.1 N k) w (iz i) (w + 8) (iz i) v d = F_X8_pass_2 Z0.1 N k w (iz ((i + 1 : Nat) : Int)) (si d (w + 8) i v) := fun v d => by
        rw [F_X8_pass_49_s, if_pos ii, bd_eq, tnn _ i rfl (by omega), a1]
      by_cases z : ((gi m 531 (720 * r + 4) * 1103515245 + 12345) >>> ((16 : Int32) &&& 31)) &&& 1 = 0
      · rw [if_pos z] at cd l1
        refine go 1 (Or.inl rfl) (st _ ?_) (am.trans ?_)
        · refine bnd cd ?_
          show (if (1 : Int32) = 0 then _ else _) = _
          rw [if_neg (by decide : ¬ (1 : Int32) = 0)]
          exact h49 1 _
        · refine bnd l1 ?_
          show (if (1 : Int32) = 0 then _ else _) = _
          rw [if_neg (by decide : ¬ (1 : Int32) = 0)]
      · rw [if_neg z] at cd l1
        refine go 2 (Or.inr rfl) (st _ ?_) (am.trans ?_)
        · refine bnd cd ?_
          show (if (0 : Int32) = 0 then _ else _) = _
          rw [if_pos rfl]
          exact h49 2 _
        · refine bnd l1 ?_
          show (if (0 : Int32) = 0 then _ else _) = _
          rw [if_pos rfl]
    · have lot' : ¬ (x = 4 ∨ (x = 3 ∧ iz (p : Int) = 0)) := fun z => lot (by
        rcases z with z | z
        · exact Or.inl z
        · exact Or.inr ⟨z.1, pz.mp z.2⟩)
      rw [if_neg lot'] at st
      rw [if_neg lot] at am
      have fC : frC w i c (si e (w + 8) i x) := ⟨fun y j y1 y2 y3 => by
        rw [gi_si_if, if_neg y2]
        exact k1.2.1 _ _ (by omega) (by omega), fun y j => k1.2.2 y j⟩
      have fM : frM r m e2 := ⟨fun y j y1 y2 y3 y4 => u1.2.1 _ _ (by omega) (by omega) (by omega), fun y j => u1.2.2 y j⟩
      have hR' : RRx (mixD (si e (w + 8) i x) e2) g l w r ι L W n M := by
        refine RRx_seed hG hR (fun y j y1 y2 y3 y4 => ?_) (fun j j1 j2 j3 => ?_) ?_ ?_
        · rw [mix_c _ _ _ _ y1, mix_c _ _ _ _ y1, gi_si_if, if_neg (by omega)]
          exact k1.2.1 _ _ (by omega) (by omega)
        · rw [mix_m _ _ _ _ (by omega), mix_m _ _ _ _ (by omega)]
          exact u1.2.1 _ _ (by omega) (by omega) (by omega)
        · rw [mix_c _ _ _ _ (by omega), mix_m _ _ _ _ (by omega), gi_si_if, if_neg (by omega), k1.2.1 _ _ (by omega) (by omega), u1.2.1 _ _ (by omega) (by omega) (by omega), ← mix_c c m w 3 (by omega), ← mix_m c m 531 _ (by omega)]; exact q3
        · rw [mix_c _ _ _ _ (by omega), mix_m _ _ _ _ (by omega), gi_si_if, if_neg (by omega), k1.2.1 _ _ (by omega) (by omega), u1.2.1 _ _ (by omega) (by omega) (by omega), ← mix_c c m w 4 (by omega), ← mix_m c m 531 _ (by omega)]; exact q4
      by_cases x3 : x = 3
      · rw [if_pos x3] at am
        refine ⟨si e (w + 8) i x, e2, iz p, st _ rfl, am, Or.inl ⟨by rw [e8]; exact x3, ?_⟩, fun z => absurd z th, hR', fC, fM⟩
        have P : p = 1 ∨ p = 2 := by
          have : ¬ p = 0 := fun z => lot (Or.inr ⟨x3, z⟩)
          omega
        rcases P with z | z
        · exact Or.inl ⟨by rw [z]; rfl, by rw [z]; rfl⟩
        · exact Or.inr ⟨by rw [z]; rfl, by rw [z]; rfl⟩
      · rw [if_neg x3] at am
        refine ⟨si e (w + 8) i x, e2, x, st _ rfl, am, Or.inr ⟨e8.symm, ?_⟩, fun z => absurd z th, hR', fC, fM⟩
        rw [e8]
        have X : dx = 0 ∨ dx = 1 ∨ dx = 2 ∨ dx = 3 ∨ dx = 4 ∨ dx = 5 := by omega
        rcases X with z | z | z | z | z | z
        · exact Or.inl (by rw [hx, z]; rfl)
        · exact Or.inr (Or.inl (by rw [hx, z]; rfl))
        · exact Or.inr (Or.inr (Or.inl (by rw [hx, z]; rfl)))
        · exact absurd (by rw [hx, z]; rfl) x3
        · exact absurd (Or.inl (by rw [hx, z]; rfl)) lot
        · exact Or.inr (Or.inr (Or.inr (by rw [hx, z]; rfl)))
