/-! two: helpers -/
theorem SR_aim {c e m : DY} {w r L W : Nat} (h : SR c m w r L W) (hc : ∀ x k : Nat, x < 510 → ¬ (x = w ∧ k = 8) → x ≠ w + 8 → x ≠ w + 10 → gi e x k = gi c x k) : SR e m w r L W := by
  obtain ⟨hG, hw, r14, hR, h45, hA⟩ := h
  obtain ⟨_, _, _, _, d5⟩ := cv_dj hG
  have e4 : gi e w 4 = gi c w 4 := hc _ _ (by omega) (by omega) (by omega) (by omega)
  refine ⟨hG, hw, r14, ?_, h45, ?_⟩
  · rw [e4]
    have k7 := hR.2.2.2.2.2.2.1
    refine RRx_seed hG hR (fun x k x1 x2 x3 x4 => by rw [mix_c _ _ _ _ x1, mix_c _ _ _ _ x1]; exact hc x k x1 (by omega) x3 x4) (fun i _ _ _ => by rw [mix_m _ _ _ _ (by omega), mix_m _ _ _ _ (by omega)]) ?_ ?_
    · have := k7.2.1
      rw [mix_c _ _ _ _ (by omega), mix_m _ _ _ _ (by omega)] at this
      rw [mix_c _ _ _ _ (by omega), mix_m _ _ _ _ (by omega), hc _ _ (by omega) (by omega) (by omega) (by omega)]
      exact this
    · have := k7.2.2.1
      rw [mix_c _ _ _ _ (by omega), mix_m _ _ _ _ (by omega)] at this
      rw [mix_c _ _ _ _ (by omega), mix_m _ _ _ _ (by omega), e4]
      exact this
  · rw [hc _ _ (by omega) (by omega) (by omega) (by omega), hA]
    exact congrArg (fun z : Nat => iz (z : Int)) (AWn_same 2 (fun o _ => by rw [hc _ _ (by omega) (by omega) (by omega) (by omega)])).symm
theorem SR_c {c m : DY} {w r L W : Nat} (h : SR c m w r L W) : CV c 95 105 w L W 2 := by
  obtain ⟨hG, hw, r14, hR, h45, hA⟩ := h
  obtain ⟨_, _, _, _, d5⟩ := cv_dj hG
  have hv := RRx_CV hG hR
  obtain ⟨h1, h2, ⟨h3, h4, h5⟩, h6, h7, h8⟩ := hv
  refine ⟨h1, h2, ⟨?_, ?_, ?_⟩, fun i hi => ?_, fun t i ht hi => ?_, fun i hi => ?_⟩
  · rw [mix_c _ _ _ _ (by omega)] at h3; exact h3
  · rw [mix_c _ _ _ _ (by omega)] at h4; exact h4
  · rw [mix_c _ _ _ _ (by omega)] at h5; exact h5
  · have := h6 i hi
    rw [mix_c _ _ _ _ (by omega)] at this; exact this
  · have := h7 t i ht hi
    unfold cx cy at this ⊢
    rw [mix_c _ _ _ _ (by omega), mix_c _ _ _ _ (by omega)] at this
    exact this
  · have := h8 i hi
    rw [mix_c _ _ _ _ (by omega), mix_c _ _ _ _ (by omega), mix_c _ _ _ _ (by omega), mix_c _ _ _ _ (by omega), mix_c _ _ _ _ (by omega), mix_c _ _ _ _ (by omega)] at this
    exact this
theorem SR_law {c m : DY} {w r L W : Nat} (h : SR c m w r L W) : ∃ R : Nat, R ≤ 16 ∧ gi c 105 0 = iz R ∧ ∀ q k : Nat, q < R → k < (gi c (95 + 10 + 2) q).toNatClampNeg → ∃ wh : Nat, wh ≤ 10 ∧ gi c (95 + 10 + 3) (4 * q + k) = iz wh := by
  obtain ⟨hG, hw, r14, hR, h45, hA⟩ := h
  have hL : LR (mixD c (si m 531 (720 * r + 5) (gi c w 4))) 105 _ 531 (720 * r + 352) := hR.2.2.2.2.2.1
  obtain ⟨R, R16, h1, _⟩ := id hL
  refine ⟨R, R16, by rw [← mix_c c (si m 531 (720 * r + 5) (gi c w 4)) 105 0 (by omega)]; exact h1, fun q k hq hk => ?_⟩
  have e : ∀ x k : Nat, x < 510 → gi c x k = gi (mixD c (si m 531 (720 * r + 5) (gi c w 4))) x k := fun x k q => (mix_c _ _ _ _ q).symm
  rw [e _ _ (by omega)] at hk ⊢
  exact LR_wh hL h1 R16 q k hq hk
theorem DD_aim {d e : DY} {w L W R i : Nat} {x : Int32} (hw : 111 < w) (hw2 : w + 11 < 510) (hi : i < 2) (h : ∀ x k : Nat, x < 510 → ¬ (x = w ∧ k ≠ 2) → x ≠ w + 8 → x ≠ w + 10 → gi e x k = gi d x k) (hWh : ∀ q k : Nat, q < R → k < (gi d (95 + 10 + 2) q).toNatClampNeg → ∃ wh : Nat, wh ≤ 10 ∧ gi d (95 + 10 + 3) (4 * q + k) = iz wh) (hD : DD d w L W R i x) : DD e w L W R i x := by
  have S : SEES d e 95 w w 2 i := by
    refine ⟨fun x k q1 q2 => h x k (by omega) (by omega) (by omega) (by omega), h w 2 (by omega) (by omega) (by omega) (by omega), fun o _ => ?_, fun o _ => ?_⟩
    · unfold cx cy
      rw [h (w + 1) _ (by omega) (by omega) (by omega) (by omega), h (w + 2) _ (by omega) (by omega) (by omega) (by omega)]
      exact ⟨rfl, rfl⟩
    · unfold cx cy
      rw [h (w + 1) _ (by omega) (by omega) (by omega) (by omega), h (w + 2) _ (by omega) (by omega) (by omega) (by omega)]
      exact ⟨rfl, rfl⟩
  unfold DD
  rw [(S.2.2.1 i hi).1]
  rcases hD with z | ⟨z, z2⟩
  · exact Or.inl z
  · exact Or.inr ⟨z, DEED_tr (g := 95) S hi (Or.inl (h (w + 7) i (by omega) (by omega) (by omega) (by omega))) hWh z2⟩
/-- the class finds a deed -/
theorem SR_deed {c m : DY} {w r L W R i : Nat} (N : Nat) (hN : 40 ≤ N) (h : SR c m w r L W) (hRn : gi c 105 0 = iz R) (R16 : R ≤ 16) (hi : i < 2) : ∃ (x : Int32) (e : DY), F_X8_deed Z0.1 N w (iz i) c = some (x, e) ∧ (∀ y k : Nat, ¬ (y = w ∧ k = 8) → y ≠ w + 10 → gi e y k = gi c y k) ∧ (∀ y k : Nat, gl e y k = gl c y k) ∧ DD c w L W R i x ∧ ∃ z : Nat, z ≤ 5 ∧ x = iz z := by
  obtain ⟨hG, hw, r14, hR, h45, hA⟩ := id h
  obtain ⟨_, _, _, _, d5⟩ := cv_dj hG
  have hvc := SR_c h
  have ii : ib (iz (i : Int)) 12 := iz_ib (by omega)
  by_cases th : cx c w 0 i = -1
  · have x0 := (hvc.2.2.2.2.1 0 i (by omega) hi).1
    rw [Nat.mul_zero, Nat.zero_add] at x0
    refine ⟨5, c, ?_, fun _ _ _ _ => rfl, fun _ _ => rfl, Or.inl ⟨th, rfl⟩, 5, by omega, rfl⟩
    rw [F_X8_deed_s, if_pos ii, if_pos (show ib (iz (i : Int)) 48 from iz_ib (by omega)), cv_w1 hG, tnn _ i rfl (by omega), x0, th, if_pos (show iz (-1) = -1 from rfl)]
  · obtain ⟨mP, hmP⟩ : ∃ mP : DY, mP = si m 531 (720 * r + 5) (gi c w 4) := ⟨_, rfl⟩
    rw [← hmP] at hR
    have Dc : ∀ x k : Nat, x < 510 → gi (mixD c mP) x k = gi c x k := fun x k q => mix_c _ _ _ _ q
    have hv := RRx_CV hG hR
    have hL : LR (mixD c mP) 105 _ 531 (720 * r + 352) := hR.2.2.2.2.2.1
    have hRn' : gi (mixD c mP) 105 0 = iz R := (Dc _ _ (by omega)).trans hRn
    have thD : cx (mixD c mP) w 0 i ≠ -1 := by
      unfold cx
      rw [Dc _ _ (by omega)]
      exact th
    have hpi := cx_b hv i hi thD
    obtain ⟨x, e, k1, k2, k3⟩ := c_deed N (mixD c mP) c 95 105 w L W 2 R i _ _ _ hN hv hL hRn' R16 hi hpi (lkC_mix w c mP)
    obtain ⟨z, z5, hz⟩ := DEED_b hL hRn' R16 k3
    refine ⟨x, e, k2, fun y k q1 q2 => k1.2.1 y k q1 q2, fun y k => k1.2.2 y k, ?_, z, z5, hz⟩
    exact DD_of hw (by omega) hi (fun y k q _ => (Dc y k q).symm) (LR_wh hL hRn' R16) (Or.inr ⟨thD, k3⟩)
theorem SR_CGO {c m : DY} {w r L W : Nat} (h : SR c m w r L W) : CGO c 95 105 w L W 2 (cx c w 0) (cy c w 0) := by
  obtain ⟨h1, h2, h3, h6, h7, _⟩ := SR_c h
  refine ⟨h1, h2, h3, h6, fun o ho => ?_⟩
  have := h7 0 o (by omega) ho
  rw [Nat.mul_zero, Nat.zero_add] at this
  exact this
theorem SR_hand {c m : DY} {w r L W : Nat} (h : SR c m w r L W) : ∀ i : Nat, i < 2 → (∃ p : Nat, p ≤ 2 ∧ gi c (95 + 8) i = iz p) ∧ (∃ wy : Int, (wy = 1 ∨ wy = -1) ∧ gi c (95 + 4) i = iz wy) ∧ lt c 95 i ≤ 3 := fun i hi => by
  have hv := SR_c h
  obtain ⟨_, _, _, _, _, h8⟩ := id hv
  obtain ⟨a, _, _, _, b, _⟩ := h8 i hi
  refine ⟨b, ?_, (lt_eq hv i hi).2⟩
  rcases a with z | z
  · exact ⟨1, Or.inl rfl, z⟩
  · exact ⟨-1, Or.inr rfl, z⟩
/-- what a deed that is told aims at -/
def amT (x : Int32) (p b : Nat) : Nat := if aimT x p b = 3 then p else if aimT x p b = 0 then 0 else if aimT x p b = 1 then 1 else 2
theorem amT_ok (z p b : Nat) (hz : z ≤ 5) (hp : p ≤ 2) : amT (iz z) p b ≤ 2 ∧ (aimT (iz z) p b = 5 ∨ aimT (iz z) p b ≠ 5 ∧ (if aimT (iz z) p b = 3 then iz (p : Int) else aimT (iz z) p b) = iz (amT (iz z) p b : Nat)) := by
  have B : ∀ (z : Fin 6) (p : Fin 3) (b : Fin 2), amT (iz (z.1 : Nat)) p.1 b.1 ≤ 2 ∧ (aimT (iz (z.1 : Nat)) p.1 b.1 = 5 ∨ aimT (iz (z.1 : Nat)) p.1 b.1 ≠ 5 ∧ (if aimT (iz (z.1 : Nat)) p.1 b.1 = 3 then iz ((p.1 : Nat) : Int) else aimT (iz (z.1 : Nat)) p.1 b.1) = iz (amT (iz (z.1 : Nat)) p.1 b.1 : Nat)) := by decide +kernel
  by_cases y : b = 0
  · rw [y]
    exact B ⟨z, by omega⟩ ⟨p, by omega⟩ ⟨0, by omega⟩
  · have e : aimT (iz z) p b = aimT (iz z) p 1 := by
      unfold aimT
      rw [if_neg y, if_neg (show ¬ (1 : Nat) = 0 by omega)]
    have e2 : amT (iz z) p b = amT (iz z) p 1 := by
      unfold amT
      rw [e]
    rw [e, e2]
    exact B ⟨z, by omega⟩ ⟨p, by omega⟩ ⟨1, by omega⟩
theorem SR_order {c m : DY} {w r L W : Nat} (h : SR c m w r L W) : ∃ o0 o1 : Nat, (o0 = 0 ∧ o1 = 1 ∨ o0 = 1 ∧ o1 = 0) ∧ gi c (w + 9) 0 = iz o0 ∧ gi c (w + 9) 1 = iz o1 := by
  obtain ⟨hG, hw, r14, hR, h45, hA⟩ := h
  obtain ⟨_, _, _, _, d5⟩ := cv_dj hG
  obtain ⟨_, _, _, _, _, _, _, _, _, _, _, od, o1, o2, o3⟩ := hR
  obtain ⟨a1, a2⟩ := o1 0 (by omega)
  obtain ⟨b1, b2⟩ := o1 1 (by omega)
  rw [mix_c _ _ _ _ (by omega)] at a2 b2
  refine ⟨od 0, od 1, ?_, a2, b2⟩
  have ne : od 0 ≠ od 1 := fun z => by
    have := o2 0 1 (by omega) (by omega)
    unfold bef at this
    rw [z] at this
    omega
  omega
