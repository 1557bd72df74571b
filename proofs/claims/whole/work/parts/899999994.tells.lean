/-! two: a tenth with told lots -/
theorem wl_510 : ∀ w ∈ WB, w + 11 < 510 := by decide
theorem m_lotT (N r u cd : Nat) (m : DY) (r14 : r < 14) (h45 : gi m 510 45 = 1) (h46 : gi m 510 46 = iz cd) (h47 : gi m 510 47 = iz u) (hu : u < 2) (hcd : cd < 4) : ∃ m' : DY, F_X10_lotIsRight Z0.1 N 510 (iz r) m = some (if cd / 2 ^ u % 2 = 0 then 1 else 0, m') ∧ gi m' 510 47 = iz ((u + 1 : Nat) : Int) ∧ (∀ x k : Nat, ¬ (x = 510 ∧ k = 47) → ¬ (x = 531 ∧ k = 720 * r + 5) → gi m' x k = gi m x k) ∧ ∀ x k : Nat, gl m' x k = gl m x k := by
  have a5 : (720 : Int32) * iz (r : Int) + (5 : Int32) = iz ((720 * r + 5 : Nat) : Int) := m_row r 5
  have j5 := ibr (720 * r + 5) (by omega)
  have t5 : (iz ((720 * r + 5 : Nat) : Int)).toNatClampNeg = 720 * r + 5 := tnn _ _ rfl (by omega)
  obtain ⟨m1, hm1⟩ : ∃ m1 : DY, m1 = si (si m 510 47 (gi m 510 47 + 1)) 531 (720 * r + 5) (gi (si m 510 47 (gi m 510 47 + 1)) 531 (720 * r + 5) + 1) := ⟨_, rfl⟩
  have o : ∀ x k : Nat, ¬ (x = 510 ∧ k = 47) → ¬ (x = 531 ∧ k = 720 * r + 5) → gi m1 x k = gi m x k := fun x k q1 q2 => by rw [hm1, gi_si_if, if_neg q2, gi_si_if, if_neg q1]
  have e47 : gi m1 510 47 = iz ((u + 1 : Nat) : Int) := by
    rw [hm1, gi_si_if, if_neg (by omega), gi_si_if, if_pos ⟨rfl, rfl⟩, h47]
    exact iz_add u 1
  have bit : ∀ (a : Fin 4) (b : Fin 2), ((iz ((a.1 : Nat) : Int) >>> ((iz ((b.1 + 1 : Nat) : Int) - (1 : Int32)) &&& 31)) &&& (1 : Int32) = 0 ↔ a.1 / 2 ^ b.1 % 2 = 0) := by decide +kernel
  have hb := bit ⟨cd, hcd⟩ ⟨u, hu⟩
  refine ⟨m1, ?_, e47, o, fun x k => by rw [hm1]; rfl⟩
  rw [F_X10_lotIsRight_s, bd_eq, a5, if_pos j5, if_pos j5, bd_eq, r_510_39, t5, ← hm1, show gi m1 510 45 = 1 from (o _ _ (by omega) (by omega)).trans h45, if_neg (by decide), show gi m1 510 46 = iz cd from (o _ _ (by omega) (by omega)).trans h46, e47]
  by_cases z : cd / 2 ^ u % 2 = 0
  · rw [if_pos z, if_pos (hb.mpr z)]
  · rw [if_neg z, if_neg (fun q => z (hb.mp q))]
/-- what walker i of a walk does, by the rule alone -/
def DD (d : DY) (w L W R i : Nat) (x : Int32) : Prop := (cx d w 0 i = -1 ∧ x = 5) ∨ (cx d w 0 i ≠ -1 ∧ DEED d 95 105 w L W 2 R i x)
theorem LR_wh {d : DY} {R c o : Nat} {rn : Int32} (hL : LR d 105 rn c o) (hR : gi d 105 0 = iz R) (hR16 : R ≤ 16) : ∀ q k : Nat, q < R → k < (gi d (95 + 10 + 2) q).toNatClampNeg → ∃ wh : Nat, wh ≤ 10 ∧ gi d (95 + 10 + 3) (4 * q + k) = iz wh := fun q k hq hk => by
  obtain ⟨n, n16, h1, _, h2⟩ := hL
  have en : n = R := by
    have := h1.symm.trans hR
    rw [iz_inj (by omega) (by omega) (by omega) (by omega)] at this
    omega
  obtain ⟨_, t, t4, t1, _, t2⟩ := h2 q (by omega)
  have e : gi d (95 + 10 + 2) q = iz t := t1
  rw [e, tnn _ t rfl (by omega)] at hk
  obtain ⟨wh, a, b, _⟩ := t2 k hk
  exact ⟨wh, a, b⟩
theorem SEES_of {d e : DY} {w : Nat} {n i : Nat} (hw : 111 < w) (h : ∀ x k : Nat, x < 510 → ¬ (x = w ∧ k = 4) → gi e x k = gi d x k) (hw2 : w + 11 < 510) : SEES d e 95 w w n i := by
  refine ⟨fun x k q1 q2 => h x k (by omega) (by omega), h w 2 (by omega) (by omega), fun o _ => ?_, fun o _ => ?_⟩
  · unfold cx cy
    rw [h (w + 1) _ (by omega) (by omega), h (w + 2) _ (by omega) (by omega)]
    exact ⟨rfl, rfl⟩
  · unfold cx cy
    rw [h (w + 1) _ (by omega) (by omega), h (w + 2) _ (by omega) (by omega)]
    exact ⟨rfl, rfl⟩
theorem DD_of {d e : DY} {w L W R i : Nat} {x : Int32} (hw : 111 < w) (hw2 : w + 11 < 510) (hi : i < 2) (h : ∀ x k : Nat, x < 510 → ¬ (x = w ∧ k = 4) → gi e x k = gi d x k) (hWh : ∀ q k : Nat, q < R → k < (gi d (95 + 10 + 2) q).toNatClampNeg → ∃ wh : Nat, wh ≤ 10 ∧ gi d (95 + 10 + 3) (4 * q + k) = iz wh) (hD : DD d w L W R i x) : DD e w L W R i x := by
  have S : SEES d e 95 w w 2 i := SEES_of hw h hw2
  unfold DD
  rw [(S.2.2.1 i hi).1]
  rcases hD with z | ⟨z, z2⟩
  · exact Or.inl z
  · exact Or.inr ⟨z, DEED_tr (g := 95) S hi (Or.inl (h (w + 7) i (by omega) (by omega))) hWh z2⟩
/-- one told aim -/
theorem tell_one {D : DY} {w r L W R i : Nat} (N u cd p : Nat) (mc : DY) (x : Int32) (hN : 40 ≤ N) (hG : CVg 95 105 w) (hw : 111 < w) (r14 : r < 14) (hR : RRx D 95 105 w r id L W 2 2) (hRn : gi D 105 0 = iz R) (R16 : R ≤ 16) (hi : i < 2) (hm : ∀ k : Nat, k < 720 → k ≠ 5 → gi mc 531 (720 * r + k) = gi D 531 (720 * r + k)) (h45 : gi mc 510 45 = 1) (h46 : gi mc 510 46 = iz cd) (h47 : gi mc 510 47 = iz u) (hu : u < 2) (hcd : cd < 4) (hp : gi D (95 + 8) i = iz p) (p2 : p ≤ 2) (hx : DD D w L W R i x) : ∃ (am : Int32) (mc' : DY), F_X10_aimBy Z0.1 N 510 (iz r) (iz i) mc = some (am, mc') ∧ ((x = 4 ∨ (x = 3 ∧ p = 0)) → am = (if cd / 2 ^ u % 2 = 0 then 1 else 2) ∧ gi mc' 510 47 = iz ((u + 1 : Nat) : Int)) ∧ (¬ (x = 4 ∨ (x = 3 ∧ p = 0)) → aimR x am (iz p) ∧ gi mc' 510 47 = iz u) ∧ (∀ x k : Nat, ¬ (x = 510 ∧ (k = 42 ∨ k = 47)) → x ≠ 532 → x ≠ 533 → ¬ (x = 531 ∧ k = 720 * r + 5) → gi mc' x k = gi mc x k) ∧ ∀ x k : Nat, gl mc' x k = gl mc x k := by
  obtain ⟨dj, dj2⟩ := cv_dj hG
  -- the walk against mc
  obtain ⟨E, hE⟩ : ∃ E : DY, E = mixD (si D w 4 (gi mc 531 (720 * r + 5))) mc := ⟨_, rfl⟩
  have Ec : ∀ x k : Nat, x < 510 → ¬ (x = w ∧ k = 4) → gi E x k = gi D x k := fun x k q1 q2 => by rw [hE, mix_c _ _ _ _ q1, gi_si_if, if_neg q2]
  have Em : ∀ x k : Nat, 510 ≤ x → gi E x k = gi mc x k := fun x k q1 => by rw [hE, mix_m _ _ _ _ q1]
  have hRE : RRx E 95 105 w r id L W 2 2 := by
    have k7 := hR.2.2.2.2.2.2.1
    refine RRx_seed hG hR (fun x k x1 x2 _ _ => Ec x k x1 (by omega)) (fun i h1 _ h3 => by rw [Em _ _ (by omega)]; exact hm i h1 h3) ?_ ?_
    · rw [Ec _ _ (by omega) (by omega), Em _ _ (by omega), hm 4 (by omega) (by omega)]
      exact k7.2.1
    · rw [Em 531 _ (by omega), hE, mix_c _ _ _ _ (by omega), gi_si_if, if_pos ⟨rfl, rfl⟩]
  have hv := RRx_CV hG hRE
  have hM := RRx_MV hG r14 hRE
  obtain ⟨_, ⟨L16, W6, n12⟩, _, _, hpos, hwk⟩ := id hv
  have hL0 : LR D 105 _ 531 (720 * r + 352) := hR.2.2.2.2.2.1
  have hWh := LR_wh hL0 hRn R16
  have xE := DD_of hw (by omega) hi Ec hWh hx
  have hL := hRE.2.2.2.2.2.1
  have hRn' : gi E 105 0 = iz R := (Ec _ _ (by omega) (by omega)).trans hRn
  obtain ⟨f1, f18, f11, f12, _⟩ := RRx_one hRE i hi
  have pE : gi E (95 + 8) i = iz p := (Ec _ _ (by omega) (by omega)).trans hp
  have hth := m_thereR N E mc 95 w r id L W 2 2 i hM hi (fun k => (Em 531 k (by omega)).symm)
  have q2 := hRE.2.2.2.2.2.2.1.1
  rcases xE with ⟨g1, rfl⟩ | ⟨g1, g2⟩
  · rw [if_pos g1] at hth
    refine ⟨5, mc, ?_, fun z => ?_, fun _ => ⟨Or.inr ⟨rfl, Or.inr (Or.inr (Or.inr rfl))⟩, h47⟩, fun _ _ _ _ _ _ => rfl, fun _ _ => rfl⟩
    · rw [F_X10_aimBy_s]
      exact bnd hth rfl
    · rcases z with z | z
      · exact absurd z (by decide)
      · exact absurd z.1 (by decide)
  · rw [if_neg g1] at hth
    have hpi := cx_b hv i hi g1
    obtain ⟨e2, u1, u2⟩ := m_act N E mc 95 105 w r id L W 2 2 R i x hN hM hL hRn' R16 hi hpi f1 q2.symm f18 f11 (dS := mc) (by
      refine ⟨fun x k h _ _ => (Em x k (by omega)).symm, fun _ _ _ _ _ => rfl, fun _ _ => rfl⟩) g2
    obtain ⟨dx, dx5, hxx⟩ := DEED_b hL hRn' R16 g2
    have hpm2 : gi e2 531 (720 * r + 16 + 20 * i + 12) = iz p := by
      rw [u1.2.1 531 _ (by omega) (by omega) (by omega), ← Em 531 _ (by omega)]
      exact f12.trans pE
    have am := m_aim N r i mc e2 x p r14 (by omega) hth u2 hpm2 p2
    have fr : ∀ x k : Nat, ¬ (x = 510 ∧ k = 42) → x ≠ 532 → x ≠ 533 → gi e2 x k = gi mc x k := fun x k h1 h2 h3 => u1.2.1 x k h1 h2 h3
    by_cases lot : x = 4 ∨ (x = 3 ∧ p = 0)
    · rw [if_pos lot] at am
      obtain ⟨m', l1, l2, l3, l4⟩ := m_lotT N r u cd e2 r14 ((fr _ _ (by omega) (by omega) (by omega)).trans h45) ((fr _ _ (by omega) (by omega) (by omega)).trans h46) ((fr _ _ (by omega) (by omega) (by omega)).trans h47) hu hcd
      refine ⟨if cd / 2 ^ u % 2 = 0 then 1 else 2, m', am.trans (bnd l1 ?_), fun _ => ⟨rfl, l2⟩, fun z => absurd lot z, fun y k h1 h2 h3 h4 => by rw [l3 y k (by omega) h4]; exact fr y k (by omega) h2 h3, fun y k => (l4 y k).trans (u1.2.2 y k)⟩
      by_cases z : cd / 2 ^ u % 2 = 0
      · rw [if_pos z, if_pos z]
        exact if_neg (show ¬ (1 : Int32) = 0 by decide)
      · rw [if_neg z, if_neg z]
        exact if_pos rfl
    · rw [if_neg lot] at am
      have X : dx = 0 ∨ dx = 1 ∨ dx = 2 ∨ dx = 3 ∨ dx = 4 ∨ dx = 5 := by omega
      by_cases x3 : x = 3
      · rw [if_pos x3] at am
        refine ⟨iz p, e2, am, fun z => absurd z lot, fun _ => ⟨Or.inl ⟨x3, ?_⟩, (fr _ _ (by omega) (by omega) (by omega)).trans h47⟩, fun y k h1 h2 h3 _ => fr y k (by omega) h2 h3, fun y k => u1.2.2 y k⟩
        have P : p = 1 ∨ p = 2 := by
          have : ¬ p = 0 := fun z => lot (Or.inr ⟨x3, z⟩)
          omega
        rcases P with z | z
        · exact Or.inl ⟨by rw [z]; rfl, by rw [z]; rfl⟩
        · exact Or.inr ⟨by rw [z]; rfl, by rw [z]; rfl⟩
      · rw [if_neg x3] at am
        refine ⟨x, e2, am, fun z => absurd z lot, fun _ => ⟨Or.inr ⟨rfl, ?_⟩, (fr _ _ (by omega) (by omega) (by omega)).trans h47⟩, fun y k h1 h2 h3 _ => fr y k (by omega) h2 h3, fun y k => u1.2.2 y k⟩
        rcases X with z | z | z | z | z | z
        · exact Or.inl (by rw [hxx, z]; rfl)
        · exact Or.inr (Or.inl (by rw [hxx, z]; rfl))
        · exact Or.inr (Or.inr (Or.inl (by rw [hxx, z]; rfl)))
        · exact absurd (by rw [hxx, z]; rfl) x3
        · exact absurd (Or.inl (by rw [hxx, z]; rfl)) lot
        · exact Or.inr (Or.inr (Or.inr (by rw [hxx, z]; rfl)))
