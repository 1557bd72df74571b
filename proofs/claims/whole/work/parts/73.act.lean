/-! what he does: both sides -/
theorem m_act75 {dS : DY} (N : Nat) (d0 : DY) (g l w r : Nat) (ι : Nat → Nat) (n M i q t : Nat) (v : Nat → Int32) (x3 : Int32) (K) (r14 : r < 14) (q16 : q < 16) (hfd : ∀ e : DY, lkM d0 dS e → SEEN d0 e g w i ι n M → ∀ wh : Nat, wh ≤ 10 → ∃ f : DY, lkM d0 dS f ∧ SEEN d0 f g w i ι n M ∧ F_X10_found Z0.1 N 510 (iz r) (iz (ι i : Nat)) (iz wh) e = some (v wh, f)) (ht4 : t ≤ 4) (ht : gi d0 531 (720 * r + 352 + 18 * q + 1) = iz t) (hT : ∀ k : Nat, k < t → TR d0 l (4 * q + k) 531 (720 * r + 352 + 18 * q + 2 + 4 * k)) : ∀ (p f j : Nat) (d : DY), j + p = t → p < f → lkM d0 dS d → SEEN d0 d g w i ι n M → (∀ x : Nat, x < j → htI d0 l v (4 * q + x) = 1) → ∃ (e : DY) (y : Int32), lkM d0 dS e ∧ SEEN d0 e g w i ι n M ∧ (y = 1 ∧ alT d0 l v q t ∨ y = 0 ∧ ¬ alT d0 l v q t) ∧ F_X10_actBy_75 Z0.1 N K f 510 (iz r) (iz (ι i : Nat)) x3 (iz q) (iz ((720 * r + 352 + 18 * q : Nat) : Int)) 1 (iz j) d = F_X10_actBy_117 Z0.1 N K 510 (iz r) (iz (ι i : Nat)) x3 (iz q) (iz ((720 * r + 352 + 18 * q : Nat) : Int)) y e := by
  have b1 : iz ((720 * r + 352 + 18 * q : Nat) : Int) + (1 : Int32) = iz ((720 * r + 352 + 18 * q + 1 : Nat) : Int) := iz_add _ 1
  have j1 := ibr (720 * r + 352 + 18 * q + 1) (by omega)
  intro p
  induction p with
  | zero =>
    intro f j d hj hf hk hs hA
    obtain ⟨f, rfl⟩ : ∃ x, f = x + 1 := ⟨f - 1, by omega⟩
    have x2 : gi d 531 (720 * r + 352 + 18 * q + 1) = iz t := by rw [hk.1 531 _ (by decide) (by decide) (by decide)]; exact ht
    refine ⟨d, 1, hk, hs, Or.inl ⟨rfl, fun x hx => hA x (by omega)⟩, ?_⟩
    rw [F_X10_actBy_75_s, b1, if_pos j1, r_510_39, tnn _ (720 * r + 352 + 18 * q + 1) rfl (by omega), x2, if_pos (show iz (t : Int) ≤ iz (j : Int) from iz_lei (by omega))]
  | succ p ih =>
    intro f j d hj hf hk hs hA
    obtain ⟨f, rfl⟩ : ∃ x, f = x + 1 := ⟨f - 1, by omega⟩
    have x2 : gi d 531 (720 * r + 352 + 18 * q + 1) = iz t := by rw [hk.1 531 _ (by decide) (by decide) (by decide)]; exact ht
    have m : iz ((720 * r + 352 + 18 * q : Nat) : Int) + (2 : Int32) + (4 : Int32) * iz (j : Int) = iz ((720 * r + 352 + 18 * q + 2 + 4 * j : Nat) : Int) := by
      rw [l_2, l_4, iz_mul, iz_add, iz_add]; rfl
    obtain ⟨e, k1, k2, k3⟩ := m_holds N d0 d g l w r ι n M i (4 * q + j) (720 * r + 352 + 18 * q + 2 + 4 * j) v r14 hk hs hfd (hT j (by omega)) (by omega)
    have st : ∀ R, F_X10_actBy_75 Z0.1 N K f 510 (iz r) (iz (ι i : Nat)) x3 (iz q) (iz ((720 * r + 352 + 18 * q : Nat) : Int)) (htI d0 l v (4 * q + j)) (iz ((j + 1 : Nat) : Int)) e = R → F_X10_actBy_75 Z0.1 N K (f + 1) 510 (iz r) (iz (ι i : Nat)) x3 (iz q) (iz ((720 * r + 352 + 18 * q : Nat) : Int)) 1 (iz j) d = R := fun R hR => by
      rw [F_X10_actBy_75_s, b1, if_pos j1, r_510_39, tnn _ (720 * r + 352 + 18 * q + 1) rfl (by omega), x2, if_neg (show ¬ iz (t : Int) ≤ iz (j : Int) from iz_nle (by omega)), if_neg (by decide : ¬ (1 : Int32) = 0), m, show iz (j : Int) + (1 : Int32) = iz ((j + 1 : Nat) : Int) from iz_add j 1]
      exact bnd k3 hR
    by_cases z : htI d0 l v (4 * q + j) = 1
    · obtain ⟨e2, y, u1, u2, u3, u4⟩ := ih f (j + 1) e (by omega) (by omega) k1 k2 (fun x hx => by
        rcases Nat.lt_or_ge x j with c | c
        · exact hA x c
        · rw [show x = j by omega]; exact z)
      exact ⟨e2, y, u1, u2, u3, st _ (by rw [z]; exact u4)⟩
    · have z0 : htI d0 l v (4 * q + j) = 0 := (htI_01 d0 l v (4 * q + j)).resolve_right z
      refine ⟨e, 0, k1, k2, Or.inr ⟨rfl, fun y => z (y j (by omega))⟩, st _ ?_⟩
      rw [z0]
      obtain ⟨f, rfl⟩ : ∃ x, f = x + 1 := ⟨f - 1, by omega⟩
      have x3' : gi e 531 (720 * r + 352 + 18 * q + 1) = iz t := by rw [k1.1 531 _ (by decide) (by decide) (by decide)]; exact ht
      rw [F_X10_actBy_75_s, b1, if_pos j1, r_510_39, tnn _ (720 * r + 352 + 18 * q + 1) rfl (by omega), x3']
      by_cases c : iz (t : Int) ≤ iz ((j + 1 : Nat) : Int)
      · rw [if_pos c]
      · rw [if_neg c, if_pos rfl]
theorem m_act42 {dS : DY} (N : Nat) (d0 : DY) (g l w r : Nat) (ι : Nat → Nat) (n M i R : Nat) (v : Nat → Int32) (x : Int32) (hN : 40 ≤ N) (r14 : r < 14) (hfd : ∀ e : DY, lkM d0 dS e → SEEN d0 e g w i ι n M → ∀ wh : Nat, wh ≤ 10 → ∃ f : DY, lkM d0 dS f ∧ SEEN d0 f g w i ι n M ∧ F_X10_found Z0.1 N 510 (iz r) (iz (ι i : Nat)) (iz wh) e = some (v wh, f)) (hL : LR d0 l (gi d0 531 (720 * r + 9)) 531 (720 * r + 352)) (hR : gi d0 l 0 = iz R) (hR16 : R ≤ 16) (hD : DFc d0 l v R x) : ∀ (p f q : Nat) (d : DY), q + p = R → p < f → lkM d0 dS d → SEEN d0 d g w i ι n M → (∀ q' : Nat, q' < q → ¬ alT d0 l v q' (gi d0 (l + 2) q').toNatClampNeg) → ∃ e : DY, lkM d0 dS e ∧ F_X10_actBy_42 Z0.1 N f 510 (iz r) (iz (ι i : Nat)) (iz ((720 * r : Nat) : Int)) (iz q) d = some (x, e) := by
  obtain ⟨R', r0, r1, r2, r3⟩ := hL
  have hRR : R' = R := by
    rw [r1] at hR
    have := (iz_inj (by omega) (by omega) (by omega) (by omega)).mp hR
    omega
  subst hRR
  have b9 : iz ((720 * r : Nat) : Int) + (9 : Int32) = iz ((720 * r + 9 : Nat) : Int) := iz_add _ 9
  have j9 := ibr (720 * r + 9) (by omega)
  intro p
  induction p with
  | zero =>
    intro f q d hq hf hk hs hA
    obtain ⟨f, rfl⟩ : ∃ x, f = x + 1 := ⟨f - 1, by omega⟩
    have x9 : gi d 531 (720 * r + 9) = iz R' := by rw [hk.1 531 _ (by decide) (by decide) (by decide)]; exact r2
    have hx : x = 5 := by
      rcases hD with ⟨h, _⟩ | ⟨q', h1, h2, _⟩
      · exact h
      · exact absurd h2 (hA q' (by omega))
    refine ⟨d, hk, ?_⟩
    rw [F_X10_actBy_42_s, b9, if_pos j9, r_510_39, tnn _ (720 * r + 9) rfl (by omega), x9, if_pos (show iz (R' : Int) ≤ iz (q : Int) from iz_lei (by omega)), hx]
  | succ p ih =>
    intro f q d hq hf hk hs hA
    obtain ⟨f, rfl⟩ : ∃ x, f = x + 1 := ⟨f - 1, by omega⟩
    have x9 : gi d 531 (720 * r + 9) = iz R' := by rw [hk.1 531 _ (by decide) (by decide) (by decide)]; exact r2
    obtain ⟨⟨dd, d5, e1, e1'⟩, t, t4, e2, e2', hT⟩ := r3 q (by omega)
    have tt : (gi d0 (l + 2) q).toNatClampNeg = t := by rw [e2]; exact tnn _ t rfl (by omega)
    obtain ⟨e, y, k1, k2, k3, k4⟩ := m_act75 N d0 g l w r ι n M i q t v (iz ((720 * r : Nat) : Int)) (F_X10_actBy_42 Z0.1 N f) r14 (by omega) hfd t4 e2' hT t N 0 d (by omega) (by omega) hk hs (fun x hx => absurd hx (by omega))
    have m : iz ((720 * r : Nat) : Int) + (352 : Int32) + (18 : Int32) * iz (q : Int) = iz ((720 * r + 352 + 18 * q : Nat) : Int) := by
      rw [show (352 : Int32) = iz 352 from rfl, show (18 : Int32) = iz 18 from rfl, iz_mul, iz_add, iz_add]; rfl
    have st : ∀ S, F_X10_actBy_117 Z0.1 N (F_X10_actBy_42 Z0.1 N f) 510 (iz r) (iz (ι i : Nat)) (iz ((720 * r : Nat) : Int)) (iz q) (iz ((720 * r + 352 + 18 * q : Nat) : Int)) y e = S → F_X10_actBy_42 Z0.1 N (f + 1) 510 (iz r) (iz (ι i : Nat)) (iz ((720 * r : Nat) : Int)) (iz q) d = S := fun S hS => by
      rw [F_X10_actBy_42_s, b9, if_pos j9, r_510_39, tnn _ (720 * r + 9) rfl (by omega), x9, if_neg (show ¬ iz (R' : Int) ≤ iz (q : Int) from iz_nle (by omega)), m]
      exact k4.trans hS
    rcases k3 with ⟨y1, y2⟩ | ⟨y1, y2⟩
    · have hx : x = iz dd := by
        rcases hD with ⟨_, h⟩ | ⟨q', h1, h2, h3, h4⟩
        · exact absurd (by rw [tt]; exact y2) (h q (by omega))
        · rcases Nat.lt_trichotomy q' q with c | c | c
          · exact absurd h2 (hA q' c)
          · rw [h4, c]; exact e1
          · exact absurd (by rw [tt]; exact y2) (h3 q c)
      refine ⟨e, k1, st _ ?_⟩
      rw [F_X10_actBy_117_s, y1, if_neg (by decide : ¬ (1 : Int32) = 0), if_pos (ibr _ (by omega)), r_510_39, tnn _ (720 * r + 352 + 18 * q) rfl (by omega), k1.1 531 _ (by decide) (by decide) (by decide), e1', hx]
    · obtain ⟨e3, u1, u2⟩ := ih f (q + 1) e (by omega) (by omega) k1 k2 (fun q' hq' => by
        rcases Nat.lt_or_ge q' q with c | c
        · exact hA q' c
        · rw [show q' = q by omega, tt]; exact y2)
      refine ⟨e3, u1, st _ ?_⟩
      rw [F_X10_actBy_117_s, y1, if_pos rfl, show iz (q : Int) + (1 : Int32) = iz ((q + 1 : Nat) : Int) from iz_add q 1]
      exact u2
/-- what the class's deed says: by what he finds and the rules -/
def DEED (d : DY) (g l w L W n R i : Nat) (x : Int32) : Prop := (¬ gi d w 2 - gi d w 2 / gi d (g + 5) i * gi d (g + 5) i = 0 ∧ x = 5) ∨ (gi d w 2 - gi d w 2 / gi d (g + 5) i * gi d (g + 5) i = 0 ∧ ∃ v : Nat → Int32, SGT d g w L W n i v ∧ DFc d l v R x)
theorem c_deed {dS : DY} (N : Nat) (d0 d : DY) (g l w L W n R i : Nat) (c o : Nat) (rn : Int32) (hN : 40 ≤ N) (hv : CV d0 g l w L W n) (hL : LR d0 l rn c o) (hR : gi d0 l 0 = iz R) (hR16 : R ≤ 16) (hi : i < n) (hp : inS L W (cx d0 w 0 i) (cy d0 w 0 i)) (hc : lkC w d0 dS d) : ∃ (x : Int32) (e : DY), lkC w d0 dS e ∧ F_X8_deed Z0.1 N w (iz i) d = some (x, e) ∧ DEED d0 g l w L W n R i x := by
  have hv' := hv
  obtain ⟨hG, ⟨L16, W6, n12⟩, _, _, hpos, hwk⟩ := hv'
  obtain ⟨dj, dj2⟩ := cv_dj hG
  obtain ⟨_, ⟨p, p1, p4, hpc⟩, _⟩ := hwk i hi
  have x0 := (hpos 0 i (by omega) hi).1
  rw [Nat.mul_zero, Nat.zero_add] at x0
  have y0 : gi d (w + 1) i = iz (cx d0 w 0 i) := by rw [hc.1 _ _ (by omega) (by omega)]; exact x0
  have y1 : gi d (g + 5) i = gi d0 (g + 5) i := hc.1 _ _ (by omega) (by omega)
  have y2 : gi d w 2 = gi d0 w 2 := hc.1 _ _ (by omega) (by omega)
  have hp' := hp
  unfold inS at hp'
  have F := F_X8_deed_s Z0.1 N w (iz (i : Int)) d
  rw [if_pos (show ib (iz (i : Int)) 12 from iz_ib (by omega)), if_pos (show ib (iz (i : Int)) 48 from iz_ib (by omega)), cv_w1 hG, tnn _ i rfl (by omega), y0, if_neg (show ¬ iz (cx d0 w 0 i) = -1 from iz_nei (b := -1) (by omega)), cv_r0 hG, cv_g5 hG, y1, y2] at F
  unfold DEED
  rw [hpc] at F ⊢
  rw [if_neg (show ¬ iz (p : Int) < 1 from iz_nlt (b := 1) (by omega)), if_neg (show ¬ iz (p : Int) = 0 from iz_nei (b := 0) (by omega))] at F
  by_cases z : gi d0 w 2 - gi d0 w 2 / iz (p : Int) * iz (p : Int) = 0
  · rw [if_pos z] at F
    obtain ⟨e, k1, k2, k3⟩ := c_look N d0 d g l w L W n i (by omega) hv hi hp hc
    obtain ⟨x, u1, u2⟩ := c_deedFor2 N d0 e g l w R c o rn (by omega) hG k1 hL hR hR16 R N 0 (by omega) (by omega) (fun q hq => absurd hq (by omega))
    refine ⟨x, e, k1, ?_, Or.inr ⟨z, _, k3, u2⟩⟩
    rw [F, cv_r1 hG, cv_w10 hG]
    refine bnd k2 ?_
    refine bnd (show F_X2_deedFor Z0.1 N 11 l (w + 10) e = some (x, e) from by rw [F_X2_deedFor_s]; exact u1) rfl
  · rw [if_neg z] at F
    exact ⟨5, d, hc, F, Or.inl ⟨z, rfl⟩⟩
theorem m_act {dS : DY} (N : Nat) (d0 d : DY) (g l w r : Nat) (ι : Nat → Nat) (L W n M R i : Nat) (x : Int32) (hN : 40 ≤ N) (hv : MV d0 g w r ι L W n M) (hL : LR d0 l (gi d0 531 (720 * r + 9)) 531 (720 * r + 352)) (hR : gi d0 l 0 = iz R) (hR16 : R ≤ 16) (hi : i < n) (hp : inS L W (cx d0 w 0 i) (cy d0 w 0 i)) (hf : FRI d0 g r ι n M i) (h3 : gi d0 531 (720 * r + 3) = gi d0 w 2) (h18 : gi d0 531 (720 * r + 16 + 20 * ι i + 18) = gi d0 (w + 7) i) (h11 : gi d0 531 (720 * r + 16 + 20 * ι i + 11) = gi d0 (g + 7) i) (hk : lkM d0 dS d) (hD : DEED d0 g l w L W n R i x) : ∃ e : DY, lkM d0 dS e ∧ F_X10_actBy Z0.1 N 510 (iz r) (iz (ι i : Nat)) d = some (x, e) := by
  have hb := hv.1
  have hιi := hv.2.2.2.1.1 i hi
  obtain ⟨_, _, _, _, _, _, hwk⟩ := id hv
  obtain ⟨_, ⟨p, p1, p4, hpc, hpm⟩, _⟩ := hwk i hi
  have y3 : gi d 531 (720 * r + 3) = gi d0 w 2 := by rw [hk.1 531 _ (by decide) (by decide) (by decide)]; exact h3
  have y9 : gi d 531 (720 * r + 16 + 20 * ι i + 9) = iz p := by rw [hk.1 531 _ (by decide) (by decide) (by decide)]; exact hpm
  have b9 : iz ((720 * r + 16 + 20 * ι i : Nat) : Int) + (9 : Int32) = iz ((720 * r + 16 + 20 * ι i + 9 : Nat) : Int) := iz_add _ 9
  have j9 := ibr (720 * r + 16 + 20 * ι i + 9) (by omega)
  have t9 : (iz ((720 * r + 16 + 20 * ι i + 9 : Nat) : Int)).toNatClampNeg = 720 * r + 16 + 20 * ι i + 9 := tnn _ _ rfl (by omega)
  have pz : ¬ iz (p : Int) = 0 := iz_nei (b := 0) (by omega)
  have F : ∀ S, (if gi d0 w 2 - gi d0 w 2 / iz (p : Int) * iz (p : Int) = 0 then (F_X10_look Z0.1 N 510 (iz r) (iz (ι i : Nat)) d).bind fun u5 => F_X10_actBy_42 Z0.1 N N 510 (iz r) (iz (ι i : Nat)) (iz ((720 * r : Nat) : Int)) 0 u5 else some (5, d)) = S → F_X10_actBy Z0.1 N 510 (iz r) (iz (ι i : Nat)) d = S := fun S hS => by
    rw [F_X10_actBy_s, m_row3, if_pos (ibr _ (by omega)), r_510_39, tnn _ (720 * r + 3) rfl (by omega), y3]
    refine bnd (m_at _ _ r (ι i) d) ?_
    show (if ib (iz ((720 * r + 16 + 20 * ι i : Nat) : Int) + (9 : Int32)) 10080 then _ else _) = _
    rw [b9, if_pos j9, t9]
    show (if gi d 531 (720 * r + 16 + 20 * ι i + 9) = 0 then _ else if (gi d0 w 2 - gi d0 w 2 / gi d 531 (720 * r + 16 + 20 * ι i + 9) * gi d 531 (720 * r + 16 + 20 * ι i + 9)) = 0 then _ else _) = _
    rw [y9, if_neg pz]
    have m0 : (720 : Int32) * iz (r : Int) = iz ((720 * r : Nat) : Int) := by
      rw [show (720 : Int32) = iz 720 from rfl, iz_mul]; rfl
    rw [m0]
    exact hS
  unfold DEED at hD
  rw [hpc] at hD
  rcases hD with ⟨z, zx⟩ | ⟨z, v, hS, hDF⟩
  · exact ⟨d, hk, F _ (by rw [if_neg z, zx])⟩
  · obtain ⟨e, k1, k2, k3⟩ := m_look N d0 d g w r ι L W n M i (by omega) hv hi hk
    obtain ⟨e2, u1, u2⟩ := m_act42 N d0 g l w r ι n M i R v x hN (by omega) (fun e he hs wh hw => m_found N d0 e g w r ι L W n M i v hN hv hi he hs hp hf h18 h11 hS wh hw) hL hR hR16 hDF R N 0 e (by omega) (by omega) k1 k3 (fun q hq => absurd hq (by omega))
    refine ⟨e2, u1, F _ ?_⟩
    rw [if_pos z]
    exact bnd k2 u2
