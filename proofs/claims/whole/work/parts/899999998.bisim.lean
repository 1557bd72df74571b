/-! two: the bisimulation -/
def TLD (c : DY) (w L W R p0 p1 : Nat) (x0 x1 : Int32) (o0 o1 : Nat) (wy : Nat → Int) : Prop := (gi c 105 0 = iz R ∧ R ≤ 16) ∧ (∀ q k : Nat, q < R → k < (gi c (95 + 10 + 2) q).toNatClampNeg → ∃ wh : Nat, wh ≤ 10 ∧ gi c (95 + 10 + 3) (4 * q + k) = iz wh) ∧ (gi c (95 + 8) 0 = iz p0 ∧ gi c (95 + 8) 1 = iz p1 ∧ p0 ≤ 2 ∧ p1 ≤ 2) ∧ (DD c w L W R 0 x0 ∧ DD c w L W R 1 x1) ∧ (∃ z0 z1 : Nat, z0 ≤ 5 ∧ z1 ≤ 5 ∧ x0 = iz z0 ∧ x1 = iz z1) ∧ ((o0 = 0 ∧ o1 = 1 ∨ o0 = 1 ∧ o1 = 0) ∧ gi c (w + 9) 0 = iz o0 ∧ gi c (w + 9) 1 = iz o1) ∧ ∀ i : Nat, i < 2 → (wy i = 1 ∨ wy i = -1) ∧ gi c (95 + 4) i = iz (wy i)
theorem SR_TLD {c m : DY} {w r L W : Nat} (N : Nat) (hN : 40 ≤ N) (h : SR c m w r L W) : ∃ (R p0 p1 : Nat) (x0 x1 : Int32) (o0 o1 : Nat) (wy : Nat → Int), TLD c w L W R p0 p1 x0 x1 o0 o1 wy := by
  obtain ⟨R, R16, hR, hWh⟩ := SR_law h
  obtain ⟨x0, _, _, _, _, d0, z0, z05, e0⟩ := SR_deed N hN h hR R16 (i := 0) (by omega)
  obtain ⟨x1, _, _, _, _, d1, z1, z15, e1⟩ := SR_deed N hN h hR R16 (i := 1) (by omega)
  obtain ⟨⟨p0, p02, hp0⟩, ⟨w0, a0, b0⟩, _⟩ := SR_hand h 0 (by omega)
  obtain ⟨⟨p1, p12, hp1⟩, ⟨w1, a1, b1⟩, _⟩ := SR_hand h 1 (by omega)
  obtain ⟨o0, o1, ho, h0, h1⟩ := SR_order h
  refine ⟨R, p0, p1, x0, x1, o0, o1, fun i => if i = 0 then w0 else w1, ⟨hR, R16⟩, hWh, ⟨hp0, hp1, p02, p12⟩, ⟨d0, d1⟩, ⟨z0, z1, z05, z15, e0, e1⟩, ⟨ho, h0, h1⟩, fun i hi => ?_⟩
  have I : i = 0 ∨ i = 1 := by omega
  rcases I with rfl | rfl
  · exact ⟨a0, b0⟩
  · exact ⟨a1, b1⟩
/-- alike in all that the key tells -/
def KQ (lg : Nat) (a b : DY) (wa wb : Nat) : Prop := (∀ x k : Nat, 95 ≤ x → x ≤ 111 → gi b x k = gi a x k) ∧ gi b wb 2 = gi a wa 2 ∧ (∀ t i : Nat, t < lg → i < 2 → gi b (wb + 1) (12 * t + i) = gi a (wa + 1) (12 * t + i) ∧ gi b (wb + 2) (12 * t + i) = gi a (wa + 2) (12 * t + i)) ∧ (∀ p : Nat, p < 2 → gi b (wb + 9) p = gi a (wa + 9) p) ∧ ((∀ i : Nat, i < 2 → gi b (wb + 7) i = gi a (wa + 7) i) ∨ ∀ R : Nat, gi a 105 0 = iz R → R ≤ 16 → ¬ WGH a 105 R)
theorem KQ_TLD {a b : DY} {lg wa wb L W R p0 p1 o0 o1 : Nat} {x0 x1 : Int32} {wy : Nat → Int} (h : KQ lg a b wa wb) (hl : 1 ≤ lg ∧ ∀ i : Nat, i < 2 → lt a 95 i < lg) (hT : TLD a wa L W R p0 p1 x0 x1 o0 o1 wy) : TLD b wb L W R p0 p1 x0 x1 o0 o1 wy := by
  obtain ⟨g, t2, ps, od, wt⟩ := h
  obtain ⟨⟨h1, R16⟩, hWh, ⟨k1, k2, k3, k4⟩, ⟨d0, d1⟩, hz, ⟨q1, q2, q3⟩, hw⟩ := hT
  have S : ∀ i : Nat, i < 2 → SEES a b 95 wa wb 2 i := fun i hi => by
    refine ⟨fun x k y1 y2 => g x k (by omega) (by omega), t2, fun o ho => ?_, fun o ho => ?_⟩
    · unfold cx cy
      rw [(ps 0 o (by omega) ho).1, (ps 0 o (by omega) ho).2]
      exact ⟨rfl, rfl⟩
    · unfold cx cy
      rw [(ps (lt a 95 i) o (hl.2 i hi) ho).1, (ps (lt a 95 i) o (hl.2 i hi) ho).2]
      exact ⟨rfl, rfl⟩
  have D : ∀ (i : Nat) (x : Int32), i < 2 → DD a wa L W R i x → DD b wb L W R i x := fun i x hi hD => by
    unfold DD
    rw [((S i hi).2.2.1 i hi).1]
    rcases hD with z | ⟨z, z2⟩
    · exact Or.inl z
    · refine Or.inr ⟨z, DEED_tr (g := 95) (S i hi) hi ?_ hWh z2⟩
      rcases wt with y | y
      · exact Or.inl (y i hi)
      · exact Or.inr (y R h1 R16)
  refine ⟨⟨(g _ _ (by omega) (by omega)).trans h1, R16⟩, fun q k hq hk => ?_, ⟨(g _ _ (by omega) (by omega)).trans k1, (g _ _ (by omega) (by omega)).trans k2, k3, k4⟩, ⟨D 0 x0 (by omega) d0, D 1 x1 (by omega) d1⟩, hz, ⟨q1, (od 0 (by omega)).trans q2, (od 1 (by omega)).trans q3⟩, fun i hi => ⟨(hw i hi).1, (g _ _ (by omega) (by omega)).trans (hw i hi).2⟩⟩
  rw [g _ _ (by omega) (by omega)] at hk ⊢
  exact hWh q k hq hk
theorem SR_arr {c m : DY} {w r L W : Nat} (h : SR c m w r L W) : gi m 531 (720 * r + 6) = iz (AWn c w 2 : Nat) := by
  obtain ⟨hG, hw, r14, hR, h45, hA⟩ := h
  obtain ⟨_, _, _, _, d5⟩ := cv_dj hG
  have := hR.2.2.2.2.2.2.1.2.2.2.1
  rw [mix_c _ _ _ _ (by omega), mix_m _ _ _ _ (by omega), gi_si_if, if_neg (by omega)] at this
  exact this.symm.trans hA
theorem AWn_two {a b : DY} {wa wb : Nat} (h : ∀ i : Nat, i < 2 → gi b (wb + 1) i = gi a (wa + 1) i) : AWn b wb 2 = AWn a wa 2 := by
  have e : ∀ (c : DY) (w : Nat), AWn c w 2 = 0 + (if gi c (w + 1) 0 = -1 then 1 else 0) + (if gi c (w + 1) 1 = -1 then 1 else 0) := fun _ _ => rfl
  rw [e, e, h 0 (by omega), h 1 (by omega)]
theorem dCN_two {a b : DY} {g wa wb : Nat} (h : ∀ i : Nat, i < 2 → gi b (wb + 2) i = gi a (wa + 2) i ∧ gi b (wb + 2) (12 + i) = gi a (wa + 2) (12 + i) ∧ gi b (wb + 1) (12 + i) = gi a (wa + 1) (12 + i) ∧ gi b (g + 4) i = gi a (g + 4) i) : dCN b g wb 2 = dCN a g wa 2 := by
  unfold dCN
  refine S1_same 2 (fun x hx => S1_same 2 (fun y hy => ?_))
  unfold dC2 dC1
  rw [(h x hx).1, (h x hx).2.1, (h x hx).2.2.1, (h x hx).2.2.2, (h y hy).1, (h y hy).2.1, (h y hy).2.2.1, (h y hy).2.2.2]
theorem pow_le4 {a b : Nat} (h : a ≤ 1) (k : b ≤ 1) : 2 ^ (a + b) ≤ 4 := by
  have A : a = 0 ∨ a = 1 := by omega
  have B : b = 0 ∨ b = 1 := by omega
  rcases A with rfl | rfl <;> rcases B with rfl | rfl <;> decide
theorem WGH_g {a b : DY} {R : Nat} (h : ∀ x k : Nat, 95 ≤ x → x ≤ 111 → gi b x k = gi a x k) (hW : WGH b 105 R) : WGH a 105 R := by
  obtain ⟨q, k, q1, q2, q3⟩ := hW
  rw [h _ _ (by omega) (by omega)] at q2 q3
  exact ⟨q, k, q1, q2, q3⟩
theorem lt_g {a b : DY} (h : ∀ x k : Nat, 95 ≤ x → x ≤ 111 → gi b x k = gi a x k) (i : Nat) : lt b 95 i = lt a 95 i := by
  unfold lt
  rw [h _ _ (by omega) (by omega)]
theorem bisim (N : Nat) (hN : 40 ≤ N) (lg L W : Nat) (lg4 : lg ≤ 4) : ∀ (k : Nat) (a ma b mb : DY) (wa ra wb rb : Nat), SR a ma wa ra L W → SR b mb wb rb L W → (1 ≤ lg ∧ ∀ i : Nat, i < 2 → lt a 95 i < lg) → KQ lg a b wa wb → ∀ j : Nat, TT N rb k mb j = TT N ra k ma j := by
  intro k
  induction k with
  | zero =>
    intro a ma b mb wa ra wb rb hA hB hl hK j
    have e : AWn b wb 2 = AWn a wa 2 := AWn_two (fun i hi => by
      have := (hK.2.2.1 0 i (by omega) hi).1
      rw [Nat.mul_zero, Nat.zero_add] at this
      exact this)
    rw [TT_0, TT_0, SR_arr hA, SR_arr hB, e]
  | succ k ih =>
    intro a ma b mb wa ra wb rb hA hB hl hK j
    obtain ⟨R, p0, p1, x0, x1, o0, o1, wy, hT⟩ := SR_TLD N hN hA
    have hT' := KQ_TLD hK hl hT
    obtain ⟨g, t2, ps, od, wt⟩ := id hK
    obtain ⟨_, _, _, _, da5⟩ := cv_dj hA.1
    obtain ⟨_, _, _, _, db5⟩ := cv_dj hB.1
    -- both step alike
    have both : ∀ cd : Nat, cd < 4 → ∃ (a' ma' b' mb' : DY), stT N ra ma cd = ma' ∧ stT N rb mb cd = mb' ∧ SR a' ma' wa ra L W ∧ SR b' mb' wb rb L W ∧ gi ma' 510 47 = iz ((ndT x0 p0 + ndT x1 p1 : Nat) : Int) ∧ gi mb' 510 47 = iz ((ndT x0 p0 + ndT x1 p1 : Nat) : Int) ∧ dnT N rb mb cd = dnT N ra ma cd ∧ KQ lg a' b' wa wb ∧ ∀ i : Nat, lt a' 95 i = lt a 95 i := fun cd hcd => by
      obtain ⟨⟨h1, R16⟩, hWh, ⟨k1, k2, k3, k4⟩, ⟨d0, d1⟩, ⟨z0, z1, z05, z15, e0, e1⟩, ⟨q1, q2, q3⟩, hw⟩ := id hT
      obtain ⟨⟨h1', _⟩, hWh', ⟨k1', k2', _, _⟩, ⟨d0', d1'⟩, _, ⟨_, q2', q3'⟩, hw'⟩ := id hT'
      have eA : ∀ (c : DY) (w : Nat) (x k : Nat), ¬ (x = w + 8) → gi (si (si c (w + 8) 0 (aimT x0 p0 (cd % 2))) (w + 8) 1 (aimT x1 p1 (cd / 2 ^ ndT x0 p0 % 2))) x k = gi c x k := fun c w x k h => by
        rw [gi_si_if, if_neg (by omega), gi_si_if, if_neg (by omega)]
      have a0 : ∀ (c : DY) (w : Nat), gi (si (si c (w + 8) 0 (aimT x0 p0 (cd % 2))) (w + 8) 1 (aimT x1 p1 (cd / 2 ^ ndT x0 p0 % 2))) (w + 8) 0 = aimT x0 p0 (cd % 2) := fun c w => by
        rw [gi_si_if, if_neg (by omega), gi_si_if, if_pos ⟨rfl, rfl⟩]
      have a1 : ∀ (c : DY) (w : Nat), gi (si (si c (w + 8) 0 (aimT x0 p0 (cd % 2))) (w + 8) 1 (aimT x1 p1 (cd / 2 ^ ndT x0 p0 % 2))) (w + 8) 1 = aimT x1 p1 (cd / 2 ^ ndT x0 p0 % 2) := fun c w => by
        rw [gi_si_if, if_pos ⟨rfl, rfl⟩]
      obtain ⟨s, a', ma', m0, m1, X0, Y0, X1, Y1, A1, A2, A3, A4, A5, A6, A7, A8, A9, A10, A11, A12, A13, A14, A15, A16, _, _⟩ := told_of N cd hN hA h1 R16 hWh k1 k2 k3 k4 d0 d1 z0 z1 z05 z15 e0 e1 hcd _ (fun x k _ _ h8 _ => eA a wa x k h8) (a0 a wa) (a1 a wa) o0 o1 q1 q2 q3 wy hw
      obtain ⟨s', b', mb', m0', m1', X0', Y0', X1', Y1', B1, B2, B3, B4, B5, B6, B7, B8, B9, B10, B11, B12, B13, B14, B15, B16, _, _⟩ := told_of N cd hN hB h1' R16 hWh' k1' k2' k3 k4 d0' d1' z0 z1 z05 z15 e0 e1 hcd _ (fun x k _ _ h8 _ => eA b wb x k h8) (a0 b wb) (a1 b wb) o0 o1 q1 q2' q3' wy hw'
      have ow : o0 < 2 ∧ o1 < 2 := by omega
      have px : ∀ o : Nat, o < 2 → cx b wb 0 o = cx a wa 0 o ∧ cy b wb 0 o = cy a wa 0 o := fun o ho => by
        unfold cx cy
        rw [(ps 0 o (by omega) ho).1, (ps 0 o (by omega) ho).2]
        exact ⟨rfl, rfl⟩
      have wl : ∀ x y : Int, inS L W x y → ((gi a (95 + 1) (6 * x + y).toNat = 1) ↔ (gi b (95 + 1) (6 * x + y).toNat = 1)) := fun x y _ => by rw [g _ _ (by omega) (by omega)]
      have u0 := GFP_one A7 (GFP_cg ow.1 wl (fun o ho => ⟨(px o ho).1.symm, (px o ho).2.symm⟩) Iff.rfl B7)
      obtain ⟨um0, uX0, uY0⟩ := u0
      have u1 := GFP_one A8 (GFP_cg ow.2 wl (fun o ho => by
        unfold updI
        rw [uX0, uY0]
        by_cases z : o = o0
        · rw [if_pos z, if_pos z, if_pos z, if_pos z]
          exact ⟨rfl, rfl⟩
        · rw [if_neg z, if_neg z, if_neg z, if_neg z]
          exact ⟨(px o ho).1.symm, (px o ho).2.symm⟩) Iff.rfl B8)
      obtain ⟨um1, uX1, uY1⟩ := u1
      have l0 : ∀ i : Nat, i < 2 → gi b' (wb + 1) i = gi a' (wa + 1) i ∧ gi b' (wb + 2) i = gi a' (wa + 2) i := fun i hi => by
        rw [(A9 i hi).1, (A9 i hi).2, (B9 i hi).1, (B9 i hi).2, uX0, uX1, uY0, uY1]
        unfold updI
        by_cases z : i = o1
        · rw [if_pos z, if_pos z, if_pos z, if_pos z]
          exact ⟨rfl, rfl⟩
        · rw [if_neg z, if_neg z, if_neg z, if_neg z]
          by_cases y : i = o0
          · rw [if_pos y, if_pos y, if_pos y, if_pos y]
            exact ⟨rfl, rfl⟩
          · rw [if_neg y, if_neg y, if_neg y, if_neg y, (px i hi).1, (px i hi).2]
            exact ⟨rfl, rfl⟩
      have gA : ∀ x k : Nat, 95 ≤ x → x ≤ 111 → gi a' x k = gi a x k := fun x k h1 h2 => by
        rw [A5.1 x k (by have := hA.2.1; omega) (by have := hA.2.1; omega), eA a wa x k (by have := hA.2.1; omega)]
      have gB : ∀ x k : Nat, 95 ≤ x → x ≤ 111 → gi b' x k = gi b x k := fun x k h1 h2 => by
        rw [B5.1 x k (by have := hB.2.1; omega) (by have := hB.2.1; omega), eA b wb x k (by have := hB.2.1; omega)]
      have g' : ∀ x k : Nat, 95 ≤ x → x ≤ 111 → gi b' x k = gi a' x k := fun x k h1 h2 => by rw [gB x k h1 h2, gA x k h1 h2, g x k h1 h2]
      have sh : ∀ t i : Nat, t < 3 → t < lg → i < 2 → gi b' (wb + 1) (12 * (t + 1) + i) = gi a' (wa + 1) (12 * (t + 1) + i) ∧ gi b' (wb + 2) (12 * (t + 1) + i) = gi a' (wa + 2) (12 * (t + 1) + i) := fun t i h3 hlg hi => by
        rw [(A10 t i h3 hi).1, (A10 t i h3 hi).2, (B10 t i h3 hi).1, (B10 t i h3 hi).2]
        exact ps t i hlg hi
      refine ⟨a', ma', b', mb', A2, B2, A3, B3, A4, B4, ?_, ⟨g', ?_, fun t i ht hi => ?_, fun p hp => ?_, ?_⟩, fun i => lt_g gA i⟩
      · rw [A16, B16]
        refine dCN_two (fun i hi => ⟨(l0 i hi).2, ?_, ?_, g' _ _ (by omega) (by omega)⟩)
        · exact (sh 0 i (by omega) (by omega) hi).2
        · exact (sh 0 i (by omega) (by omega) hi).1
      · rw [A14, B14, t2]
      · by_cases z : t = 0
        · rw [z, Nat.mul_zero, Nat.zero_add]
          exact l0 i hi
        · obtain ⟨t', rfl⟩ : ∃ t', t = t' + 1 := ⟨t - 1, by omega⟩
          exact sh t' i (by omega) (by omega) hi
      · rw [A15, B15]; exact od p hp
      · rcases wt with y | y
        · refine Or.inl (fun i hi => ?_)
          have I : i = o0 ∨ i = o1 := by omega
          rcases I with rfl | rfl
          · rw [A11, B11, um0, y _ ow.1]
          · rw [A12, B12, um1, y _ ow.2]
        · exact Or.inr (fun R hR R16 z => y R ((gA _ _ (by omega) (by omega)).symm.trans hR) R16 (WGH_g gA z))
    have n01 := pow_le4 (ndT_1 x0 p0) (ndT_1 x1 p1)
    have us : usT N ra ma = ndT x0 p0 + ndT x1 p1 ∧ usT N rb mb = ndT x0 p0 + ndT x1 p1 := by
      obtain ⟨a', ma', b', mb', A2, B2, _, _, A4, B4, _⟩ := both 0 (by omega)
      have n0 := ndT_1 x0 p0
      have n1 := ndT_1 x1 p1
      unfold usT
      rw [A2, B2, A4, B4, tnn _ (ndT x0 p0 + ndT x1 p1) rfl (by omega)]
      exact ⟨rfl, rfl⟩
    rw [TT_s, TT_s, us.1, us.2]
    refine S1_same _ (fun cd hcd => ?_)
    obtain ⟨a', ma', b', mb', A2, B2, A3, B3, _, _, dn, K', l'⟩ := both cd (by omega)
    have I := fun j => ih a' ma' b' mb' wa ra wb rb A3 B3 ⟨hl.1, fun i hi => by rw [l']; exact hl.2 i hi⟩ K' j
    rw [dn, A2, B2, I, I]
