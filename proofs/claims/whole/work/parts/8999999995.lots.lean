/-! two: all the lots of a tenth -/
theorem SPI_aim {N n lg L W r d : Nat} {wf : Int32} {c e m : DY} (hd : d < 9) (h : SPI N n lg L W wf r d c m) (hf : ∀ x y : Nat, ¬ (x = 130 + 12 * d ∧ y = 8) → x ≠ 130 + 12 * d + 8 → x ≠ 130 + 12 * d + 10 → gi e x y = gi c x y) (hl : ∀ x y : Nat, gl e x y = gl c x y) : SPI N n lg L W wf r d e m := by
  obtain ⟨h1, ⟨h2, h3⟩, ⟨h4, h5, h6⟩, h7, h8, h9, hM⟩ := h
  have g : ∀ x k : Nat, 95 ≤ x → x ≤ 111 → gi e x k = gi c x k := fun x k q1 q2 => hf x k (by omega) (by omega) (by omega)
  refine ⟨SR_aim h1 (fun x y _ a b d => hf x y a b d), ⟨(hf _ _ (by omega) (by omega) (by omega)).trans h2, ?_⟩, ⟨h4, h5, fun i hi => by rw [lt_g g]; exact h6 i hi⟩, fun z R q1 q2 q3 => h7 z R ((g _ _ (by omega) (by omega)).symm.trans q1) q2 (WGH_g g q3), (hf _ _ (by omega) (by omega) (by omega)).trans h8, fun i hi => ?_, MEMO_fr hM (fun x y q => hf x y (by omega) (by omega) (by omega)) (fun s => hl _ _)⟩
  · rw [hf 124 8 (by omega) (by omega) (by omega)]; exact h3
  · rw [hf _ _ (by omega) (by omega) (by omega)]; exact h9 i hi
theorem need_nd {N w i p : Nat} {c : DY} {x : Int32} (hG : CVg 95 105 w) (hi : i < 12) (p2 : p ≤ 2) (h1 : gi c (w + 8) i = x) (h2 : gi c (95 + 8) i = iz p) : F_X8_needsLot Z0.1 N w (iz i) c = some (iz (ndT x p : Nat), c) := by
  have pz : iz (p : Int) = 0 ↔ p = 0 := by
    rw [l_0, iz_inj (by omega) (by omega) (by omega) (by omega)]; omega
  rw [c_need N i c x (iz p) hG hi h1 h2]
  unfold ndT
  by_cases z : x = 4 ∨ (x = 3 ∧ p = 0)
  · rw [if_pos z, if_pos (by
      rcases z with y | y
      · exact Or.inl y
      · exact Or.inr ⟨y.1, pz.mpr y.2⟩)]
    rfl
  · rw [if_neg z, if_neg (fun y => z (by
      rcases y with y | y
      · exact Or.inl y
      · exact Or.inr ⟨y.1, pz.mp y.2⟩))]
    rfl
theorem lotsB_ok {N n lg L W r d k dep p0 p1 o0 o1 R : Nat} {wf x0 x1 : Int32} {wy : Nat → Int} {cc m : DY} (hN : 900 ≤ N) (hd : d < 8) (hrec : ∀ c m : DY, SPI N n lg L W wf r (d + 1) c m → ∃ c' : DY, F_X0_spread Z0.1 N dep 124 (iz ((d + 1 : Nat) : Int)) (iz k) c = some c' ∧ (∀ j : Nat, j < 10 → gi c' 126 (10 * (d + 1) + j) = iz (TT N r k m j : Nat)) ∧ MEMO N n lg L W wf c' ∧ FRS (d + 1) c c') (hS : SPI N n lg L W wf r d cc m) (hT : TLD cc (130 + 12 * d) L W R p0 p1 x0 x1 o0 o1 wy) (g0 : gi cc (130 + 12 * d + 8) 0 = x0) (g1 : gi cc (130 + 12 * d + 8) 1 = x1) (a : Nat) (ha : a ≤ ndT x0 p0) (A : Nat → Nat) (hA : ∀ j : Nat, j < 10 → gi cc 126 (10 * d + j) = iz (A j : Nat)) (K72) : ∃ cc' : DY, F_X0_spreadLots_82 Z0.1 N (F_X0_spread Z0.1 N dep) K72 N 124 (iz d) (iz ((k + 1 : Nat) : Int)) (130 + 12 * d) (130 + 12 * (d + 1)) (iz (ndT x0 p0 : Nat)) (iz (ndT x1 p1 : Nat)) (iz a) 0 cc = K72 124 (iz d) (iz ((k + 1 : Nat) : Int)) (130 + 12 * d) (130 + 12 * (d + 1)) (iz (ndT x0 p0 : Nat)) (iz (ndT x1 p1 : Nat)) (iz ((a + 1 : Nat) : Int)) cc' ∧ (∀ j : Nat, j < 10 → gi cc' 126 (10 * d + j) = iz ((A j + S1 (fun b => 4 / 2 ^ (ndT x0 p0 + ndT x1 p1) * shT (TT N r k (stT N r m (a + 2 ^ ndT x0 p0 * b))) (dnT N r m (a + 2 ^ ndT x0 p0 * b)) j) (ndT x1 p1 + 1) : Nat) : Int)) ∧ MEMO N n lg L W wf cc' ∧ FRL d cc cc' := by
  have nn1 := ndT_1 x1 p1
  obtain ⟨M, hM⟩ : ∃ M, N = M + 3 := ⟨N - 3, by omega⟩
  have go : ∀ (b q : Nat) (c : DY) (B : Nat → Nat), b + q = ndT x1 p1 + 1 → SPI N n lg L W wf r d c m → TLD c (130 + 12 * d) L W R p0 p1 x0 x1 o0 o1 wy → gi c (130 + 12 * d + 8) 0 = x0 → gi c (130 + 12 * d + 8) 1 = x1 → (∀ j : Nat, j < 10 → gi c 126 (10 * d + j) = iz ((B j + S1 (fun b => 4 / 2 ^ (ndT x0 p0 + ndT x1 p1) * shT (TT N r k (stT N r m (a + 2 ^ ndT x0 p0 * b))) (dnT N r m (a + 2 ^ ndT x0 p0 * b)) j) b : Nat) : Int)) → ∀ kk : Nat, q < kk → ∃ cc' : DY, F_X0_spreadLots_82 Z0.1 N (F_X0_spread Z0.1 N dep) K72 kk 124 (iz d) (iz ((k + 1 : Nat) : Int)) (130 + 12 * d) (130 + 12 * (d + 1)) (iz (ndT x0 p0 : Nat)) (iz (ndT x1 p1 : Nat)) (iz a) (iz b) c = K72 124 (iz d) (iz ((k + 1 : Nat) : Int)) (130 + 12 * d) (130 + 12 * (d + 1)) (iz (ndT x0 p0 : Nat)) (iz (ndT x1 p1 : Nat)) (iz ((a + 1 : Nat) : Int)) cc' ∧ (∀ j : Nat, j < 10 → gi cc' 126 (10 * d + j) = iz ((B j + S1 (fun b => 4 / 2 ^ (ndT x0 p0 + ndT x1 p1) * shT (TT N r k (stT N r m (a + 2 ^ ndT x0 p0 * b))) (dnT N r m (a + 2 ^ ndT x0 p0 * b)) j) (ndT x1 p1 + 1) : Nat) : Int)) ∧ MEMO N n lg L W wf cc' ∧ FRL d c cc' := by
    intro b q
    induction q generalizing b with
    | zero =>
      intro c B hb hS hT g0 g1 hA kk hk
      obtain ⟨kk, rfl⟩ : ∃ i, kk = i + 1 := ⟨kk - 1, by omega⟩
      obtain rfl : b = ndT x1 p1 + 1 := by omega
      refine ⟨c, ?_, hA, hS.2.2.2.2.2.2, ⟨fun _ _ _ _ _ _ => rfl, fun _ _ _ => rfl⟩⟩
      rw [F_X0_spreadLots_82_s, if_pos (show iz (ndT x1 p1 : Nat) < iz ((ndT x1 p1 + 1 : Nat) : Int) from iz_lti (by omega)), show iz (a : Int) + (1 : Int32) = iz ((a + 1 : Nat) : Int) from iz_add a 1]
    | succ q ih =>
      intro c B hb hS hT g0 g1 hA kk hk
      obtain ⟨kk, rfl⟩ : ∃ i, kk = i + 1 := ⟨kk - 1, by omega⟩
      obtain ⟨c1, e1, e2, e3, e4⟩ := child_ok hN hd hrec hS hT g0 g1 a b ha (by omega) _ hA K72 kk
      have S' := SPI_fr (by omega) hS e4 e3
      have gg : ∀ x k : Nat, 95 ≤ x → x ≤ 111 → gi c1 x k = gi c x k := fun x k q1 q2 => e4.1 x k (by omega) (by omega) (by omega) (by omega)
      have wk : ∀ x k : Nat, 130 + 12 * d ≤ x → x ≤ 130 + 12 * d + 11 → gi c1 x k = gi c x k := fun x k q1 q2 => e4.1 x k (by omega) (by omega) (by omega) (by omega)
      have T' := KQ_TLD (KQ_copy (blk_wid (fun x y q1 q2 _ _ => wk x y q1 q2)) gg) ⟨by omega, fun i hi => by have := (SR_hand hS.1 i hi).2.2; omega⟩ hT
      obtain ⟨c2, f1, f2, f3, f4⟩ := ih (b + 1) c1 B (by omega) S' T' ((wk _ _ (by omega) (by omega)).trans g0) ((wk _ _ (by omega) (by omega)).trans g1) (fun j hj => by
        rw [e2 j hj]
        exact congrArg (fun z : Nat => iz (z : Int)) (Nat.add_assoc _ _ _)) kk (by omega)
      exact ⟨c2, e1.trans f1, f2, f3, FRL_tr e4 f4⟩
  exact go 0 (ndT x1 p1 + 1) cc A (by omega) hS hT g0 g1 hA N (by omega)
theorem lots_ok {N n lg L W r d k dep : Nat} {wf : Int32} {c m : DY} (hN : 900 ≤ N) (hd : d < 8) (hrec : ∀ c m : DY, SPI N n lg L W wf r (d + 1) c m → ∃ c' : DY, F_X0_spread Z0.1 N dep 124 (iz ((d + 1 : Nat) : Int)) (iz k) c = some c' ∧ (∀ j : Nat, j < 10 → gi c' 126 (10 * (d + 1) + j) = iz (TT N r k m j : Nat)) ∧ MEMO N n lg L W wf c' ∧ FRS (d + 1) c c') (hS : SPI N n lg L W wf r d c m) (hA : ∀ j : Nat, j < 10 → gi c 126 (10 * d + j) = 0) : ∃ c' : DY, F_X0_spreadLots Z0.1 N (F_X0_spread Z0.1 N dep) 124 (iz d) (iz ((k + 1 : Nat) : Int)) c = some c' ∧ (∀ j : Nat, j < 10 → gi c' 126 (10 * d + j) = iz (TT N r (k + 1) m j : Nat)) ∧ MEMO N n lg L W wf c' ∧ FRS d c c' := by
  have n1 : ¬ (1 : Int32) = 0 := by decide
  have hG := cvg_d d (by omega)
  obtain ⟨R, R16, hR, hWh⟩ := SR_law hS.1
  obtain ⟨x0, u0, dd0, fr0, gl0, D0, z0, z05, ez0⟩ := SR_deed N (by omega) hS.1 hR R16 (i := 0) (by omega)
  obtain ⟨c1, hc1⟩ : ∃ c1 : DY, c1 = si u0 (130 + 12 * d + 8) 0 x0 := ⟨_, rfl⟩
  have o1 : ∀ x y : Nat, ¬ (x = 130 + 12 * d ∧ y = 8) → x ≠ 130 + 12 * d + 8 → x ≠ 130 + 12 * d + 10 → gi c1 x y = gi c x y := fun x y q1 q2 q3 => by rw [hc1, gi_si_if, if_neg (by omega), fr0 x y q1 q3]
  have l1 : ∀ x y : Nat, gl c1 x y = gl c x y := fun x y => by rw [hc1]; exact gl0 x y
  have S1' := SPI_aim (by omega) hS o1 l1
  have hR1 : gi c1 105 0 = iz R := (o1 _ _ (by omega) (by omega) (by omega)).trans hR
  obtain ⟨x1, u1, dd1, fr1, gl1, D1, z1, z15, ez1⟩ := SR_deed N (by omega) S1'.1 hR1 R16 (i := 1) (by omega)
  obtain ⟨c2, hc2⟩ : ∃ c2 : DY, c2 = si u1 (130 + 12 * d + 8) 1 x1 := ⟨_, rfl⟩
  have o2 : ∀ x y : Nat, ¬ (x = 130 + 12 * d ∧ y = 8) → x ≠ 130 + 12 * d + 8 → x ≠ 130 + 12 * d + 10 → gi c2 x y = gi c1 x y := fun x y q1 q2 q3 => by rw [hc2, gi_si_if, if_neg (by omega), fr1 x y q1 q3]
  have l2 : ∀ x y : Nat, gl c2 x y = gl c1 x y := fun x y => by rw [hc2]; exact gl1 x y
  have S2 := SPI_aim (by omega) S1' o2 l2
  have g0 : gi c2 (130 + 12 * d + 8) 0 = x0 := by rw [hc2, gi_si_if, if_neg (by omega), fr1 _ _ (by omega) (by omega), hc1, gi_si_if, if_pos ⟨rfl, rfl⟩]
  have g1 : gi c2 (130 + 12 * d + 8) 1 = x1 := by rw [hc2, gi_si_if, if_pos ⟨rfl, rfl⟩]
  obtain ⟨R1, R116, hR1', hWh1⟩ := SR_law S1'.1
  have eR : R1 = R := by
    have := hR1'.symm.trans hR1
    rw [iz_inj (by omega) (by omega) (by omega) (by omega)] at this
    omega
  subst eR
  obtain ⟨R2, R216, hR2, hWh2⟩ := SR_law S2.1
  have hR2' : gi c2 105 0 = iz R1 := (o2 _ _ (by omega) (by omega) (by omega)).trans hR1
  have eR2 : R2 = R1 := by
    have := hR2.symm.trans hR2'
    rw [iz_inj (by omega) (by omega) (by omega) (by omega)] at this
    omega
  subst eR2
  obtain ⟨⟨p0, p02, hp0⟩, ⟨w0, a0, b0⟩, _⟩ := SR_hand S2.1 0 (by omega)
  obtain ⟨⟨p1, p12, hp1⟩, ⟨w1, a1, b1⟩, _⟩ := SR_hand S2.1 1 (by omega)
  obtain ⟨q0, q1, ho, h0, h1⟩ := SR_order S2.1
  have E0 : DD c2 (130 + 12 * d) L W R2 0 x0 := DD_aim (by omega) (by omega) (by omega) (fun x y _ a b e => by rw [o2 x y (by omega) b e, o1 x y (by omega) b e]) hWh D0
  have E1 : DD c2 (130 + 12 * d) L W R2 1 x1 := DD_aim (by omega) (by omega) (by omega) (fun x y _ a b e => o2 x y (by omega) b e) hWh1 D1
  have hT : TLD c2 (130 + 12 * d) L W R2 p0 p1 x0 x1 q0 q1 (fun i => if i = 0 then w0 else w1) := ⟨⟨hR2, R16⟩, hWh2, ⟨hp0, hp1, p02, p12⟩, ⟨E0, E1⟩, ⟨z0, z1, z05, z15, ez0, ez1⟩, ⟨ho, h0, h1⟩, fun i hi => by
    have I : i = 0 ∨ i = 1 := by omega
    rcases I with rfl | rfl
    · exact ⟨a0, b0⟩
    · exact ⟨a1, b1⟩⟩
  have nd0 := need_nd (N := N) hG (i := 0) (by omega) p02 g0 hp0
  have nd1 := need_nd (N := N) hG (i := 1) (by omega) p12 g1 hp1
  have nn0 := ndT_1 x0 p0
  have nn1 := ndT_1 x1 p1
  -- the lots used
  have us : usT N r m = ndT x0 p0 + ndT x1 p1 := by
    obtain ⟨s, a', ma', m0, m1, X0, Y0, X1, Y1, A1, A2, A3, A4, _⟩ := told_of N 0 (by omega) S2.1 hR2 R16 hWh2 hp0 hp1 p02 p12 E0 E1 z0 z1 z05 z15 ez0 ez1 (by omega) (si (si c2 (130 + 12 * d + 8) 0 (aimT x0 p0 (0 % 2))) (130 + 12 * d + 8) 1 (aimT x1 p1 (0 / 2 ^ ndT x0 p0 % 2))) (fun x k _ _ h8 _ => by rw [gi_si_if, if_neg (by omega), gi_si_if, if_neg (by omega)]) (by rw [gi_si_if, if_neg (by omega), gi_si_if, if_pos ⟨rfl, rfl⟩]) (by rw [gi_si_if, if_pos ⟨rfl, rfl⟩]) q0 q1 ho h0 h1 (fun i => if i = 0 then w0 else w1) hT.2.2.2.2.2.2
    unfold usT
    rw [A2, A4, tnn _ (ndT x0 p0 + ndT x1 p1) rfl (by omega)]
  -- the head
  have hd9 : ib (iz (d : Int)) 9 := iz_ib (by omega)
  have F : F_X0_spreadLots Z0.1 N (F_X0_spread Z0.1 N dep) 124 (iz d) (iz ((k + 1 : Nat) : Int)) c = F_X0_spreadLots_72 Z0.1 N (F_X0_spread Z0.1 N dep) N 124 (iz d) (iz ((k + 1 : Nat) : Int)) (130 + 12 * d) (130 + 12 * (d + 1)) (iz (ndT x0 p0 : Nat)) (iz (ndT x1 p1 : Nat)) 0 c2 := by
    have H := F_X0_spreadLots_s Z0.1 N (F_X0_spread Z0.1 N dep) 124 (iz d) (iz ((k + 1 : Nat) : Int)) c
    rw [if_pos hd9, show iz (d : Int) + (1 : Int32) = iz ((d + 1 : Nat) : Int) from iz_add d 1, if_pos (show ib (iz ((d + 1 : Nat) : Int)) 9 from iz_ib (by omega)), r_124_2, tnn _ d rfl (by omega), tnn _ (d + 1) rfl (by omega), w_d d (by omega), w_d (d + 1) (by omega), cv_w8 hG] at H
    have H2 := H.trans (bnd dd0 rfl)
    rw [if_pos (by decide), bd_eq, show (0 : Int32).toNatClampNeg = 0 from rfl] at H2
    have dd1' : F_X8_deed Z0.1 N (130 + 12 * d) 1 (si u0 (130 + 12 * d + 8) 0 x0) = some (x1, u1) := by rw [← hc1]; exact dd1
    have H3 := H2.trans (bnd dd1' rfl)
    rw [if_pos (by decide), bd_eq, show (1 : Int32).toNatClampNeg = 1 from rfl] at H3
    have nd0' : F_X8_needsLot Z0.1 N (130 + 12 * d) 0 (si u1 (130 + 12 * d + 8) 1 x1) = some (iz (ndT x0 p0 : Nat), si u1 (130 + 12 * d + 8) 1 x1) := by rw [← hc2]; exact nd0
    have H4 := H3.trans (bnd nd0' rfl)
    rw [← hc2] at H4
    have e52 : ∀ y : Nat, F_X0_spreadLots_52 Z0.1 N (F_X0_spread Z0.1 N dep) 124 (iz d) (iz ((k + 1 : Nat) : Int)) (130 + 12 * d) (130 + 12 * (d + 1)) (iz (y : Int)) c2 = F_X0_spreadLots_72 Z0.1 N (F_X0_spread Z0.1 N dep) N 124 (iz d) (iz ((k + 1 : Nat) : Int)) (130 + 12 * d) (130 + 12 * (d + 1)) (iz (y : Int)) (iz (ndT x1 p1 : Nat)) 0 c2 := fun y => by
      rw [F_X0_spreadLots_52_s]
      refine bnd nd1 ?_
      have E : ndT x1 p1 = 0 ∨ ndT x1 p1 = 1 := by omega
      rcases E with e | e
      · rw [e]; exact if_pos rfl
      · rw [e]; exact if_neg (show ¬ iz ((1 : Nat) : Int) = 0 by decide)
    rw [H4]
    have E : ndT x0 p0 = 0 ∨ ndT x0 p0 = 1 := by omega
    rcases E with e | e
    · rw [e]; exact (if_pos rfl).trans (e52 0)
    · rw [e]; exact (if_neg (show ¬ iz ((1 : Nat) : Int) = 0 by decide)).trans (e52 1)
  have A2 : ∀ j : Nat, j < 10 → gi c2 126 (10 * d + j) = iz ((0 : Nat) : Int) := fun j hj => by
    rw [o2 _ _ (by omega) (by omega) (by omega), o1 _ _ (by omega) (by omega) (by omega), hA j hj]
    rfl
  obtain ⟨M, hM⟩ : ∃ M, N = M + 3 := ⟨N - 3, by omega⟩
  have fin : ∀ (c' : DY), FRL d c2 c' → MEMO N n lg L W wf c' → F_X0_spreadLots_72 Z0.1 N (F_X0_spread Z0.1 N dep) N 124 (iz d) (iz ((k + 1 : Nat) : Int)) (130 + 12 * d) (130 + 12 * (d + 1)) (iz (ndT x0 p0 : Nat)) (iz (ndT x1 p1 : Nat)) 0 c2 = some c' → (∀ j : Nat, j < 10 → gi c' 126 (10 * d + j) = iz (TT N r (k + 1) m j : Nat)) → ∃ c' : DY, F_X0_spreadLots Z0.1 N (F_X0_spread Z0.1 N dep) 124 (iz d) (iz ((k + 1 : Nat) : Int)) c = some c' ∧ (∀ j : Nat, j < 10 → gi c' 126 (10 * d + j) = iz (TT N r (k + 1) m j : Nat)) ∧ MEMO N n lg L W wf c' ∧ FRS d c c' := fun c' f1 f2 f3 f4 => by
    refine ⟨c', F.trans f3, f4, f2, fun x y q1 q2 q3 q4 q5 q6 q7 => ?_, fun x y q1 => ?_⟩
    · rw [f1.1 x y q1 q2 q3 q7, o2 x y q4 q5 q6, o1 x y q4 q5 q6]
    · rw [f1.2 x y q1, l2, l1]
  have e72 : ∀ (kk a : Nat) (c : DY), a ≤ ndT x0 p0 → F_X0_spreadLots_72 Z0.1 N (F_X0_spread Z0.1 N dep) (kk + 1) 124 (iz d) (iz ((k + 1 : Nat) : Int)) (130 + 12 * d) (130 + 12 * (d + 1)) (iz (ndT x0 p0 : Nat)) (iz (ndT x1 p1 : Nat)) (iz a) c = F_X0_spreadLots_82 Z0.1 N (F_X0_spread Z0.1 N dep) (F_X0_spreadLots_72 Z0.1 N (F_X0_spread Z0.1 N dep) kk) N 124 (iz d) (iz ((k + 1 : Nat) : Int)) (130 + 12 * d) (130 + 12 * (d + 1)) (iz (ndT x0 p0 : Nat)) (iz (ndT x1 p1 : Nat)) (iz a) 0 c := fun kk a c ha => by
    rw [F_X0_spreadLots_72_s, if_neg (show ¬ iz (ndT x0 p0 : Nat) < iz (a : Int) from iz_nlt (by omega))]
  have e72z : ∀ (kk a : Nat) (c : DY), a = ndT x0 p0 + 1 → F_X0_spreadLots_72 Z0.1 N (F_X0_spread Z0.1 N dep) (kk + 1) 124 (iz d) (iz ((k + 1 : Nat) : Int)) (130 + 12 * d) (130 + 12 * (d + 1)) (iz (ndT x0 p0 : Nat)) (iz (ndT x1 p1 : Nat)) (iz a) c = some c := fun kk a c ha => by
    rw [F_X0_spreadLots_72_s, if_pos (show iz (ndT x0 p0 : Nat) < iz (a : Int) from iz_lti (by omega))]
  have eN : ∀ c : DY, F_X0_spreadLots_72 Z0.1 N (F_X0_spread Z0.1 N dep) N 124 (iz d) (iz ((k + 1 : Nat) : Int)) (130 + 12 * d) (130 + 12 * (d + 1)) (iz (ndT x0 p0 : Nat)) (iz (ndT x1 p1 : Nat)) 0 c = F_X0_spreadLots_72 Z0.1 N (F_X0_spread Z0.1 N dep) (M + 2 + 1) 124 (iz d) (iz ((k + 1 : Nat) : Int)) (130 + 12 * d) (130 + 12 * (d + 1)) (iz (ndT x0 p0 : Nat)) (iz (ndT x1 p1 : Nat)) (iz ((0 : Nat) : Int)) c := fun c => by
    rw [show M + 2 + 1 = N by omega]
    rfl
  obtain ⟨c3, f1, f2, f3, f4⟩ := lotsB_ok hN hd hrec S2 hT g0 g1 0 (by omega) (fun _ => 0) A2 (F_X0_spreadLots_72 Z0.1 N (F_X0_spread Z0.1 N dep) (M + 2))
  have hTT : ∀ j : Nat, TT N r (k + 1) m j = S1 (fun cd => 4 / 2 ^ (ndT x0 p0 + ndT x1 p1) * shT (TT N r k (stT N r m cd)) (dnT N r m cd) j) (2 ^ (ndT x0 p0 + ndT x1 p1)) := fun j => by
    rw [TT_s, us]
    rfl
  have E0' : ndT x0 p0 = 0 ∨ ndT x0 p0 = 1 := by omega
  have E1' : ndT x1 p1 = 0 ∨ ndT x1 p1 = 1 := by omega
  rcases E0' with e | e
  · refine fin c3 f4 f3 ((eN c2).trans ((e72 _ 0 c2 (by omega)).trans (f1.trans (e72z (M + 1) _ c3 (by omega))))) (fun j hj => ?_)
    rw [f2 j hj, hTT]
    refine congrArg (fun z : Nat => iz (z : Int)) ?_
    have gen0 : ∀ v : Nat → Nat, 0 + S1 (fun b => v (0 + 2 ^ 0 * b)) (0 + 1) = S1 v (2 ^ (0 + 0)) := fun v => by
      show 0 + (0 + v 0) = 0 + v 0
      omega
    have gen1 : ∀ v : Nat → Nat, 0 + S1 (fun b => v (0 + 2 ^ 0 * b)) (1 + 1) = S1 v (2 ^ (0 + 1)) := fun v => by
      show 0 + (0 + v 0 + v 1) = 0 + v 0 + v 1
      omega
    rcases E1' with e' | e'
    · rw [e, e']
      exact gen0 (fun cd => 4 / 2 ^ (0 + 0) * shT (TT N r k (stT N r m cd)) (dnT N r m cd) j)
    · rw [e, e']
      exact gen1 (fun cd => 4 / 2 ^ (0 + 1) * shT (TT N r k (stT N r m cd)) (dnT N r m cd) j)
  · have S3 := SPI_fr (by omega) S2 f4 f3
    have gg : ∀ x k : Nat, 95 ≤ x → x ≤ 111 → gi c3 x k = gi c2 x k := fun x k q1 q2 => f4.1 x k (by omega) (by omega) (by omega) (by omega)
    have wk : ∀ x k : Nat, 130 + 12 * d ≤ x → x ≤ 130 + 12 * d + 11 → gi c3 x k = gi c2 x k := fun x k q1 q2 => f4.1 x k (by omega) (by omega) (by omega) (by omega)
    have T3 := KQ_TLD (KQ_copy (blk_wid (fun x y q1 q2 _ _ => wk x y q1 q2)) gg) ⟨by omega, fun i hi => by have := (SR_hand S2.1 i hi).2.2; omega⟩ hT
    obtain ⟨c4, h1', h2', h3', h4'⟩ := lotsB_ok hN hd hrec S3 T3 ((wk _ _ (by omega) (by omega)).trans g0) ((wk _ _ (by omega) (by omega)).trans g1) 1 (by omega) _ f2 (F_X0_spreadLots_72 Z0.1 N (F_X0_spread Z0.1 N dep) (M + 1))
    refine fin c4 (FRL_tr f4 h4') h3' ((eN c2).trans ((e72 _ 0 c2 (by omega)).trans (f1.trans ((e72 (M + 1) 1 c3 (by omega)).trans (h1'.trans (e72z M _ c4 (by omega))))))) (fun j hj => ?_)
    rw [h2' j hj, hTT]
    refine congrArg (fun z : Nat => iz (z : Int)) ?_
    have gen0 : ∀ v : Nat → Nat, 0 + S1 (fun b => v (0 + 2 ^ 1 * b)) (0 + 1) + S1 (fun b => v (1 + 2 ^ 1 * b)) (0 + 1) = S1 v (2 ^ (1 + 0)) := fun v => by
      show 0 + (0 + v 0) + (0 + v 1) = 0 + v 0 + v 1
      omega
    have gen1 : ∀ v : Nat → Nat, 0 + S1 (fun b => v (0 + 2 ^ 1 * b)) (1 + 1) + S1 (fun b => v (1 + 2 ^ 1 * b)) (1 + 1) = S1 v (2 ^ (1 + 1)) := fun v => by
      show 0 + (0 + v 0 + v 2) + (0 + v 1 + v 3) = 0 + v 0 + v 1 + v 2 + v 3
      omega
    rcases E1' with e' | e'
    · rw [e, e']
      exact gen0 (fun cd => 4 / 2 ^ (1 + 0) * shT (TT N r k (stT N r m cd)) (dnT N r m cd) j)
    · rw [e, e']
      exact gen1 (fun cd => 4 / 2 ^ (1 + 1) * shT (TT N r k (stT N r m cd)) (dnT N r m cd) j)
