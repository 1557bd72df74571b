/-! two: one lot of a tenth -/
def SPI (N n lg L W : Nat) (wf : Int32) (r d : Nat) (c m : DY) : Prop := SR c m (130 + 12 * d) r L W ∧ (gi c 124 7 = iz lg ∧ nr 3 (gi c 124 8) = wf) ∧ (1 ≤ lg ∧ lg ≤ 4 ∧ ∀ i : Nat, i < 2 → lt c 95 i < lg) ∧ (wf = 0 → ∀ R : Nat, gi c 105 0 = iz R → R ≤ 16 → ¬ WGH c 105 R) ∧ gi c (130 + 12 * d) 2 = iz d ∧ WT16 c (130 + 12 * d) d ∧ MEMO N n lg L W wf c
def FRS (d : Nat) (c e : DY) : Prop := (∀ x y : Nat, ¬ (x = 126 ∧ 10 * d ≤ y) → x ≠ 128 → x ≠ 129 → ¬ (x = 130 + 12 * d ∧ y = 8) → x ≠ 130 + 12 * d + 8 → x ≠ 130 + 12 * d + 10 → ¬ (130 + 12 * d + 12 ≤ x ∧ x ≤ 237) → gi e x y = gi c x y) ∧ ∀ x y : Nat, x ≠ 127 → gl e x y = gl c x y
def FRL (d : Nat) (c e : DY) : Prop := (∀ x y : Nat, ¬ (x = 126 ∧ 10 * d ≤ y) → x ≠ 128 → x ≠ 129 → ¬ (130 + 12 * d + 12 ≤ x ∧ x ≤ 237) → gi e x y = gi c x y) ∧ ∀ x y : Nat, x ≠ 127 → gl e x y = gl c x y
theorem FRL_tr {d : Nat} {a b c : DY} (h : FRL d a b) (k : FRL d b c) : FRL d a c := ⟨fun x y h1 h2 h3 h4 => (k.1 x y h1 h2 h3 h4).trans (h.1 x y h1 h2 h3 h4), fun x y h1 => (k.2 x y h1).trans (h.2 x y h1)⟩
theorem blk_wid {c e : DY} {w : Nat} (h : ∀ x y : Nat, w ≤ x → x ≤ w + 11 → x ≠ w + 10 → ¬ (x = w ∧ y = 8) → gi e x y = gi c x y) : blk wF wC w w c e := by
  have h1 : ∀ f ∈ wF, f ≠ 8 := by decide
  have h2 : ∀ p ∈ wC, p.1 ≤ 11 ∧ 1 ≤ p.1 ∧ p.1 ≠ 10 := by decide
  refine ⟨fun f hf => h w f (by omega) (by omega) (by omega) (by have := h1 f hf; omega), fun p hp k hk => ?_⟩
  have := h2 p hp
  exact h _ k (by omega) (by omega) (by omega) (by omega)
theorem SPI_fr {N n lg L W r d : Nat} {wf : Int32} {c e m : DY} (hd : d < 9) (h : SPI N n lg L W wf r d c m) (hf : FRL d c e) (hM : MEMO N n lg L W wf e) : SPI N n lg L W wf r d e m := by
  obtain ⟨h1, ⟨h2, h3⟩, ⟨h4, h5, h6⟩, h7, h8, h9, _⟩ := h
  have g : ∀ x k : Nat, 95 ≤ x → x ≤ 111 → gi e x k = gi c x k := fun x k q1 q2 => hf.1 x k (by omega) (by omega) (by omega) (by omega)
  have wk : ∀ x k : Nat, 130 + 12 * d ≤ x → x ≤ 130 + 12 * d + 11 → gi e x k = gi c x k := fun x k q1 q2 => hf.1 x k (by omega) (by omega) (by omega) (by omega)
  refine ⟨SR_copy h1 (cvg_d d hd) (by omega) (blk_wid (fun x y q1 q2 _ _ => wk x y q1 q2)) g, ⟨(hf.1 _ _ (by omega) (by omega) (by omega) (by omega)).trans h2, ?_⟩, ⟨h4, h5, fun i hi => by rw [lt_g g]; exact h6 i hi⟩, fun z R q1 q2 q3 => h7 z R ((g _ _ (by omega) (by omega)).symm.trans q1) q2 (WGH_g g q3), (wk _ _ (by omega) (by omega)).trans h8, fun i hi => ?_, hM⟩
  · rw [hf.1 124 8 (by omega) (by omega) (by omega) (by omega)]; exact h3
  · rw [wk _ _ (by omega) (by omega)]; exact h9 i hi
theorem child_ok {N n lg L W r d k dep p0 p1 o0 o1 R : Nat} {wf x0 x1 : Int32} {wy : Nat → Int} {cc m : DY} (hN : 900 ≤ N) (hd : d < 8) (hrec : ∀ c m : DY, SPI N n lg L W wf r (d + 1) c m → ∃ c' : DY, F_X0_spread Z0.1 N dep 124 (iz ((d + 1 : Nat) : Int)) (iz k) c = some c' ∧ (∀ j : Nat, j < 10 → gi c' 126 (10 * (d + 1) + j) = iz (TT N r k m j : Nat)) ∧ MEMO N n lg L W wf c' ∧ FRS (d + 1) c c') (hS : SPI N n lg L W wf r d cc m) (hT : TLD cc (130 + 12 * d) L W R p0 p1 x0 x1 o0 o1 wy) (g0 : gi cc (130 + 12 * d + 8) 0 = x0) (g1 : gi cc (130 + 12 * d + 8) 1 = x1) (a b : Nat) (ha : a ≤ ndT x0 p0) (hb : b ≤ ndT x1 p1) (A : Nat → Nat) (hA : ∀ j : Nat, j < 10 → gi cc 126 (10 * d + j) = iz (A j : Nat)) (K72) (kk : Nat) : ∃ cc' : DY, F_X0_spreadLots_82 Z0.1 N (F_X0_spread Z0.1 N dep) K72 (kk + 1) 124 (iz d) (iz ((k + 1 : Nat) : Int)) (130 + 12 * d) (130 + 12 * (d + 1)) (iz (ndT x0 p0 : Nat)) (iz (ndT x1 p1 : Nat)) (iz a) (iz b) cc = F_X0_spreadLots_82 Z0.1 N (F_X0_spread Z0.1 N dep) K72 kk 124 (iz d) (iz ((k + 1 : Nat) : Int)) (130 + 12 * d) (130 + 12 * (d + 1)) (iz (ndT x0 p0 : Nat)) (iz (ndT x1 p1 : Nat)) (iz a) (iz ((b + 1 : Nat) : Int)) cc' ∧ (∀ j : Nat, j < 10 → gi cc' 126 (10 * d + j) = iz ((A j + 4 / 2 ^ (ndT x0 p0 + ndT x1 p1) * shT (TT N r k (stT N r m (a + 2 ^ ndT x0 p0 * b))) (dnT N r m (a + 2 ^ ndT x0 p0 * b)) j : Nat) : Int)) ∧ MEMO N n lg L W wf cc' ∧ FRL d cc cc' := by
  obtain ⟨h1, ⟨h2, h3⟩, ⟨h4, h5, h6⟩, h7, h8, h9, hM⟩ := id hS
  have nn0 := ndT_1 x0 p0
  have nn1 := ndT_1 x1 p1
  have hG := cvg_d d (by omega)
  have hG' := cvg_d (d + 1) (by omega)
  -- the copy
  obtain ⟨c1, e1, b1, f1⟩ := c_wcopy N (130 + 12 * d) (130 + 12 * (d + 1)) cc hG.2.2.1 hG'.2.2.1 (by omega)
  have gg : ∀ x y : Nat, 95 ≤ x → x ≤ 111 → gi c1 x y = gi cc x y := fun x y q1 q2 => f1.1 x y (by omega)
  have S1 := SR_copy h1 hG' (by omega) b1 gg
  have T1 := KQ_TLD (KQ_copy b1 gg) ⟨by omega, fun i hi => by have := (SR_hand h1 i hi).2.2; omega⟩ hT
  have am0 : gi c1 (130 + 12 * (d + 1) + 8) 0 = x0 := (b1.2 (8, 12) (wC_12 8 (by omega) (by omega)) 0 (by omega)).trans g0
  have am1 : gi c1 (130 + 12 * (d + 1) + 8) 1 = x1 := (b1.2 (8, 12) (wC_12 8 (by omega) (by omega)) 1 (by omega)).trans g1
  have w8 : gr Z0.1 (130 + 12 * (d + 1)) 16 = 130 + 12 * (d + 1) + 8 := cv_w8 hG'
  -- the aims
  obtain ⟨c2, a1, a2, a3, a4, a5⟩ : ∃ c2 : DY, F_X0_spreadLots_82 Z0.1 N (F_X0_spread Z0.1 N dep) K72 (kk + 1) 124 (iz d) (iz ((k + 1 : Nat) : Int)) (130 + 12 * d) (130 + 12 * (d + 1)) (iz (ndT x0 p0 : Nat)) (iz (ndT x1 p1 : Nat)) (iz a) (iz b) cc = F_X0_spreadLots_141 Z0.1 N (F_X0_spread Z0.1 N dep) (F_X0_spreadLots_82 Z0.1 N (F_X0_spread Z0.1 N dep) K72 kk) 124 (iz d) (iz ((k + 1 : Nat) : Int)) (130 + 12 * d) (130 + 12 * (d + 1)) (iz (ndT x0 p0 : Nat)) (iz (ndT x1 p1 : Nat)) (iz a) (iz b) c2 ∧ gi c2 (130 + 12 * (d + 1) + 8) 0 = aimT x0 p0 ((a + 2 ^ ndT x0 p0 * b) % 2) ∧ gi c2 (130 + 12 * (d + 1) + 8) 1 = aimT x1 p1 ((a + 2 ^ ndT x0 p0 * b) / 2 ^ ndT x0 p0 % 2) ∧ (∀ x y : Nat, x ≠ 130 + 12 * (d + 1) + 8 → gi c2 x y = gi c1 x y) ∧ ∀ x y : Nat, gl c2 x y = gl c1 x y := by
    have F := F_X0_spreadLots_82_s Z0.1 N (F_X0_spread Z0.1 N dep) K72 kk 124 (iz d) (iz ((k + 1 : Nat) : Int)) (130 + 12 * d) (130 + 12 * (d + 1)) (iz (ndT x0 p0 : Nat)) (iz (ndT x1 p1 : Nat)) (iz a) (iz b) cc
    rw [if_neg (show ¬ iz (ndT x1 p1 : Nat) < iz (b : Int) from iz_nlt (by omega)), e1, sb_eq, w8] at F
    -- first
    have one : ∃ c2 : DY, F_X0_spreadLots_82 Z0.1 N (F_X0_spread Z0.1 N dep) K72 (kk + 1) 124 (iz d) (iz ((k + 1 : Nat) : Int)) (130 + 12 * d) (130 + 12 * (d + 1)) (iz (ndT x0 p0 : Nat)) (iz (ndT x1 p1 : Nat)) (iz a) (iz b) cc = F_X0_spreadLots_118 Z0.1 N (F_X0_spread Z0.1 N dep) (F_X0_spreadLots_82 Z0.1 N (F_X0_spread Z0.1 N dep) K72 kk) 124 (iz d) (iz ((k + 1 : Nat) : Int)) (130 + 12 * d) (130 + 12 * (d + 1)) (iz (ndT x0 p0 : Nat)) (iz (ndT x1 p1 : Nat)) (iz a) (iz b) c2 ∧ gi c2 (130 + 12 * (d + 1) + 8) 0 = aimT x0 p0 ((a + 2 ^ ndT x0 p0 * b) % 2) ∧ (∀ x y : Nat, ¬ (x = 130 + 12 * (d + 1) + 8 ∧ y = 0) → gi c2 x y = gi c1 x y) ∧ ∀ x y : Nat, gl c2 x y = gl c1 x y := by
      by_cases z : x0 = 4 ∨ (x0 = 3 ∧ p0 = 0)
      · have e : ndT x0 p0 = 1 := if_pos z
        rw [e] at F ha ⊢
        have A01 : a = 0 ∨ a = 1 := by omega
        rw [if_pos (show iz ((1 : Nat) : Int) = 1 from rfl)] at F
        rcases A01 with rfl | rfl
        · rw [if_pos (show iz ((0 : Nat) : Int) = 0 from rfl), F_X0_spreadLots_117_s, if_pos (by decide), bd_eq, show (0 : Int32).toNatClampNeg = 0 from rfl] at F
          refine ⟨_, F, ?_, fun x y q => by rw [gi_si_if, if_neg q], fun _ _ => rfl⟩
          rw [gi_si_if, if_pos ⟨rfl, rfl⟩]
          unfold aimT
          rw [if_pos z, if_pos (by omega)]
        · rw [if_neg (show ¬ iz ((1 : Nat) : Int) = 0 by decide), F_X0_spreadLots_117_s, if_pos (by decide), bd_eq, show (0 : Int32).toNatClampNeg = 0 from rfl] at F
          refine ⟨_, F, ?_, fun x y q => by rw [gi_si_if, if_neg q], fun _ _ => rfl⟩
          rw [gi_si_if, if_pos ⟨rfl, rfl⟩]
          unfold aimT
          rw [if_pos z, if_neg (by omega)]
      · have e : ndT x0 p0 = 0 := if_neg z
        rw [e] at F ⊢
        rw [if_neg (show ¬ iz ((0 : Nat) : Int) = 1 by decide)] at F
        refine ⟨c1, F, ?_, fun _ _ _ => rfl, fun _ _ => rfl⟩
        unfold aimT
        rw [if_neg z]
        exact am0
    obtain ⟨c2, q1, q2, q3, q4⟩ := one
    have G := q1.trans (F_X0_spreadLots_118_s Z0.1 N (F_X0_spread Z0.1 N dep) (F_X0_spreadLots_82 Z0.1 N (F_X0_spread Z0.1 N dep) K72 kk) 124 (iz d) (iz ((k + 1 : Nat) : Int)) (130 + 12 * d) (130 + 12 * (d + 1)) (iz (ndT x0 p0 : Nat)) (iz (ndT x1 p1 : Nat)) (iz a) (iz b) c2)
    have dv : (a + 2 ^ ndT x0 p0 * b) / 2 ^ ndT x0 p0 = b := by
      have E : ndT x0 p0 = 0 ∨ ndT x0 p0 = 1 := by omega
      rcases E with e | e
      · rw [e] at ha ⊢
        rw [Nat.pow_zero, Nat.div_one]
        omega
      · rw [e] at ha ⊢
        rw [Nat.pow_one]
        omega
    rw [w8] at G
    rw [dv]
    by_cases z : x1 = 4 ∨ (x1 = 3 ∧ p1 = 0)
    · have e : ndT x1 p1 = 1 := if_pos z
      rw [e] at G hb ⊢
      rw [if_pos (show iz ((1 : Nat) : Int) = 1 from rfl)] at G
      have B01 : b = 0 ∨ b = 1 := by omega
      rcases B01 with rfl | rfl
      · rw [if_pos (show iz ((0 : Nat) : Int) = 0 from rfl), F_X0_spreadLots_140_s, if_pos (by decide), bd_eq, show (1 : Int32).toNatClampNeg = 1 from rfl] at G
        refine ⟨_, G, by rw [gi_si_if, if_neg (by omega)]; exact q2, ?_, fun x y q => by rw [gi_si_if, if_neg (by omega), q3 x y (by omega)], fun x y => q4 x y⟩
        rw [gi_si_if, if_pos ⟨rfl, rfl⟩]
        unfold aimT
        rw [if_pos z, if_pos (by omega)]
      · rw [if_neg (show ¬ iz ((1 : Nat) : Int) = 0 by decide), F_X0_spreadLots_140_s, if_pos (by decide), bd_eq, show (1 : Int32).toNatClampNeg = 1 from rfl] at G
        refine ⟨_, G, by rw [gi_si_if, if_neg (by omega)]; exact q2, ?_, fun x y q => by rw [gi_si_if, if_neg (by omega), q3 x y (by omega)], fun x y => q4 x y⟩
        rw [gi_si_if, if_pos ⟨rfl, rfl⟩]
        unfold aimT
        rw [if_pos z, if_neg (by omega)]
    · have e : ndT x1 p1 = 0 := if_neg z
      rw [e] at G ⊢
      rw [if_neg (show ¬ iz ((0 : Nat) : Int) = 1 by decide)] at G
      refine ⟨c2, G, q2, ?_, fun x y q => q3 x y (by omega), q4⟩
      unfold aimT
      rw [if_neg z, q3 _ _ (by omega)]
      exact am1
  have cd4 : a + 2 ^ ndT x0 p0 * b < 4 := by
    have E : ndT x0 p0 = 0 ∨ ndT x0 p0 = 1 := by omega
    rcases E with e | e
    · rw [e, Nat.pow_zero] at *
      omega
    · rw [e, Nat.pow_one] at *
      omega
  generalize hcd : a + 2 ^ ndT x0 p0 * b = cd at a2 a3 cd4 ⊢
  -- the tenth
  obtain ⟨⟨t1, R16⟩, hWh, ⟨t2, t3, t4, t5⟩, ⟨d0, d1⟩, ⟨z0, z1, z05, z15, ez0, ez1⟩, ⟨y1, y2, y3⟩, hw⟩ := T1
  obtain ⟨s, c3, m3, m0, m1, X0, Y0, X1, Y1, M1, M2, M3, M4, M5, M6, M7, M8, M9, M10, M11, M12, M13, M14, M15, M16, _, _⟩ := told_of N cd (by omega) S1 t1 R16 hWh t2 t3 t4 t5 d0 d1 z0 z1 z05 z15 ez0 ez1 cd4 c2 (fun x y _ _ q _ => a4 x y q) a2 a3 o0 o1 y1 y2 y3 wy hw
  have c3o : ∀ x y : Nat, (x < 130 + 12 * (d + 1) ∨ 130 + 12 * (d + 1) + 11 < x) → gi c3 x y = gi cc x y := fun x y q => by
    rw [M5.1 x y (by omega) (by omega), a4 x y (by omega), f1.1 x y (by omega)]
  have g3 : ∀ x y : Nat, 95 ≤ x → x ≤ 111 → gi c3 x y = gi cc x y := fun x y q1 q2 => c3o x y (by omega)
  have l3 : ∀ x y : Nat, gl c3 x y = gl cc x y := fun x y => by rw [M5.2, a5, f1.2]
  have S3 : SPI N n lg L W wf r (d + 1) c3 m3 := by
    refine ⟨M3, ⟨(c3o _ _ (by omega)).trans h2, by rw [c3o _ _ (by omega)]; exact h3⟩, ⟨h4, h5, fun i hi => by rw [lt_g g3]; exact h6 i hi⟩, fun z R q1 q2 q3 => h7 z R ((g3 _ _ (by omega) (by omega)).symm.trans q1) q2 (WGH_g g3 q3), ?_, fun i hi => ?_, MEMO_fr hM (fun x y q => c3o x y (by omega)) (fun s => l3 _ _)⟩
    · rw [M14, b1.1 2 (wF_in 2 (by omega) (by omega)), h8]
      exact iz_add d 1
    · obtain ⟨v, v1, v2⟩ := h9 i hi
      have v3 : gi c1 (130 + 12 * (d + 1) + 7) i = iz v := (b1.2 (7, 12) (wC_12 7 (by omega) (by omega)) i (by omega)).trans v2
      have wv : wtI (iz v) = iz ((v + 1 : Nat) : Int) := by
        unfold wtI
        rw [show iz (v : Int) + 1 = iz ((v + 1 : Nat) : Int) from iz_add v 1, if_pos (show iz ((v + 1 : Nat) : Int) < 99 from iz_lti (b := 99) (by omega))]
      have I : i = o0 ∨ i = o1 := by omega
      have cas : ∀ mv : Nat, ∃ v' : Nat, v' ≤ d + 1 ∧ (if mv = 1 then (0 : Int32) else wtI (iz v)) = iz v' := fun mv => by
        by_cases z : mv = 1
        · rw [if_pos z]; exact ⟨0, by omega, rfl⟩
        · rw [if_neg z]; exact ⟨v + 1, by omega, wv⟩
      rcases I with rfl | rfl
      · rw [M11, v3]; exact cas m0
      · rw [M12, v3]; exact cas m1
  obtain ⟨c4, r1, r2, r3, r4⟩ := hrec c3 m3 S3
  -- the row is added
  have p4 : ∀ j : Nat, j < 10 → gi c4 126 (10 * d + j) = iz (A j : Nat) := fun j hj => by
    rw [r4.1 126 _ (by omega) (by omega) (by omega) (by omega) (by omega) (by omega) (by omega), c3o _ _ (by omega)]
    exact hA j hj
  have p5 : ∀ j : Nat, j < 10 → gi c4 126 (10 * d + 10 + j) = iz (TT N r k m3 j : Nat) := fun j hj => by
    have := r2 j hj
    rw [show 10 * (d + 1) + j = 10 * d + 10 + j by omega] at this
    exact this
  have dn := M16
  have dnl : dnT N r m cd ≤ 1 := by rw [dn]; exact dCN_le _ _ _
  obtain ⟨c5, u1, u2, u3, u4⟩ := c_addD N d (dnT N r m cd) (4 / 2 ^ (ndT x0 p0 + ndT x1 p1)) (by omega) c4 hd dnl A (TT N r k m3) p4 p5
  have diff : gi c4 (130 + 12 * (d + 1)) 6 - gi c4 (130 + 12 * d) 6 = iz (dnT N r m cd : Nat) := by
    rw [r4.1 (130 + 12 * (d + 1)) 6 (by omega) (by omega) (by omega) (by omega) (by omega) (by omega) (by omega), r4.1 (130 + 12 * d) 6 (by omega) (by omega) (by omega) (by omega) (by omega) (by omega) (by omega), c3o (130 + 12 * d) 6 (by omega), M13, b1.1 6 (wF_in 6 (by omega) (by omega)), dn, Int32.add_comm, Int32.add_sub_cancel]
  have tm : (4 : Int32) >>> ((iz (ndT x0 p0 : Nat) + iz (ndT x1 p1 : Nat)) &&& 31) = iz ((4 / 2 ^ (ndT x0 p0 + ndT x1 p1) : Nat) : Int) := by
    have B : ∀ u v : Fin 2, (4 : Int32) >>> ((iz ((u.1 : Nat) : Int) + iz ((v.1 : Nat) : Int)) &&& 31) = iz ((4 / 2 ^ (u.1 + v.1) : Nat) : Int) := by decide +kernel
    exact B ⟨ndT x0 p0, by omega⟩ ⟨ndT x1 p1, by omega⟩
  refine ⟨c5, a1.trans ?_, ?_, ?_, ?_, ?_⟩
  · rw [F_X0_spreadLots_141_s]
    refine bnd M1 ?_
    show (F_X0_spread Z0.1 N dep 124 (iz (d : Int) + (1 : Int32)) (iz ((k + 1 : Nat) : Int) - (1 : Int32)) c3).bind _ = _
    rw [show iz (d : Int) + (1 : Int32) = iz ((d + 1 : Nat) : Int) from iz_add d 1, show iz ((k + 1 : Nat) : Int) - (1 : Int32) = iz (k : Int) from (iz_sub _ 1).trans (congrArg iz (by omega))]
    refine bnd r1 ?_
    rw [diff, tm]
    refine bnd u1 ?_
    rw [show iz (b : Int) + (1 : Int32) = iz ((b + 1 : Nat) : Int) from iz_add b 1]
  · rw [M2]; exact u2
  · exact MEMO_fr r3 (fun x y q => u3 x y (by omega)) (fun s => u4 _ _)
  · exact fun x y q1 q2 q3 q4 => by
      rw [u3 x y (by omega), r4.1 x y (by omega) q2 q3 (by omega) (by omega) (by omega) (by omega), c3o x y (by omega)]
  · exact fun x y q => by rw [u4, r4.2 x y q, l3]
