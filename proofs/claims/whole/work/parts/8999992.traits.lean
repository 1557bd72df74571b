/-! reading a PASSAGE: pace, late, haste, hand -/
def TOK (what v : Nat) : Prop := what = 3 ∧ 1 ≤ v ∧ v ≤ 4 ∨ what = 4 ∧ v ≤ 3 ∨ what = 5 ∧ v ≤ 9 ∨ what = 6 ∧ v ≤ 2
theorem GRN_trait {c m : DY} (h : GRN c m) (n w what v : Nat) (hn : gi c 95 3 = iz n) (n12 : n ≤ 12) (hw : w < n) (hv : TOK what v) : GRN (si c (97 + what) w (iz v)) (si m 529 (8 * w + what) (iz v)) := by
  obtain ⟨L, W, n', ⟨a1, a2, a3⟩, ⟨b1, b2⟩, ⟨d1, d2⟩, ⟨e1, e2⟩, f, g, g2, wk, s⟩ := h
  have en : n' = n := by
    have := e1.symm.trans hn
    rw [iz_inj (by omega) (by omega) (by omega) (by omega)] at this
    omega
  subst en
  have hwh : 3 ≤ what ∧ what ≤ 6 := by unfold TOK at hv; omega
  have oc : ∀ z k : Nat, ¬ (z = 97 + what ∧ k = w) → gi (si c (97 + what) w (iz v)) z k = gi c z k := fun z k q => by rw [gi_si_if, if_neg q]
  have om : ∀ z k : Nat, ¬ (z = 529 ∧ k = 8 * w + what) → gi (si m 529 (8 * w + what) (iz v)) z k = gi m z k := fun z k q => by rw [gi_si_if, if_neg q]
  have nc : gi (si c (97 + what) w (iz v)) (97 + what) w = iz v := by rw [gi_si_if, if_pos ⟨rfl, rfl⟩]
  have nm : gi (si m 529 (8 * w + what) (iz v)) 529 (8 * w + what) = iz v := by rw [gi_si_if, if_pos ⟨rfl, rfl⟩]
  refine ⟨L, W, n', ⟨a1, a2, a3⟩, ⟨(oc _ _ (by omega)).trans b1, (om _ _ (by omega)).trans b2⟩, ⟨(oc _ _ (by omega)).trans d1, (om _ _ (by omega)).trans d2⟩, ⟨(oc _ _ (by omega)).trans e1, (om _ _ (by omega)).trans e2⟩, ?_, fun i hi => ?_, fun x' y' hx' hy' => ?_, fun i hi => ?_, fun i j hi hj => ?_⟩
  · rw [oc _ _ (by omega), om _ _ (by omega)]; exact f
  · rw [oc 96 i (by omega), om 528 i (by omega)]; exact g i hi
  · rw [oc 96 _ (by omega)]; exact g2 x' y' hx' hy'
  · have old := wk i hi
    unfold WKG at old ⊢
    rw [oc 97 i (by omega), oc 98 i (by omega), oc 99 i (by omega), oc 104 i (by omega), om 529 (8 * i) (by omega), om 529 (8 * i + 1) (by omega), om 529 (8 * i + 2) (by omega), om 529 (8 * i + 7) (by omega)]
    by_cases q : i = w
    · subst q
      obtain ⟨t1, t2, t3, t4, t5, t6, t7, t8, t9⟩ := old
      unfold TOK at hv
      rcases hv with ⟨rfl, q1, q2⟩ | ⟨rfl, q1⟩ | ⟨rfl, q1⟩ | ⟨rfl, q1⟩
      · rw [oc 101 i (by omega), oc 102 i (by omega), oc 103 i (by omega), om 529 (8 * i + 4) (by omega), om 529 (8 * i + 5) (by omega), om 529 (8 * i + 6) (by omega)]
        exact ⟨t1, t2, t3, ⟨v, q1, q2, nc, nm⟩, t5, t6, t7, t8, t9⟩
      · rw [oc 100 i (by omega), oc 102 i (by omega), oc 103 i (by omega), om 529 (8 * i + 3) (by omega), om 529 (8 * i + 5) (by omega), om 529 (8 * i + 6) (by omega)]
        exact ⟨t1, t2, t3, t4, ⟨v, q1, nc, nm⟩, t6, t7, t8, t9⟩
      · rw [oc 100 i (by omega), oc 101 i (by omega), oc 103 i (by omega), om 529 (8 * i + 3) (by omega), om 529 (8 * i + 4) (by omega), om 529 (8 * i + 6) (by omega)]
        exact ⟨t1, t2, t3, t4, t5, ⟨v, q1, nc, nm⟩, t7, t8, t9⟩
      · rw [oc 100 i (by omega), oc 101 i (by omega), oc 102 i (by omega), om 529 (8 * i + 3) (by omega), om 529 (8 * i + 4) (by omega), om 529 (8 * i + 5) (by omega)]
        exact ⟨t1, t2, t3, t4, t5, t6, ⟨v, q1, nc, nm⟩, t8, t9⟩
    · rw [oc 100 i (by omega), oc 101 i (by omega), oc 102 i (by omega), oc 103 i (by omega), om 529 (8 * i + 3) (by omega), om 529 (8 * i + 4) (by omega), om 529 (8 * i + 5) (by omega), om 529 (8 * i + 6) (by omega)]
      exact old
  · rw [oc 104 i (by omega), oc 104 j (by omega)]; exact s i j hi hj
/-- the first NUMBER of a line: a WALKER -/
theorem wnum_both {c m : DY} {Z : Nat → Int} {sz f : Nat} (N : Nat) (hN : 900 ≤ N) (hT : TKS c m Z sz f) (hF : FLT c m f) (hP : PS c m) (hg : gi m 510 28 = 1) : (∃ c' m' : DY, F_X6_needNumber_ Z0.1 N 94 0 (gi c 95 3 - 1) c = some (0, c') ∧ F_X10_number Z0.1 N 510 0 (gi m 510 31 - 1) m = some (0, m') ∧ BRK c' m' f ∧ frP c c' ∧ frQ m m') ∨ ∃ (v : Int) (c' m' : DY), (0 ≤ v ∧ v ≤ 999) ∧ F_X6_needNumber_ Z0.1 N 94 0 (gi c 95 3 - 1) c = some (iz v, c') ∧ F_X10_number Z0.1 N 510 0 (gi m 510 31 - 1) m = some (1, m') ∧ TKS c' m' Z sz (nx Z sz f) ∧ FLT c' m' (nx Z sz f) ∧ f < nx Z sz f ∧ gi m' 510 27 = iz v ∧ frP c c' ∧ frQ m m' ∧ PS c' m' ∧ (gi m' 510 28 = 1 ∧ (∃ k : Nat, k ≤ 12 ∧ gi m 510 31 = iz k ∧ v < k) ∧ gi m' 510 25 = gi m 510 25 ∧ gi m' 510 26 = gi m 510 26 ∨ gi m' 510 28 = 0) ∧ (gi c' 94 6 = 0 → gi c 94 6 = 0 ∧ gi m' 510 28 = 1 ∧ ∃ n : Nat, n ≤ 12 ∧ gi c 95 3 = iz n ∧ gi m 510 31 = iz n ∧ v < n) ∧ (gi c 94 6 = 0 → gi c' 94 6 ≠ 0 → gi m' 510 28 = 0) := by
  obtain ⟨⟨Lc, Wc, nc, bc, cc0, cc1, cc3⟩, ⟨Lm, Wm, nm, bm, mm29, mm30, mm31, mfr⟩, hG⟩ := id hP
  have e0 : gi c 95 3 - 1 = iz ((nc : Int) - 1) := by rw [cc3]; exact iz_sub _ 1
  have em0 : gi m 510 31 - 1 = iz ((nm : Int) - 1) := by rw [mm31]; exact iz_sub _ 1
  have same : gi c 94 6 = 0 → nc = nm := fun z => by
    obtain ⟨L, W, n, a, _, _, ⟨b1, b2⟩, _⟩ := hG z
    have q1 := b1.symm.trans cc3
    have q2 := b2.symm.trans mm31
    rw [iz_inj (by omega) (by omega) (by omega) (by omega)] at q1 q2
    omega
  rw [e0, em0]
  rcases num_both N 0 ((nc : Int) - 1) ((nm : Int) - 1) hN hT hF (by omega) (by omega) (by omega) (fun z => by have := same z; omega) with ⟨c1, m1, n1, n2, n3, n4, n5⟩ | ⟨u, c1, m1, u09, n1, n2, n3, n4, n5, n6, n7, n8, n9, n10, n11⟩
  · exact Or.inl ⟨c1, m1, n1, n2, n3, n4, n5⟩
  · refine Or.inr ⟨u, c1, m1, u09, n1, n2, n3, FLT_up n4 (by omega), n5, n6, n7, n8, PS_fr hP n7 n8 (fun z => (n10 z).1), ?_, fun z => ?_, n11⟩
    · rcases n9 with ⟨q1, q2, q3, q4, q5⟩ | q
      · exact Or.inl ⟨q3.trans hg, ⟨nm, bm.2.2, mm31, by omega⟩, q4, q5⟩
      · exact Or.inr q
    · obtain ⟨q1, q2, q3, q4⟩ := n10 z
      exact ⟨q1, q4.trans hg, nc, bc.2.2, cc3, by rw [same q1]; exact mm31, by omega⟩
theorem trait_line {c m : DY} {Z : Nat → Int} {sz f : Nat} (N what lo hi : Nat) (hN : 900 ≤ N) (hwh : what = 3 ∧ lo = 1 ∧ hi = 4 ∨ what = 4 ∧ lo = 0 ∧ hi = 3 ∨ what = 5 ∧ lo = 0 ∧ hi = 9) (hT : TKS c m Z sz f) (hF : FLT c m f) (hP : PS c m) (hg : gi m 510 28 = 1) : ∃ (c' m' : DY) (v : Int32), F_X5_readTrait Z0.1 N 12 238 (97 + what) (iz lo) (iz hi) c = some c' ∧ F_X10_ofLine Z0.1 N 510 (iz what) (iz lo) (iz hi) m = some (v, m') ∧ LO c m c' m' v Z sz f := by
  have n1 : ¬ (1 : Int32) = 0 := by decide
  have C0 := F_X5_readTrait_s Z0.1 N 12 238 (97 + what) (iz lo) (iz hi) c
  rw [r_238_0, r_238_1] at C0
  have M0 := F_X10_ofLine_s Z0.1 N 510 (iz what) (iz lo) (iz hi) m
  rcases wnum_both N hN hT hF hP hg with ⟨c1, m1, k1, k2, k3, k4, k5⟩ | ⟨u, c1, m1, u09, k1, k2, k3, k4, k5, k6, k7, k8, k9, k10, k11, k12⟩
  · refine ⟨c1, m1, 0, ?_, M0.trans (bnd k2 (if_pos rfl)), frLC_P k4, frLM_Q k5, Or.inl ⟨rfl, f, k3⟩⟩
    exact C0.trans (bnd k1 (bnd (b_num_ N _ _ c1 k3.1) (bnd (b_sound N c1 k3.1) (if_pos rfl))))
  · rcases num_both N (lo : Int) (hi : Int) (hi : Int) hN k3 k4 (by omega) (by omega) (by omega) (fun _ => rfl) with ⟨c2, m2, p1, p2, p3, p4, p5⟩ | ⟨v, c2, m2, v09, p1, p2, p3, p4, p5, p6, p7, p8, p9, p10, p11⟩
    · refine ⟨c2, m2, 0, ?_, M0.trans (bnd k2 ((if_neg n1).trans (bnd p2 (if_pos rfl)))), frLC_tr (frLC_P k7) (frLC_P p4), frLM_tr (frLM_Q k8) (frLM_Q p5), Or.inl ⟨rfl, _, p3⟩⟩
      exact C0.trans (bnd k1 (bnd p1 (bnd (b_sound N c2 p3.1) (if_pos rfl))))
    · have P2 : PS c2 m2 := PS_fr k9 p7 p8 (fun z => (p10 z).1)
      have F2 : FLT c2 m2 (nx Z sz (nx Z sz f)) := FLT_up p4 (by omega)
      rw [k2, sb_eq, if_neg n1, p2, sb_eq, if_neg n1, k6, p6] at M0
      have C1 : F_X5_readTrait Z0.1 N 12 238 (97 + what) (iz lo) (iz hi) c = _ := C0.trans (bnd k1 (bnd p1 (bnd (c_sound N c2) rfl)))
      have e8 : (8 : Int32) * iz u + iz (what : Int) = iz (8 * u + what) := by rw [show (8 : Int32) * iz u = iz (8 * u) from iz_mul 8 u, iz_add]
      rw [e8] at M0
      -- the reference's result
      have mres : ∃ m3 : DY, F_X10_ofLine Z0.1 N 510 (iz what) (iz lo) (iz hi) m = some (1, m3) ∧ (∀ x k : Nat, ¬ (x = 529 ∧ k % 8 ≠ 7) → gi m3 x k = gi m2 x k) ∧ (∀ x k : Nat, gl m3 x k = gl m2 x k) ∧ (gi m2 510 28 = 1 → m3 = si m2 529 (8 * u + what).toNat (iz v)) := by
        by_cases gd : gi m2 510 28 = 0
        · rw [gd, if_pos (by decide)] at M0
          exact ⟨m2, M0, fun _ _ _ => rfl, fun _ _ => rfl, fun z => by rw [gd] at z; exact absurd z (by decide)⟩
        · have A2 := p9.resolve_right gd
          have gd1 : ¬ gi m1 510 28 = 0 := by rw [← A2.2.2.1]; exact gd
          obtain ⟨g1, ⟨k, k12', gk, uk⟩, _⟩ := k10.resolve_right gd1
          have g2 : gi m2 510 28 = 1 := A2.2.2.1.trans g1
          clear k10 k11 k12
          rw [g2, if_neg (by decide), if_pos (show ib (iz (8 * u + what)) 104 from iz_ib (by omega)), bd_eq, r_510_34, tnn _ (8 * u + what).toNat (by omega) (by omega)] at M0
          exact ⟨_, M0, fun x k q => by rw [gi_si_if, if_neg (fun w => q ⟨w.1, by omega⟩)], fun _ _ => rfl, fun _ => rfl⟩
      obtain ⟨m3, q1, q2, q3, q4⟩ := mres
      have R3 : RWF m3 := RWF_fr P2.2.1 (fun x k q => q2 x k (by omega))
      have frm : frLM m m3 := frLM_tr (frLM_Q k8) (frLM_tr (frLM_Q p8) (fun x k q => q2 x k (by omega)))
      by_cases snd : gi c2 94 6 = 0
      · obtain ⟨s1, s2, s3, s4⟩ := p10 snd
        obtain ⟨t1, t2, n, n12, tn, tm, un⟩ := k11 s1
        have G2 := P2.2.2 snd
        clear k10 k11 k12
        obtain ⟨w, rfl⟩ : ∃ w : Nat, u = w := ⟨u.toNat, by omega⟩
        obtain ⟨vv, rfl⟩ : ∃ vv : Nat, v = vv := ⟨v.toNat, by omega⟩
        have i12 : ib (iz (w : Int)) 12 := iz_ib (by omega)
        have cn : gi c2 95 3 = iz n := by rw [p7.1 95 3 (by omega), k7.1 95 3 (by omega)]; exact tn
        have G3 := GRN_trait G2 n w what vv cn n12 (by omega) (by unfold TOK; omega)
        have m3e := q4 (s4.trans t2)
        rw [show (8 * (w : Int) + (what : Int)).toNat = 8 * w + what by omega] at m3e
        have oc : ∀ x k : Nat, ¬ (100 ≤ x ∧ x ≤ 102) → gi (si c2 (97 + what) w (iz vv)) x k = gi c2 x k := fun x k q => by rw [gi_si_if, if_neg (by omega)]
        refine ⟨si c2 (97 + what) w (iz vv), m3, 1, C1.trans ?_, q1, frLC_tr (frLC_P k7) (frLC_tr (frLC_P p7) (fun x k q => oc x k (by omega))), frm, Or.inr ⟨rfl, _, TKS_fr p3 (fun x k q => oc x k (by omega)) (fun x k q => q2 x k (by omega)) (q3 _ _), by omega, FLT_cells F2 (oc _ _ (by omega)) (oc _ _ (by omega)) (q2 _ _ (by omega)) (q2 _ _ (by omega)), fun _ => t1, CWF_fr P2.1 (fun k => oc _ _ (by omega)), R3, fun _ => ?_⟩⟩
        · rw [if_pos snd, if_neg n1, if_neg (show ¬ iz (w : Int) < 0 from iz_nlt0 (by omega)), if_neg (show ¬ Int32.ofNat 12 ≤ iz (w : Int) from iz_nle (a := 12) (by omega)), if_pos i12, bd_eq, tnn _ w rfl (by omega)]
        · rw [m3e]
          exact G3
      · refine ⟨c2, m3, 1, C1.trans ?_, q1, frLC_tr (frLC_P k7) (frLC_P p7), frm, Or.inr ⟨rfl, _, TKS_fr p3 (fun _ _ _ => rfl) (fun x k q => q2 x k (by omega)) (q3 _ _), by omega, FLT_cells F2 rfl rfl (q2 _ _ (by omega)) (q2 _ _ (by omega)), fun z => absurd z snd, P2.1, R3, fun z => absurd z snd⟩⟩
        rw [if_neg snd, if_pos rfl]
theorem hand_line {c m : DY} {Z : Nat → Int} {sz f : Nat} (N : Nat) (hN : 900 ≤ N) (hT : TKS c m Z sz f) (hF : FLT c m f) (hP : PS c m) (hg : gi m 510 28 = 1) : ∃ (c' m' : DY) (v : Int32), F_X5_readHand Z0.1 N 238 c = some c' ∧ F_X10_handLine Z0.1 N 510 m = some (v, m') ∧ LO c m c' m' v Z sz f := by
  have n1 : ¬ (1 : Int32) = 0 := by decide
  have C0 := F_X5_readHand_s Z0.1 N 238 c
  rw [r_238_0, r_238_1] at C0
  have M0 := F_X10_handLine_s Z0.1 N 510 m
  rcases wnum_both N hN hT hF hP hg with ⟨c1, m1, k1, k2, k3, k4, k5⟩ | ⟨u, c1, m1, u09, k1, k2, k3, k4, k5, k6, k7, k8, k9, k10, k11, k12⟩
  · refine ⟨c1, m1, 0, ?_, M0.trans (bnd k2 (if_pos rfl)), frLC_P k4, frLM_Q k5, Or.inl ⟨rfl, f, k3⟩⟩
    refine C0.trans (bnd k1 (bnd (b_takes N 9 c1 k3.1) ((if_pos rfl).trans (bnd (b_needWord N 10 c1 k3.1) ?_))))
    rw [F_X5_readHand_41_s, r_238_0]
    exact bnd (b_sound N c1 k3.1) (if_pos rfl)
  · rw [k2, sb_eq, if_neg n1] at M0
    have h6 : gi c1 94 6 ≠ 1 := FLT_n1 k4
    have f5 : nx Z sz f ≤ 500 := by have := k3.1; omega
    -- e: 1 right, 0 left
    have rest : ∀ e : Int32, (e = 0 ∨ e = 1) → kD Z sz (nx Z sz f) ≠ 0 → F_X10_isWord Z0.1 N 510 491394656372 m1 = some (e, m1) → (∀ c3 : DY, F_X6_step Z0.1 N 94 c1 = some c3 → F_X5_readHand Z0.1 N 238 c = F_X5_readHand_41 Z0.1 N 238 (iz u) e c3) → F_X10_handLine Z0.1 N 510 m = F_X10_handLine_41 Z0.1 N 510 m1 → ∃ (c' m' : DY) (v : Int32), F_X5_readHand Z0.1 N 238 c = some c' ∧ F_X10_handLine Z0.1 N 510 m = some (v, m') ∧ LO c m c' m' v Z sz f := fun e he hkd hE hC hM => by
      obtain ⟨vv, hvv, hv2⟩ : ∃ vv : Nat, (vv = if e = 0 then 2 else 1) ∧ vv ≤ 2 := ⟨_, rfl, by
        rcases he with z | z
        · rw [z]; decide
        · rw [z]; decide⟩
      have e8 : (8 : Int32) * iz u + (6 : Int32) = iz (8 * u + 6) := by rw [show (8 : Int32) * iz u = iz (8 * u) from iz_mul 8 u, l_6, iz_add]
      -- the reference's writing
      have mw : ∃ m2 : DY, F_X10_handLine_41 Z0.1 N 510 m1 = (F_X10_token Z0.1 N 510 m2).bind (fun u1 => some ((1 : Int32), u1)) ∧ (∀ x k : Nat, ¬ (x = 529 ∧ k % 8 ≠ 7) → gi m2 x k = gi m1 x k) ∧ (∀ x k : Nat, gl m2 x k = gl m1 x k) ∧ (gi m1 510 28 = 1 → m2 = si m1 529 (8 * u + 6).toNat (iz vv)) := by
        rcases k10 with ⟨g1, ⟨k, k12', gk, uk⟩, _⟩ | g0
        · have w77 : ∀ y : Int32, F_X10_handLine_77 Z0.1 N (F_X10_handLine_78 Z0.1 N) 510 529 (iz (8 * u + 6)) y m1 = (F_X10_token Z0.1 N 510 (si m1 529 (8 * u + 6).toNat y)).bind (fun u1 => some ((1 : Int32), u1)) := fun y => by
            rw [F_X10_handLine_77_s, if_pos (show ib (iz (8 * u + 6)) 104 from iz_ib (by omega)), bd_eq, tnn _ (8 * u + 6).toNat (by omega) (by omega), F_X10_handLine_78_s]
          refine ⟨si m1 529 (8 * u + 6).toNat (iz vv), ?_, fun x k q => by rw [gi_si_if, if_neg (fun w => q ⟨w.1, by omega⟩)], fun _ _ => rfl, fun _ => rfl⟩
          rw [F_X10_handLine_41_s, g1, if_neg (by decide), hE, sb_eq, r_510_34]
          show (if e = 0 then F_X10_handLine_77 Z0.1 N (F_X10_handLine_78 Z0.1 N) 510 529 ((8 : Int32) * gi m1 510 27 + 6) 2 m1 else F_X10_handLine_77 Z0.1 N (F_X10_handLine_78 Z0.1 N) 510 529 ((8 : Int32) * gi m1 510 27 + 6) 1 m1) = _
          rw [k6, e8, w77, w77, hvv]
          rcases he with z | z
          · rw [z, if_pos rfl, if_pos rfl]; rfl
          · rw [z, if_neg n1, if_neg n1]; rfl
        · refine ⟨m1, ?_, fun _ _ _ => rfl, fun _ _ => rfl, fun z => by rw [g0] at z; exact absurd z (by decide)⟩
          rw [F_X10_handLine_41_s, g0, if_pos (by decide), F_X10_handLine_78_s]
      obtain ⟨m2, q1, q2, q3, q4⟩ := mw
      have T2 : TKS c1 m2 Z sz (nx Z sz f) := TKS_fr k3 (fun _ _ _ => rfl) (fun x k q => q2 x k (by omega)) (q3 _ _)
      obtain ⟨c3, m3, s1, s2, s3, s4, s5⟩ := both_step N hN T2
      have nf := (nx_b Z sz _ T2.1.2).2.2 hkd
      have mres : F_X10_handLine Z0.1 N 510 m = some (1, m3) := hM.trans (q1.trans (bnd s2 rfl))
      have cres := (hC c3 s1).trans (F_X5_readHand_41_s Z0.1 N 238 (iz u) e c3)
      rw [r_238_0, c_sound, sb_eq, r_238_1] at cres
      have c36 : gi c3 94 6 = gi c1 94 6 := s4.1 94 6 (by omega)
      have frm : frLM m m3 := frLM_tr (frLM_Q k8) (frLM_tr (b := m2) (fun x k q => q2 x k (by omega)) (frLM_Q (frQ_Y s5)))
      have F3 : FLT c3 m3 (nx Z sz (nx Z sz f)) := FLT_up (FLT_cells k4 c36 (s4.1 94 7 (by omega)) (by rw [s5.1 510 25 (by omega), q2 510 25 (by omega)]) (by rw [s5.1 510 26 (by omega), q2 510 26 (by omega)])) (by omega)
      have R3 : RWF m3 := RWF_fr k9.2.1 (fun x k q => by rw [s5.1 x k (by omega), q2 x k (by omega)])
      by_cases snd : gi c1 94 6 = 0
      · obtain ⟨t1, t2, n, n12, tn, tm, un⟩ := k11 snd
        obtain ⟨w, rfl⟩ : ∃ w : Nat, u = w := ⟨u.toNat, by omega⟩
        have i12 : ib (iz (w : Int)) 12 := iz_ib (by omega)
        have cn1 : gi c1 95 3 = iz n := (k7.1 95 3 (by omega)).trans tn
        have cn : gi c3 95 3 = iz n := (s4.1 95 3 (by omega)).trans cn1
        have G2 := GRN_trait (k9.2.2 snd) n w 6 vv cn1 n12 (by omega) (by unfold TOK; omega)
        have m2e := q4 t2
        rw [show (8 * (w : Int) + 6).toNat = 8 * w + 6 by omega] at m2e
        have hs := c_hasG Z0.1 N 95 (w : Int) n c3 (by omega) (by omega) cn n12
        rw [if_pos (by omega)] at hs
        rw [c36, if_pos snd, if_neg n1, hs, sb_eq, if_neg n1] at cres
        have w79 : ∀ y : Int32, F_X5_readHand_79 Z0.1 N (gr Z0.1 95 11) (iz (w : Int)) y c3 = some (si c3 103 w y) := fun y => by
          rw [F_X5_readHand_79_s, if_pos i12, bd_eq, cv_g8 cvg_try, tnn _ w rfl (by omega)]
        rw [w79, w79] at cres
        have oc : ∀ x k : Nat, x ≠ 103 → gi (si c3 103 w (iz vv)) x k = gi c3 x k := fun x k q => by rw [gi_si_if, if_neg (fun z => q z.1)]
        refine ⟨si c3 103 w (iz vv), m3, 1, cres.trans ?_, mres, frLC_tr (frLC_P k7) (frLC_tr (frLC_P (frP_X s4)) (fun x k q => oc x k (by omega))), frm, Or.inr ⟨rfl, _, TKS_fr s3 (fun x k q => oc x k (by omega)) (fun _ _ _ => rfl) rfl, by omega, FLT_cells F3 (oc _ _ (by omega)) (oc _ _ (by omega)) rfl rfl, fun _ => t1, CWF_fr k9.1 (fun k => by rw [oc 95 k (by omega), s4.1 95 k (by omega)]), R3, fun _ => GRN_fr (c := si c1 (97 + 6) w (iz vv)) (m := m2) (by rw [m2e]; exact G2) (fun x k z1 z2 => ?_) (fun x k q => s5.1 x k (by omega))⟩⟩
        · rw [hvv]
          rcases he with z | z
          · rw [z, if_pos rfl, if_pos rfl]; rfl
          · rw [z, if_neg n1, if_neg n1]; rfl
        · rw [gi_si_if, gi_si_if, s4.1 x k (by omega)]
      · rw [c36, if_neg snd, if_pos rfl] at cres
        exact ⟨c3, m3, 1, cres, mres, frLC_tr (frLC_P k7) (frLC_P (frP_X s4)), frm, Or.inr ⟨rfl, _, s3, by omega, F3, fun z => absurd (c36.symm.trans z) snd, CWF_fr k9.1 (fun k => s4.1 95 k (by omega)), R3, fun z => absurd (c36.symm.trans z) snd⟩⟩
    have stp : ∀ (w : Nat) (W : Int64) (c3 c3' : DY), WOK w W → F_X6_takesWord Z0.1 N 94 w c1 = some (1, c3) → F_X10_isWord Z0.1 N 510 W m1 = some (1, m1) → F_X6_step Z0.1 N 94 c1 = some c3' → c3 = c3' ∧ kD Z sz (nx Z sz f) ≠ 0 := fun w W c3 c3' hw h1 h2 h3 => by
      obtain ⟨b, b0, b1, b2, b3, _⟩ := word_both N w W hN k3 h6 hw
      have b1' : b = 1 := (Prod.mk.inj (Option.some.inj (b2.symm.trans h2))).1
      have q := F_X6_takesWord_s Z0.1 N 94 w c1
      rw [h1, b1, sb_eq, b1'] at q
      rw [if_neg (show ¬ (1 : Int32) = 0 by decide), h3, sb_eq, if_pos (show zb (1 : Int32) by decide)] at q
      exact ⟨(Prod.mk.inj (Option.some.inj q)).2, by have := b3 b1'; omega⟩
    have kdn : ∀ (W : Int64), F_X10_isWord Z0.1 N 510 W m1 = some (1, m1) → kD Z sz (nx Z sz f) ≠ 0 := fun W h2 z => by
      rw [F_X10_isWord_s] at h2
      have : ¬ gi m1 510 21 = 2 := fun q => by have := (kinds k3).2.2.2.2.2.2.2.mp q; omega
      rw [if_neg this] at h2
      exact absurd (Prod.mk.inj (Option.some.inj h2)).1 (by decide)
    rcases take_both N 9 491394656372 hN k3 h6 wok_right with ⟨e1, e2, _⟩ | ⟨c3, m3, e1, e2, e3, _⟩
    · rcases take_both N 10 1818584692 hN k3 h6 wok_left with ⟨w1, w2, _⟩ | ⟨c3, m3, w1, w2, w3, _⟩
      · obtain ⟨br, p1, p2⟩ := brk_both (c := c1) (m := m1) (f := nx Z sz f) f5
        refine ⟨_, _, 0, ?_, ?_, frLC_tr (frLC_P k7) (frLC_P p1), frLM_tr (frLM_Q k8) (frLM_Q p2), Or.inl ⟨rfl, _, br⟩⟩
        · refine C0.trans (bnd k1 (bnd e1 ((if_pos rfl).trans (bnd (v := si (si c1 94 6 1) 94 7 (iz (nx Z sz f : Nat))) ?_ ?_))))
          · rw [F_X6_needWord_s]
            exact bnd w1 ((if_pos rfl).trans (bnd (c_break N _ c1 h6 k3.2.2.2.1.1) rfl))
          · rw [F_X5_readHand_41_s, r_238_0]
            exact bnd (b_sound N _ br.1) (if_pos rfl)
        · refine M0.trans (bnd e2 ((if_pos rfl).trans (bnd w2 ((if_pos rfl).trans (bnd (m_stops N _ m1 k3.2.2.2.1.2) ?_)))))
          exact if_pos (show zb (0 : Int32) by decide)
      · refine rest 0 (Or.inl rfl) (kdn _ w2) e2 (fun c3' hc3 => ?_) (M0.trans (bnd e2 ((if_pos rfl).trans (bnd w2 (if_neg n1)))))
        have ec := (stp 10 _ c3 c3' wok_left w1 w2 hc3).1
        refine C0.trans (bnd k1 (bnd e1 ((if_pos rfl).trans (bnd (v := c3') ?_ rfl))))
        rw [F_X6_needWord_s]
        refine bnd w1 ((if_neg n1).trans ?_)
        rw [ec]
    · refine rest 1 (Or.inr rfl) (kdn _ e2) e2 (fun c3' hc3 => ?_) (M0.trans (bnd e2 (if_neg n1)))
      have ec := (stp 9 _ c3 c3' wok_right e1 e2 hc3).1
      refine C0.trans (bnd k1 (bnd e1 ?_))
      rw [ec]
      exact if_neg n1
