/-! reading a PASSAGE: a walker's line -/
theorem SQ_n1 {c c2 m' : DY} {f f' : Nat} {u v : Int} (h : SQ c c2 m' f f' u v) : gi c2 94 6 ≠ 1 := by
  rcases h with ⟨a, _⟩ | ⟨_, b⟩
  · rw [a]; decide
  · exact FLT_n1 b
/-- one too many, or not -/
theorem many_both {c m : DY} {Z : Nat → Int} {sz f at_ : Nat} (N : Nat) (hT : TKS c m Z sz f) (haf : at_ < f) (h3 : FL3 c m at_) (hF : FLT c m f) (hP : PS c m) (hg : gi m 510 28 = 1) : ∃ c0 m0 : DY, F_X5_readWalker Z0.1 N 238 (iz at_) c = F_X5_readWalker_21 Z0.1 N 238 c0 ∧ F_X10_walkerLine Z0.1 N 510 (iz at_) m = F_X10_walkerLine_15 Z0.1 N 510 m0 ∧ TKS c0 m0 Z sz f ∧ FLT c0 m0 f ∧ PS c0 m0 ∧ gi m0 510 28 = 1 ∧ frP c c0 ∧ frQ m m0 ∧ (gi c0 94 6 = 0 → (∃ n : Nat, n < 12 ∧ gi c0 95 3 = iz n) ∧ gi c 94 6 = 0) := by
  have f500 : f ≤ 500 := by have := hT.1; omega
  obtain ⟨c1, m1, n1, n2, n3, n4, _, n6, n7, n8, n9⟩ := note_both N (c := c) (m := m) (at_ := at_) (F0 := 3) (by omega) (by omega) (Or.inr ⟨h3, by omega⟩)
  have C := F_X5_readWalker_s Z0.1 N 238 (iz at_) c
  have M := F_X10_walkerLine_s Z0.1 N 510 (iz at_) m
  rw [r_238_0, r_238_1] at C
  have noteC : F_X6_note Z0.1 N 94 (3 : Int32) (iz at_) c = some c1 := n1
  have noteM : F_X10_later Z0.1 N 510 (3 : Int32) (iz at_) m = some m1 := n2
  by_cases snd : gi c 94 6 = 0
  · obtain ⟨L, W, n, ⟨p1, p2, p3⟩, _, _, ⟨e1, e2⟩, _⟩ := hP.2.2 snd
    rw [e1] at C
    rw [e2] at M
    by_cases z : n < 12
    · rw [if_pos (show iz (n : Int) < (12 : Int32) by rw [l_12]; exact iz_lti (by omega))] at C
      rw [if_neg (show ¬ iz (n : Int) = (12 : Int32) by rw [l_12]; exact iz_nei (by omega))] at M
      exact ⟨c, m, C, M, hT, hF, hP, hg, frP_re _, frQ_re _, fun _ => ⟨⟨n, z, e1⟩, snd⟩⟩
    · have z : n = 12 := by omega
      subst z
      rw [if_neg (by decide)] at C
      rw [if_pos (by decide)] at M
      refine ⟨c1, m1, C.trans (bnd noteC rfl), M.trans (bnd noteM rfl), TKS_fr hT (fun x k q => n6 x k (by omega)) (fun x k q => n8 x k (by omega)) (n9 _ _), FLT_up n3 (by omega), ⟨CWF_fr hP.1 (fun k => n6 _ _ (by omega)), RWF_fr hP.2.1 (fun x k q => n8 _ _ (by omega)), fun q => absurd q n4⟩, (n8 _ _ (by omega)).trans hg, ⟨fun x k q => n6 x k (by omega), n7⟩, ⟨fun x k q => n8 x k (by omega), fun x k _ => n9 x k⟩, fun q => absurd q n4⟩
  · have sm : ¬ gi m 510 25 = 0 := fun z => snd ((FL3_iff h3).mpr z)
    have ec : c1 = c := by
      have : F_X6_note Z0.1 N 94 (3 : Int32) (iz at_) c = some c := by rw [F_X6_note_s, if_neg snd]
      exact Option.some.inj (noteC.symm.trans this)
    have em : m1 = m := by
      rcases h3 with y | ⟨F, p, y1, y2, y3, y4, y5, y6⟩
      · exact absurd y.1 snd
      · have : F_X10_later Z0.1 N 510 (3 : Int32) (iz at_) m = some m := by
          rw [F_X10_later_s, if_neg sm, y6, y5, if_neg (show ¬ iz (at_ : Int) < iz (p : Int) from iz_nlt (by omega))]
          by_cases q : p = at_
          · rw [if_pos (by rw [q]), if_pos (show iz (F : Int) ≤ (3 : Int32) from iz_lei (b := 3) (by omega))]
          · rw [if_neg (show ¬ iz (at_ : Int) = iz (p : Int) from iz_nei (by omega))]
        exact Option.some.inj (noteM.symm.trans this)
    rw [ec] at noteC
    rw [em] at noteM
    refine ⟨c, m, ?_, ?_, hT, hF, hP, hg, frP_re _, frQ_re _, fun q => absurd q snd⟩
    · rw [C]
      by_cases z : gi c 95 3 < (12 : Int32)
      · rw [if_pos z]
      · rw [if_neg z]
        exact bnd noteC rfl
    · rw [M]
      by_cases z : gi m 510 31 = (12 : Int32)
      · rw [if_pos z]
        exact bnd noteM rfl
      · rw [if_neg z]
theorem walker_line {c m : DY} {Z : Nat → Int} {sz f at_ : Nat} (N : Nat) (hN : 900 ≤ N) (hT : TKS c m Z sz f) (haf : at_ < f) (h3 : FL3 c m at_) (hF : FLT c m f) (hP : PS c m) (hg : gi m 510 28 = 1) : ∃ (c' m' : DY) (v : Int32), F_X5_readWalker Z0.1 N 238 (iz at_) c = some c' ∧ F_X10_walkerLine Z0.1 N 510 (iz at_) m = some (v, m') ∧ LO c m c' m' v Z sz f := by
  have n1 : ¬ (1 : Int32) = 0 := by decide
  have f500 : f ≤ 500 := by have := hT.1; omega
  obtain ⟨c0, m0, C, M, T0, F0, P0, g0, fc0, fm0, hn⟩ := many_both N hT haf h3 hF hP hg
  obtain ⟨x, y, c1, c2, k1, k2, fp, alt⟩ := sq_both N hN T0 F0 P0 g0
  have C0 := C.trans (F_X5_readWalker_21_s Z0.1 N 238 c0)
  rw [r_238_0, r_238_1, T0.2.2.2.1.1] at C0
  have M0 := M.trans (F_X10_walkerLine_15_s Z0.1 N 510 m0)
  rcases alt with ⟨m', w, r1, r2, r3⟩ | ⟨m', f', u, v, r1, fq, T2, ff, ⟨rfl, rfl, u0, u9, v0, v9⟩, g35, gd, sq⟩
  · refine ⟨c2, m', 0, ?_, M0.trans (bnd r1 (if_pos rfl)), frLC_tr (frLC_P fc0) (frLC_P fp), frLM_tr (frLM_Q fm0) (frLM_Q r3), Or.inl ⟨rfl, w, r2⟩⟩
    refine C0.trans (bnd k1 (bnd k2 (bnd (b_takes N 3 c2 r2.1) ((if_pos rfl).trans (bnd (b_needWord N 4 c2 r2.1) ?_)))))
    rw [F_X5_readWalker_91_s]
    exact bnd (b_open N x y (iz f) c2 r2.1) (if_pos rfl)
  · rw [r1, sb_eq, if_neg n1] at M0
    have h6 : gi c2 94 6 ≠ 1 := SQ_n1 sq
    have P' : PS c0 m' := ⟨P0.1, RWF_fr P0.2.1 (fun x k q => fq.1 _ _ (by omega)), fun z => GRN_fr (P0.2.2 z) (fun _ _ _ _ => rfl) (fun x k q => fq.1 _ _ (by omega))⟩
    have f5 : f' ≤ 500 := by have := T2.1; omega
    obtain ⟨Lm, Wm, nm, bm, mm29, mm30, mm31, mfr⟩ := P'.2.1
    -- what is left when the way is read: e east
    have rest : ∀ (e w : Int32), (w = 1 ∧ e = 1 ∨ w = -1 ∧ e = 0) → kD Z sz f' ≠ 0 → F_X10_isWord Z0.1 N 510 1700885364 m' = some (e, m') → (∀ c3 : DY, F_X6_step Z0.1 N 94 c2 = some c3 → F_X5_readWalker Z0.1 N 238 (iz at_) c = F_X5_readWalker_91 Z0.1 N 238 (iz f) (iz u) (iz v) e c3) → F_X10_walkerLine Z0.1 N 510 (iz at_) m = F_X10_walkerLine_49 Z0.1 N 510 m' → ∃ (c' m' : DY) (v : Int32), F_X5_readWalker Z0.1 N 238 (iz at_) c = some c' ∧ F_X10_walkerLine Z0.1 N 510 (iz at_) m = some (v, m') ∧ LO c m c' m' v Z sz f := fun e w hew hkd hE hC hM => by
      obtain ⟨m5, hm5, h49⟩ := m_49 N nm m' e (hew.elim (fun q => Or.inr q.2) (fun q => Or.inl q.2)) bm.2.2 mm31 (by
        rcases gd with q | q
        · exact Or.inl q
        · exact Or.inr q.1) hE
      have o5 : ∀ x k : Nat, ¬ (x = 529 ∧ 8 * nm ≤ k ∧ k ≤ 8 * nm + 7) → ¬ (x = 510 ∧ k = 31) → gi m5 x k = gi m' x k := fun x k q1 q2 => by rw [hm5, gi_si_if, if_neg q2, gi_wkN _ _ _ _ _ _ _ _ q1]
      have l5 : ∀ x k : Nat, gl m5 x k = gl m' x k := fun x k => by rw [hm5]; rfl
      have T5 : TKS c2 m5 Z sz f' := TKS_fr T2 (fun _ _ _ => rfl) (fun x k q => o5 x k (by omega) (by omega)) (l5 _ _)
      obtain ⟨c3, m6, s1, s2, s3, s4, s5⟩ := both_step N hN T5
      have nf := (nx_b Z sz f' T5.1.2).2.2 hkd
      have mres : F_X10_walkerLine Z0.1 N 510 (iz at_) m = some (1, m6) := hM.trans (h49.trans (bnd s2 rfl))
      have fm6 : frLM m m6 := frLM_tr (frLM_Q fm0) (frLM_tr (frLM_Q fq) (frLM_tr (b := m5) (fun x k q => o5 x k (by omega) (by omega)) (frLM_Q (frQ_Y s5))))
      obtain ⟨b, c4, o1, o2, o3, o4, o5'⟩ := open_both (c := c0) (c2 := c2) (c3 := c3) (m' := m') (m3 := m6) (f := f) (f' := f') N hN f500 ff ⟨u0, v0⟩ P' sq (s4.1 94 6 (by omega)) (s4.1 94 7 (by omega)) (fun x k q1 q2 => by rw [s4.1 x k (by omega), fp.1 x k (by omega)]) (by rw [s5.1 510 25 (by omega), o5 510 25 (by omega) (by omega)]) (by rw [s5.1 510 26 (by omega), o5 510 26 (by omega) (by omega)])
      have cres := (hC c3 s1).trans (F_X5_readWalker_91_s Z0.1 N 238 (iz f) (iz u) (iz v) e c3)
      rw [o1, sb_eq, r_238_1] at cres
      have fc4 : frP c c4 := frP_tr fc0 (frP_tr fp (frP_tr (frP_X s4) ⟨fun x k q => o3 x k (by omega), o4⟩))
      have T4 : TKS c4 m6 Z sz (nx Z sz f') := TKS_fr s3 (fun x k q => o3 x k (by omega)) (fun _ _ _ => rfl) rfl
      have hR6 : RWF m6 := by
        refine ⟨Lm, Wm, nm + (if nm < 12 then 1 else 0), ⟨bm.1, bm.2.1, ?_⟩, ?_, ?_, ?_, fun i hi => ?_⟩
        · by_cases q : nm < 12
          · rw [if_pos q]; omega
          · rw [if_neg q]; omega
        · rw [s5.1 _ _ (by omega), o5 _ _ (by omega) (by omega)]; exact mm29
        · rw [s5.1 _ _ (by omega), o5 _ _ (by omega) (by omega)]; exact mm30
        · rw [s5.1 _ _ (by omega), hm5, gi_si_if, if_pos ⟨rfl, rfl⟩]
        · rw [s5.1 _ _ (by omega)]
          by_cases q : i = nm
          · refine Or.inl ?_
            rw [q, hm5, gi_si_if, if_neg (by omega), gi_wkM, if_neg (by omega), if_pos ⟨rfl, rfl⟩]
          · have il : i < nm := by
              by_cases z : nm < 12
              · rw [if_pos z] at hi; omega
              · rw [if_neg z] at hi; omega
            rw [o5 529 _ (by omega) (by omega)]
            rcases mfr i il with z | ⟨j, j1, j2⟩
            · exact Or.inl z
            · exact Or.inr ⟨j, by omega, j2⟩
      rcases o5' with ⟨b0, uns⟩ | ⟨b1, ec4, snd, snd0, g1, L, W, n, ⟨p1, p2, p3⟩, gL, gW, gn, uL, vW, t⟩
      · rw [b0] at cres
        refine ⟨c4, m6, 1, cres.trans (if_pos rfl), mres, frLC_P fc4, fm6, Or.inr ⟨rfl, _, T4, by omega, FLT_up o2 (by omega), fun z => absurd z uns, CWF_fr hP.1 (fun k => fc4.1 _ _ (by omega)), hR6, fun z => absurd z uns⟩⟩
      · obtain ⟨⟨n', n'12, en'⟩, snd00⟩ := hn snd0
        have en : n' = n := by
          have := en'.symm.trans gn
          rw [iz_inj (by omega) (by omega) (by omega) (by omega)] at this
          omega
        subst en
        have hG := P'.2.2 snd0
        have enm : nm = n' := by
          obtain ⟨_, _, n2, q1, _, _, ⟨q2, q3⟩, _⟩ := hG
          have a := q2.symm.trans gn
          have b := q3.symm.trans mm31
          rw [iz_inj (by omega) (by omega) (by omega) (by omega)] at a b
          omega
        subst enm
        obtain ⟨xu, rfl⟩ : ∃ xu : Nat, u = xu := ⟨u.toNat, by omega⟩
        obtain ⟨yv, rfl⟩ : ∃ yv : Nat, v = yv := ⟨v.toNat, by omega⟩
        have dv : gi m' 510 35 / 6 = iz (xu : Int) := by
          rw [g35, show 6 * (xu : Int) + (yv : Int) = ((6 * xu + yv : Nat) : Int) by omega, iz_div6 _ (by omega)]
          exact congrArg iz (by omega)
        have rm : gi m' 510 35 - gi m' 510 35 / 6 * 6 = iz (yv : Int) := by
          rw [dv, g35, l_6, iz_mul, iz_sub]
          exact congrArg iz (by omega)
        have G5 : GRN (wkC c0 nm (iz xu) (iz yv) w) m5 := by
          have := GRN_walker hG L W nm xu yv w e (gi m' 510 35 / 6) gL gW gn ⟨p1, p2, n'12⟩ (by omega) (by omega) hew
          rw [hm5, rm, g1, if_neg (show ¬ (1 : Int32) = 0 by decide), if_pos n'12]
          rw [dv] at this ⊢
          exact this
        subst ec4
        have a4 : F_X4_addWalker Z0.1 N 95 (iz xu) (iz yv) w c4 = some (wkC c4 nm (iz xu) (iz yv) w) := c_addW N nm c4 _ _ _ n'12 (by rw [s4.1 95 3 (by omega), fp.1 95 3 (by omega)]; exact gn)
        have oc : ∀ z k : Nat, ¬ (97 ≤ z ∧ z ≤ 104 ∧ k = nm) → ¬ (z = 95 ∧ k = 3) → gi (wkC c4 nm (iz xu) (iz yv) w) z k = gi c4 z k := fun z k q1 q2 => gi_wkCn _ _ _ _ _ _ _ q1 q2
        have fin : F_X5_readWalker Z0.1 N 238 (iz at_) c = some (wkC c4 nm (iz xu) (iz yv) w) := by
          rw [b1] at cres
          refine cres.trans ((if_neg n1).trans ?_)
          rcases hew with ⟨q1, q2⟩ | ⟨q1, q2⟩
          · rw [q2, if_neg n1, F_X5_readWalker_119_s, ← q1]
            exact bnd a4 rfl
          · rw [q2, if_pos rfl, F_X5_readWalker_119_s, ← q1]
            exact bnd a4 rfl
        refine ⟨_, m6, 1, fin, mres, frLC_tr (frLC_P fc4) (fun x k q => oc x k (by omega) (by omega)), fm6, Or.inr ⟨rfl, _, TKS_fr T4 (fun x k q => oc x k (by omega) (by omega)) (fun _ _ _ => rfl) rfl, by omega, FLT_cells (FLT_up o2 (by omega)) (oc _ _ (by omega) (by omega)) (oc _ _ (by omega) (by omega)) rfl rfl, fun _ => snd00, ⟨L, W, nm + 1, ⟨p1, p2, by omega⟩, ?_, ?_, ?_⟩, hR6, fun _ => GRN_fr G5 (fun x k q1 q2 => ?_) (fun x k q => s5.1 x k (by omega))⟩⟩
        · rw [oc _ _ (by omega) (by omega), s4.1 95 0 (by omega), fp.1 95 0 (by omega)]; exact gL
        · rw [oc _ _ (by omega) (by omega), s4.1 95 1 (by omega), fp.1 95 1 (by omega)]; exact gW
        · rw [gi_wkC, if_neg (by omega), if_neg (by omega), if_neg (by omega), if_neg (by omega), if_neg (by omega), if_neg (by omega), if_neg (by omega), if_neg (by omega), if_pos ⟨rfl, rfl⟩]
        · rw [gi_wkC, gi_wkC, s4.1 x k (by omega), fp.1 x k (by omega)]
    rcases take_both N 3 1700885364 hN T2 h6 wok_east with ⟨e1, e2, _⟩ | ⟨c3, m3, e1, e2, e3, _, e5, e6, e7, e8⟩
    · rcases take_both N 4 2003137396 hN T2 h6 wok_west with ⟨w1, w2, _⟩ | ⟨c3, m3, w1, w2, w3, _, w5, w6, w7, w8⟩
      · -- neither
        obtain ⟨br, p1, p2⟩ := brk_both (c := c2) (m := m') (f := f') f5
        refine ⟨_, _, 0, ?_, ?_, frLC_tr (frLC_P fc0) (frLC_tr (frLC_P fp) (frLC_P p1)), frLM_tr (frLM_Q fm0) (frLM_tr (frLM_Q fq) (frLM_Q p2)), Or.inl ⟨rfl, f', br⟩⟩
        · refine C0.trans (bnd k1 (bnd k2 (bnd e1 ((if_pos rfl).trans (bnd (v := si (si c2 94 6 1) 94 7 (iz f')) ?_ ?_)))))
          · rw [F_X6_needWord_s]
            exact bnd w1 ((if_pos rfl).trans (bnd (c_break N f' c2 h6 T2.2.2.2.1.1) rfl))
          · rw [F_X5_readWalker_91_s]
            exact bnd (b_open N _ _ (iz f) _ br.1) (if_pos rfl)
        · refine M0.trans (bnd e2 ((if_pos rfl).trans (bnd w2 ((if_pos rfl).trans (bnd (m_stops N f' m' T2.2.2.2.1.2) ?_)))))
          exact if_pos (show zb (0 : Int32) by decide)
      · -- west
        have kd : kD Z sz f' ≠ 0 := fun z => by
          have := kinds T2
          rw [F_X10_isWord_s] at w2
          have : ¬ gi m' 510 21 = 2 := fun q => by have := (kinds T2).2.2.2.2.2.2.2.mp q; omega
          rw [if_neg this] at w2
          exact absurd (Prod.mk.inj (Option.some.inj w2)).1 (by decide)
        refine rest 0 (-1) (Or.inr ⟨rfl, rfl⟩) kd e2 (fun c3' hc3 => ?_) (M0.trans (bnd e2 ((if_pos rfl).trans (bnd w2 (if_neg n1)))))
        refine C0.trans (bnd k1 (bnd k2 (bnd e1 ((if_pos rfl).trans (bnd (v := c3') ?_ rfl)))))
        have ec : c3 = c3' := by
          have q := F_X6_takesWord_s Z0.1 N 94 4 c2
          rw [w1] at q
          obtain ⟨b, b0, b1, b2, b3, _⟩ := word_both N 4 2003137396 hN T2 h6 wok_west
          rw [b1, sb_eq] at q
          have b1' : b = 1 := (Prod.mk.inj (Option.some.inj (b2.symm.trans w2))).1
          rw [b1'] at q
          rw [if_neg (show ¬ (1 : Int32) = 0 by decide), hc3, sb_eq, if_pos (show zb (1 : Int32) by decide)] at q
          exact (Prod.mk.inj (Option.some.inj q)).2
        rw [F_X6_needWord_s]
        refine bnd w1 ((if_neg n1).trans ?_)
        rw [ec]
    · -- east
      have kd : kD Z sz f' ≠ 0 := fun z => by
        rw [F_X10_isWord_s] at e2
        have : ¬ gi m' 510 21 = 2 := fun q => by have := (kinds T2).2.2.2.2.2.2.2.mp q; omega
        rw [if_neg this] at e2
        exact absurd (Prod.mk.inj (Option.some.inj e2)).1 (by decide)
      refine rest 1 1 (Or.inl ⟨rfl, rfl⟩) kd e2 (fun c3' hc3 => ?_) (M0.trans (bnd e2 (if_neg n1)))
      have ec : c3 = c3' := by
        have q := F_X6_takesWord_s Z0.1 N 94 3 c2
        rw [e1] at q
        obtain ⟨b, b0, b1, b2, b3, _⟩ := word_both N 3 1700885364 hN T2 h6 wok_east
        rw [b1, sb_eq] at q
        have b1' : b = 1 := (Prod.mk.inj (Option.some.inj (b2.symm.trans e2))).1
        rw [b1'] at q
        rw [if_neg (show ¬ (1 : Int32) = 0 by decide), hc3, sb_eq, if_pos (show zb (1 : Int32) by decide)] at q
        exact (Prod.mk.inj (Option.some.inj q)).2
      refine C0.trans (bnd k1 (bnd k2 (bnd e1 ?_)))
      rw [ec]
      exact if_neg n1
