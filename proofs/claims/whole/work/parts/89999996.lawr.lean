/-! reading a LAW: a rule -/
theorem c_addR (N n t w : Nat) (d : DY) (hn : n < 16) (ht : t ≤ 4) (h0 : gi d 105 0 = iz n) : F_X2_addRule Z0.1 N 105 (iz w) (iz t) d = some (si (si (si d 106 n (iz w)) 107 n (iz t)) 105 0 (iz ((n + 1 : Nat) : Int))) := by
  obtain ⟨l1, l2, _⟩ := lb_of 105 (by decide)
  obtain ⟨L, L1, L2, L3⟩ := clampN t 4 (by omega) (by omega)
  have i16 : ib (iz (n : Int)) 16 := iz_ib (by omega)
  rw [F_X2_addRule_s, h0, if_neg (show ¬ (16 : Int32) ≤ iz (n : Int) from iz_nle (a := 16) (by omega)), if_pos i16, bd_eq, l1, l2, show gi (si d (105 + 1) (iz (n : Int)).toNatClampNeg (iz w)) 105 0 = iz n from by rw [gi_si_if, if_neg (by omega)]; exact h0, if_pos i16, bd_eq, bd_eq, tnn _ n rfl (by omega), show (4 : Int32) = iz ((4 : Nat) : Int) from rfl, L2, L3 ht, show gi (si (si d (105 + 1) n (iz w)) (105 + 2) n (iz (t : Int))) 105 0 = iz n from by rw [gi_si_if, if_neg (by omega), gi_si_if, if_neg (by omega)]; exact h0, show iz (n : Int) + (1 : Int32) = iz ((n + 1 : Nat) : Int) from iz_add n 1]
theorem b_deed (N : Nat) (hN : 900 ≤ N) (d : DY) (h : gi d 94 6 = 1) : ∀ (q j k : Nat), j + q = 6 → q < k → F_X3_readDeed_2 Z0.1 N k 239 (iz j) d = some (5, d) := by
  intro q
  induction q with
  | zero =>
    intro j k hq hk
    obtain ⟨k, rfl⟩ : ∃ i, k = i + 1 := ⟨k - 1, by omega⟩
    obtain rfl : j = 6 := by omega
    rw [F_X3_readDeed_2_s, if_pos (by decide), r_239_0, b_break N d h, sb_eq]
  | succ q ih =>
    intro j k hq hk
    obtain ⟨k, rfl⟩ : ∃ i, k = i + 1 := ⟨k - 1, by omega⟩
    obtain ⟨w, w30, hw⟩ : ∃ w : Nat, w < 30 ∧ F_X3_deedWord Z0.1 N (iz j) d = some (w, d) := by
      rw [F_X3_deedWord_s]
      by_cases a0 : iz (j : Int) = 0
      · rw [if_pos a0]; exact ⟨_, by omega, rfl⟩
      rw [if_neg a0]
      by_cases a1 : iz (j : Int) = 1
      · rw [if_pos a1]; exact ⟨_, by omega, rfl⟩
      rw [if_neg a1]
      by_cases a2 : iz (j : Int) = 2
      · rw [if_pos a2]; exact ⟨_, by omega, rfl⟩
      rw [if_neg a2]
      by_cases a3 : iz (j : Int) = 3
      · rw [if_pos a3]; exact ⟨_, by omega, rfl⟩
      rw [if_neg a3]
      by_cases a4 : iz (j : Int) = 4
      · rw [if_pos a4]; exact ⟨_, by omega, rfl⟩
      rw [if_neg a4]
      exact ⟨_, by omega, rfl⟩
    rw [F_X3_readDeed_2_s, if_neg (show ¬ (6 : Int32) ≤ iz (j : Int) from iz_nle (a := 6) (by omega)), hw, sb_eq, if_pos w30, r_239_0, b_takes N w d h, sb_eq, if_pos rfl, show iz (j : Int) + (1 : Int32) = iz ((j + 1 : Nat) : Int) from iz_add j 1]
    exact ih (j + 1) k (by omega) (by omega)
theorem b_rule60 (N : Nat) (hN : 900 ≤ N) (t : Int32) (d : DY) (h : gi d 94 6 = 1) : F_X3_readRule_60 Z0.1 N 239 t d = some d := by
  rw [F_X3_readRule_60_s, show F_X3_readDeed Z0.1 N 239 d = some (5, d) from (F_X3_readDeed_s Z0.1 N 239 d).trans (b_deed N hN d h 6 0 N (by omega) (by omega)), sb_eq, r_239_0, b_needSign N 59 d h, sb_eq, b_sound N d h, sb_eq, if_pos rfl]
theorem b_rule21 (N : Nat) (t : Nat) (ht : t ≤ 999) (k : Nat) (d : DY) (h : gi d 94 6 = 1) : F_X3_readRule_21 Z0.1 N (F_X3_readRule_60 Z0.1 N) (k + 1) 239 (iz t) d = F_X3_readRule_60 Z0.1 N 239 (iz t) d := by
  have e : F_X3_readRule_51 Z0.1 N (F_X3_readRule_60 Z0.1 N) 239 (iz t) d = F_X3_readRule_60 Z0.1 N 239 (iz t) d := by
    rw [F_X3_readRule_51_s, r_239_0, b_needSign N 58 d h, sb_eq]
  rw [F_X3_readRule_21_s]
  by_cases z : 500 ≤ t
  · rw [if_pos (show (500 : Int32) ≤ iz (t : Int) from iz_lei (a := 500) (by omega))]
    exact e
  · rw [if_neg (show ¬ (500 : Int32) ≤ iz (t : Int) from iz_nle (a := 500) (by omega)), r_239_0, b_takes N 25 d h, sb_eq, if_pos rfl]
    exact e
theorem rule60_both {c m : DY} {Z : Nat → Int} {sz f : Nat} (N j t : Nat) (hN : 900 ≤ N) (hT : TKS c m Z sz f) (h3 : FL3 c m f) (hR : RP j t c m) (ht : t ≤ 999) : ∃ (c' m' : DY) (v : Int32), F_X3_readRule_60 Z0.1 N 239 (iz t) c = some c' ∧ F_X10_ruleLine_81 Z0.1 N 510 m = some (v, m') ∧ LT c m c' m' v Z sz f (LW (j + 1)) := by
  have n1 : ¬ (1 : Int32) = 0 := by decide
  have f500 : f ≤ 500 := by have := hT.1; omega
  have h6 := FL3_n1 h3
  have C0 := F_X3_readRule_60_s Z0.1 N 239 (iz t) c
  rw [r_239_0, r_239_1] at C0
  have M0 := F_X10_ruleLine_81_s Z0.1 N 510 m
  rcases deed_both N hN hT h6 with ⟨a1, a2⟩ | ⟨w, c1, w5, a1, a2, s1, kd⟩
  · obtain ⟨br, p1, p2⟩ := brk_both (c := c) (m := m) (f := f) f500
    refine ⟨_, _, 0, C0.trans (bnd a1 (bnd (b_needSign N 59 _ br.1) (bnd (b_sound N _ br.1) (if_pos rfl)))), ?_, frLC_P p1, frLM_Q p2, Or.inl ⟨rfl, f, br⟩⟩
    exact M0.trans (bnd a2 ((if_pos rfl).trans (bnd (m_stops N f m hT.2.2.2.1.2) (if_pos (show zb (0 : Int32) by decide)))))
  · obtain ⟨n, hn⟩ : ∃ n : Nat, n = min j 16 := ⟨_, rfl⟩
    have g36 : gi m 510 36 = iz n := by rw [hn]; exact hR.1
    have e18 : (18 : Int32) * iz (n : Int) = iz ((18 * n : Nat) : Int) := (iz_mul 18 _).trans (congrArg iz (by omega))
    obtain ⟨m1, hm1⟩ : ∃ m1 : DY, m1 = si m 530 (18 * n) (iz w) := ⟨_, rfl⟩
    obtain ⟨m2, hm2⟩ : ∃ m2 : DY, m2 = si m1 530 (18 * n + 1) (iz (min t 4 : Nat)) := ⟨_, rfl⟩
    obtain ⟨m3, hm3⟩ : ∃ m3 : DY, m3 = si m2 510 36 (iz (min (j + 1) 16 : Nat)) := ⟨_, rfl⟩
    have o1 : ∀ x k : Nat, ¬ (x = 530 ∧ k = 18 * n) → gi m1 x k = gi m x k := fun x k q => by rw [hm1, gi_si_if, if_neg q]
    have o2 : ∀ x k : Nat, ¬ (x = 530 ∧ (k = 18 * n ∨ k = 18 * n + 1)) → gi m2 x k = gi m x k := fun x k q => by rw [hm2, gi_si_if, if_neg (by omega), o1 x k (by omega)]
    have o3 : ∀ x k : Nat, ¬ (x = 530 ∧ (k = 18 * n ∨ k = 18 * n + 1)) → ¬ (x = 510 ∧ k = 36) → gi m3 x k = gi m x k := fun x k q q2 => by rw [hm3, gi_si_if, if_neg q2, o2 x k q]
    have T3 : TKS c m3 Z sz f := TKS_fr hT (fun _ _ _ => rfl) (fun x k q => o3 x k (by omega) (by omega)) (by rw [hm3, hm2, hm1]; rfl)
    obtain ⟨c1', m4, s1', t4, T4, fx, fy⟩ := both_step N hN T3
    have ec : c1' = c1 := Option.some.inj (s1'.symm.trans s1)
    subst ec
    have f1 := (nx_b Z sz f hT.1.2).2.2 (by omega)
    have M1 : F_X10_ruleLine_81 Z0.1 N 510 m = (F_X10_passes Z0.1 N 510 m4).bind fun u4 => if zb u4.1 then some (u4.1, u4.2) else none := by
      have q147 : ∀ e : Int32, iz (n : Int) + e = iz ((min (j + 1) 16 : Nat) : Int) → F_X10_ruleLine_147 Z0.1 N 510 510 (iz (n : Int)) e m2 = (F_X10_passes Z0.1 N 510 m4).bind fun u4 => if zb u4.1 then some (u4.1, u4.2) else none := fun e he => by
        rw [F_X10_ruleLine_147_s, bd_eq, he, ← hm3, t4, sb_eq]
      rw [M0, a2, sb_eq, if_neg (show ¬ iz (w : Int) = (-1 : Int32) from fun q => by
        have := congrArg Int32.toInt q
        rw [iz_toInt (by omega) (by omega)] at this
        exact absurd this (by show ¬ (w : Int) = -1; omega)), a2, sb_eq, g36, e18, if_pos (show ib (iz ((18 * n : Nat) : Int)) 306 from iz_ib (by omega)), bd_eq, r_510_38, tnn _ (18 * n) rfl (by omega), ← hm1, o1 510 36 (by omega), g36, e18, show iz ((18 * n : Nat) : Int) + (1 : Int32) = iz ((18 * n + 1 : Nat) : Int) from iz_add _ 1, if_pos (show ib (iz ((18 * n + 1 : Nat) : Int)) 306 from iz_ib (by omega)), bd_eq, tnn _ (18 * n + 1) rfl (by omega), o1 510 37 (by omega), hR.2.1, ← hm2, o2 510 36 (by omega), g36]
      by_cases z : j < 16
      · rw [if_neg (show ¬ (16 : Int32) ≤ iz (n : Int) from iz_nle (a := 16) (by omega))]
        exact q147 1 ((iz_add _ 1).trans (congrArg iz (by omega)))
      · rw [if_pos (show (16 : Int32) ≤ iz (n : Int) from iz_lei (a := 16) (by omega))]
        exact q147 0 ((iz_add _ 0).trans (congrArg iz (by omega)))
    have F4 : FLT c1' m4 (nx Z sz f) := FLT_of3 (FL3_cells h3 (fx.1 94 6 (by omega)) (fx.1 94 7 (by omega)) (by rw [fy.1 510 25 (by omega), o3 510 25 (by omega) (by omega)]) (by rw [fy.1 510 26 (by omega), o3 510 26 (by omega) (by omega)])) f1
    have fm4 : frLM m m4 := fun x k q => by rw [fy.1 x k (by omega), o3 x k (by omega) (by omega)]
    rcases pass_both N hN T4 (FLT_n1 F4) with ⟨c2, m5, b1, b2, br, p1, p2⟩ | ⟨c2, m5, b1, b2, T5, f2, p1, p2⟩
    · exact ⟨c2, m5, 0, C0.trans (bnd a1 (bnd b1 (bnd (b_sound N _ br.1) (if_pos rfl)))), M1.trans (bnd b2 (if_pos (show zb (0 : Int32) by decide))), frLC_tr (frLC_P (frP_X fx)) (frLC_P p1), frLM_tr fm4 (frLM_Q p2), Or.inl ⟨rfl, _, br⟩⟩
    · have M2 := M1.trans (bnd b2 (if_pos (show zb (1 : Int32) by decide)))
      have C1 := C0.trans (bnd a1 (bnd b1 (bnd (c_sound N c2) rfl)))
      have s6 : gi c2 94 6 = gi c 94 6 := by rw [p1.1 94 6 (by omega), fx.1 94 6 (by omega)]
      have F5 : FLT c2 m5 (nx Z sz (nx Z sz f)) := FLT_up (FLT_cells F4 (p1.1 94 6 (by omega)) (p1.1 94 7 (by omega)) (p2.1 510 25 (by omega)) (p2.1 510 26 (by omega))) (by omega)
      have g5 : gi m5 510 36 = iz (min (j + 1) 16 : Nat) := by rw [p2.1 510 36 (by omega), fy.1 510 36 (by omega), hm3, gi_si_if, if_pos ⟨rfl, rfl⟩]
      have fm5 : frLM m m5 := frLM_tr fm4 (frLM_Q (frQ_Y p2))
      have fc2 : frLC c c2 := frLC_tr (frLC_P (frP_X fx)) (frLC_P (frP_X p1))
      have oc : ∀ x k : Nat, x ≠ 94 → gi c2 x k = gi c x k := fun x k q => by rw [p1.1 x k (by omega), fx.1 x k (by omega)]
      have om : ∀ k : Nat, gi m5 530 k = gi m2 530 k := fun k => by rw [p2.1 530 k (by omega), fy.1 530 k (by omega), hm3, gi_si_if, if_neg (by omega)]
      by_cases snd : gi c 94 6 = 0
      · obtain ⟨j16, t4', g0, la, tr⟩ := hR.2.2 snd
        have nj : n = j := by omega
        rw [if_pos (s6.trans snd), if_neg n1] at C1
        have ad := c_addR N j t w c2 j16 t4' ((oc 105 0 (by omega)).trans g0)
        have oe : ∀ x k : Nat, ¬ ((x = 106 ∨ x = 107) ∧ k = j) → ¬ (x = 105 ∧ k = 0) → gi (si (si (si c2 106 j (iz w)) 107 j (iz t)) 105 0 (iz ((j + 1 : Nat) : Int))) x k = gi c2 x k := fun x k q1 q2 => by rw [gi_si_if, if_neg q2, gi_si_if, if_neg (by omega), gi_si_if, if_neg (by omega)]
        refine ⟨_, m5, 1, C1.trans (bnd ad rfl), M2, frLC_tr fc2 (fun x k q => oe x k (by omega) (by omega)), fm5, Or.inr ⟨rfl, _, TKS_fr T5 (fun x k q => oe x k (by omega) (by omega)) (fun _ _ _ => rfl) rfl, by omega, FLT_cells F5 (oe _ _ (by omega) (by omega)) (oe _ _ (by omega) (by omega)) rfl rfl, fun _ => snd, g5, fun _ => ⟨by omega, ?_, fun r hr => ?_⟩⟩⟩
        · rw [gi_si_if, if_pos ⟨rfl, rfl⟩]
        · by_cases e : r = j
          · refine ⟨⟨w, w5, ?_, ?_⟩, t, t4', ?_, ?_, fun k hk => TRG_fr (k := 4 * r + k) (o := 18 * r + 2 + 4 * k) (by rw [e]; exact tr k hk) (fun x q1 q2 => ?_) (fun i q1 q2 => ?_)⟩
            · rw [gi_si_if, if_neg (by omega), gi_si_if, if_neg (by omega), gi_si_if, if_pos ⟨rfl, e⟩]
            · rw [om, hm2, gi_si_if, if_neg (by omega), hm1, gi_si_if, if_pos ⟨rfl, by omega⟩]
            · rw [gi_si_if, if_neg (by omega), gi_si_if, if_pos ⟨rfl, e⟩]
            · rw [om, hm2, gi_si_if, if_pos ⟨rfl, by omega⟩]
              exact congrArg iz (by omega)
            · rw [oe x _ (by omega) (by omega), oc x _ (by omega)]
            · rw [om, o2 530 i (by omega)]
          · have la' := LWQ_fr (c' := si (si (si c2 106 j (iz w)) 107 j (iz t)) 105 0 (iz ((j + 1 : Nat) : Int))) (m' := m5) la (fun x k q => by rw [oe x k (by omega) (by omega), oc x k (by omega)]) (fun i hi => by rw [om, o2 530 i (by omega)])
            exact la' r (by omega)
      · rw [if_neg (fun z => snd (s6.symm.trans z)), if_pos rfl] at C1
        exact ⟨c2, m5, 1, C1, M2, fc2, fm5, Or.inr ⟨rfl, _, T5, by omega, F5, fun z => s6.symm.trans z, g5, fun z => absurd (s6.symm.trans z) snd⟩⟩
theorem tests_both (N j : Nat) (hN : 900 ≤ N) : ∀ (q k k' t : Nat) (c m : DY) (Z : Nat → Int) (sz f : Nat), f + q = 500 → q + 1 < k → q + 1 < k' → t ≤ f → TKS c m Z sz f → FLT c m f → RP j t c m → ∃ (t' : Nat) (c' m' : DY) (v : Int32), t' ≤ 999 ∧ F_X3_readRule_21 Z0.1 N (F_X3_readRule_60 Z0.1 N) k 239 (iz t) c = F_X3_readRule_60 Z0.1 N 239 (iz t') c' ∧ (v = 0 → ((F_X10_isWord Z0.1 N 510 (6385252 : Int64) m).bind fun u11 => (F_X10_ruleLine_35 Z0.1 N (F_X10_ruleLine_81 Z0.1 N) k') 510 u11.1 u11.2) = some (0, m')) ∧ (v = 1 → ((F_X10_isWord Z0.1 N 510 (6385252 : Int64) m).bind fun u11 => (F_X10_ruleLine_35 Z0.1 N (F_X10_ruleLine_81 Z0.1 N) k') 510 u11.1 u11.2) = F_X10_ruleLine_81 Z0.1 N 510 m') ∧ LT c m c' m' v Z sz f (RP j t') := by
  have n1 : ¬ (1 : Int32) = 0 := by decide
  intro q
  induction q using Nat.strongRecOn with
  | ind q ih =>
  intro k k' t c m Z sz f hf hk hk' htf hT hF hR
  obtain ⟨k, rfl⟩ : ∃ i, k = i + 1 := ⟨k - 1, by omega⟩
  obtain ⟨k', rfl⟩ : ∃ i, k' = i + 1 := ⟨k' - 1, by omega⟩
  have h6 := FLT_n1 hF
  have f500 : f ≤ 500 := by omega
  rcases takes_both N 25 6385252 hN hT h6 wol_25 with ⟨a1, a2⟩ | ⟨c1, s1, a1, a2, kd⟩
  · -- the tests end
    have C0 : F_X3_readRule_21 Z0.1 N (F_X3_readRule_60 Z0.1 N) (k + 1) 239 (iz t) c = (F_X6_needSign Z0.1 N 94 58 c).bind fun u2 => F_X3_readRule_60 Z0.1 N 239 (iz t) u2 := by
      have e := F_X3_readRule_51_s Z0.1 N (F_X3_readRule_60 Z0.1 N) 239 (iz t) c
      rw [r_239_0] at e
      rw [F_X3_readRule_21_s, r_239_0, a1]
      by_cases z : 500 ≤ t
      · rw [if_pos (show (500 : Int32) ≤ iz (t : Int) from iz_lei (a := 500) (by omega))]
        exact e
      · rw [if_neg (show ¬ (500 : Int32) ≤ iz (t : Int) from iz_nle (a := 500) (by omega)), sb_eq, if_pos rfl]
        exact e
    have M0 : ((F_X10_isWord Z0.1 N 510 (6385252 : Int64) m).bind fun u11 => (F_X10_ruleLine_35 Z0.1 N (F_X10_ruleLine_81 Z0.1 N) (k' + 1)) 510 u11.1 u11.2) = _ := bnd a2 ((F_X10_ruleLine_35_s Z0.1 N (F_X10_ruleLine_81 Z0.1 N) k' 510 0 m).trans (if_pos rfl))
    obtain ⟨b, b0, b1, b2, b3⟩ := sign_both N 58 (by omega) hT h6
    rcases b0 with rfl | rfl
    · obtain ⟨br, p1, p2⟩ := brk_both (c := c) (m := m) (f := f) f500
      refine ⟨t, _, _, 0, by omega, C0.trans (bnd (v := si (si c 94 6 1) 94 7 (iz f)) ?_ rfl), fun _ => M0.trans (bnd b2 ((if_pos rfl).trans (bnd (m_stops N f m hT.2.2.2.1.2) (if_pos (show zb (0 : Int32) by decide))))), fun z => absurd z (by decide), frLC_P p1, frLM_Q p2, Or.inl ⟨rfl, f, br⟩⟩
      rw [F_X6_needSign_s]
      exact bnd b1 ((if_pos rfl).trans (bnd (c_break N f c h6 hT.2.2.2.1.1) rfl))
    · obtain ⟨c1, m1, s1, t1, T1, fx, fy⟩ := both_step N hN hT
      have ff := (nx_b Z sz f hT.1.2).2.2 (by have := b3 rfl; omega)
      refine ⟨t, c1, m1, 1, by omega, C0.trans (bnd (v := c1) ?_ rfl), fun z => absurd z (by decide), fun _ => M0.trans (bnd b2 ((if_neg n1).trans (bnd t1 rfl))), frLC_P (frP_X fx), frLM_Q (frQ_Y fy), Or.inr ⟨rfl, _, T1, ff, FLT_up (FLT_cells hF (fx.1 94 6 (by omega)) (fx.1 94 7 (by omega)) (fy.1 510 25 (by omega)) (fy.1 510 26 (by omega))) (by omega), fun z => (fx.1 94 6 (by omega)).symm.trans z, RP_fr hR (fun x k _ _ => fx.1 x k (by omega)) (fun z => (fx.1 94 6 (by omega)).symm.trans z) (fun x k q => fy.1 x k (by omega))⟩⟩
      rw [F_X6_needSign_s]
      exact bnd b1 ((if_neg n1).trans (bnd s1 rfl))
  · -- one more
    obtain ⟨c1', m1, s1', t1, T1, fx, fy⟩ := both_step N hN hT
    have ec : c1' = c1 := Option.some.inj (s1'.symm.trans s1)
    subst ec
    have tb := tE_b Z sz f hT.1.2
    have ff := (nx_b Z sz f hT.1.2).2.2 (by omega)
    have t5 : t < 500 := by have := hT.1; have := tb.2.2.1 (by omega); omega
    have F1 : FLT c1' m1 (nx Z sz f) := FLT_up (FLT_cells hF (fx.1 94 6 (by omega)) (fx.1 94 7 (by omega)) (fy.1 510 25 (by omega)) (fy.1 510 26 (by omega))) (by omega)
    have R1 : RP j t c1' m1 := RP_fr hR (fun x k _ _ => fx.1 x k (by omega)) (fun z => (fx.1 94 6 (by omega)).symm.trans z) (fun x k q => fy.1 x k (by omega))
    obtain ⟨c2, m2, v, d1, d2, d3, d4, d5⟩ := test_both N j t hN T1 F1 R1 (by omega)
    have C0 : F_X3_readRule_21 Z0.1 N (F_X3_readRule_60 Z0.1 N) (k + 1) 239 (iz t) c = F_X3_readRule_21 Z0.1 N (F_X3_readRule_60 Z0.1 N) k 239 (iz ((t + 1 : Nat) : Int)) c2 := by
      rw [F_X3_readRule_21_s, if_neg (show ¬ (500 : Int32) ≤ iz (t : Int) from iz_nle (a := 500) (by omega)), r_239_0, a1, sb_eq, if_neg n1, d1, sb_eq, show iz (t : Int) + (1 : Int32) = iz ((t + 1 : Nat) : Int) from iz_add t 1]
    have M0 : ((F_X10_isWord Z0.1 N 510 (6385252 : Int64) m).bind fun u11 => (F_X10_ruleLine_35 Z0.1 N (F_X10_ruleLine_81 Z0.1 N) (k' + 1)) 510 u11.1 u11.2) = _ := bnd a2 ((F_X10_ruleLine_35_s Z0.1 N (F_X10_ruleLine_81 Z0.1 N) k' 510 1 m).trans ((if_neg n1).trans (bnd t1 (bnd d2 rfl))))
    have fc : frLC c c2 := frLC_tr (frLC_P (frP_X fx)) d3
    have fm : frLM m m2 := frLM_tr (frLM_Q (frQ_Y fy)) d4
    rcases d5 with ⟨v0, w, br⟩ | ⟨v1, f', T2, ff', F2, K2, R2⟩
    · obtain ⟨k, rfl⟩ : ∃ i, k = i + 1 := ⟨k - 1, by omega⟩
      exact ⟨t + 1, c2, m2, 0, by omega, C0.trans (b_rule21 N (t + 1) (by omega) k c2 br.1), fun _ => M0.trans (if_pos v0), fun z => absurd z (by decide), fc, fm, Or.inl ⟨rfl, w, br⟩⟩
    · have f'5 := T2.1
      obtain ⟨t', c3, m3, v3, e0, e1, e2, e3, e4, e5, e6⟩ := ih (500 - f') (by omega) k k' (t + 1) c2 m2 Z sz f' (by omega) (by omega) (by omega) (by omega) T2 F2 R2
      have nv : ¬ v = 0 := by rw [v1]; decide
      refine ⟨t', c3, m3, v3, e0, C0.trans e1, fun z => M0.trans ((if_neg nv).trans (e2 z)), fun z => M0.trans ((if_neg nv).trans (e3 z)), frLC_tr fc e4, frLM_tr fm e5, ?_⟩
      rcases e6 with z | ⟨z, f3, q1, q2, q3, q4, q5⟩
      · exact Or.inl z
      · exact Or.inr ⟨z, f3, q1, by omega, q3, fun y => (fx.1 94 6 (by omega)).symm.trans (K2 (q4 y)), q5⟩
