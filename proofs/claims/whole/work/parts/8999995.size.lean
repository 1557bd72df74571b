/-! reading a PASSAGE: its size -/
theorem c_clear40 (N : Nat) : ∀ (q j k : Nat) (c : DY), j + q = 96 → q < k → ∃ c' : DY, F_X4_clear_40 Z0.1 N k 95 (iz j) c = some c' ∧ (∀ i : Nat, i < 96 → (j ≤ i → gi c' 96 i = 0) ∧ (i < j → gi c' 96 i = gi c 96 i)) ∧ (∀ x i : Nat, x ≠ 96 → gi c' x i = gi c x i) ∧ ∀ x i : Nat, gl c' x i = gl c x i := by
  intro q
  induction q with
  | zero =>
    intro j k c hq hk
    obtain ⟨k, rfl⟩ : ∃ i, k = i + 1 := ⟨k - 1, by omega⟩
    obtain rfl : j = 96 := by omega
    exact ⟨c, by rw [F_X4_clear_40_s, if_pos (by decide)], fun i hi => ⟨fun _ => by omega, fun _ => rfl⟩, fun _ _ _ => rfl, fun _ _ => rfl⟩
  | succ q ih =>
    intro j k c hq hk
    obtain ⟨k, rfl⟩ : ∃ i, k = i + 1 := ⟨k - 1, by omega⟩
    obtain ⟨c', e1, e2, e3, e4⟩ := ih (j + 1) k (si c 96 j 0) (by omega) (by omega)
    refine ⟨c', ?_, fun i hi => ⟨fun q1 => ?_, fun q1 => ?_⟩, fun x i q1 => ?_, fun x i => e4 x i⟩
    · rw [F_X4_clear_40_s, if_neg (show ¬ (96 : Int32) ≤ iz (j : Int) from iz_nle (a := 96) (by omega)), if_pos (show ib (iz (j : Int)) 96 from iz_ib (by omega)), bd_eq, cv_g1 cvg_try, show (95 + 1 : Nat) = 96 from rfl, tnn _ j rfl (by omega), show iz (j : Int) + (1 : Int32) = iz ((j + 1 : Nat) : Int) from iz_add j 1]
      exact e1
    · by_cases y : i = j
      · rw [(e2 i hi).2 (by omega), gi_si_if, if_pos ⟨rfl, y⟩]
      · exact (e2 i hi).1 (by omega)
    · rw [(e2 i hi).2 (by omega), gi_si_if, if_neg (by omega)]
    · rw [e3 x i q1, gi_si_if, if_neg (by omega)]
theorem clampN (A M : Nat) (hA : A ≤ 999) (hM : M ≤ 999) : ∃ L : Nat, L ≤ M ∧ (if (0 : Int32) < (if iz (M : Int) < iz (A : Int) then iz (M : Int) else iz (A : Int)) then (if iz (M : Int) < iz (A : Int) then iz (M : Int) else iz (A : Int)) else (0 : Int32)) = iz L ∧ (A ≤ M → L = A) := by
  by_cases y : M < A
  · rw [if_pos (show iz (M : Int) < iz (A : Int) from iz_lti (by omega))]
    refine ⟨M, by omega, ?_, fun z => by omega⟩
    by_cases z : 0 < M
    · rw [if_pos (show (0 : Int32) < iz (M : Int) from iz_lti (a := 0) (by omega))]
    · rw [if_neg (show ¬ (0 : Int32) < iz (M : Int) from iz_nlt (a := 0) (by omega)), show M = 0 by omega]
      rfl
  · rw [if_neg (show ¬ iz (M : Int) < iz (A : Int) from iz_nlt (by omega))]
    refine ⟨A, by omega, ?_, fun _ => rfl⟩
    by_cases z : 0 < A
    · rw [if_pos (show (0 : Int32) < iz (A : Int) from iz_lti (a := 0) (by omega))]
    · rw [if_neg (show ¬ (0 : Int32) < iz (A : Int) from iz_nlt (a := 0) (by omega)), show A = 0 by omega]
      rfl
theorem c_clear (N A B : Nat) (c : DY) (hN : 900 ≤ N) (hA : A ≤ 999) (hB : B ≤ 999) : ∃ c' : DY, F_X4_clear Z0.1 N 95 (iz A) (iz B) c = some c' ∧ (∃ L W : Nat, (L ≤ 16 ∧ W ≤ 6) ∧ gi c' 95 0 = iz L ∧ gi c' 95 1 = iz W ∧ (A ≤ 16 → L = A) ∧ (B ≤ 6 → W = B)) ∧ gi c' 95 2 = 0 ∧ gi c' 95 3 = 0 ∧ (∀ i : Nat, i < 96 → gi c' 96 i = 0) ∧ (∀ x i : Nat, x ≠ 95 → x ≠ 96 → gi c' x i = gi c x i) ∧ ∀ x i : Nat, gl c' x i = gl c x i := by
  obtain ⟨L, L1, L2, L3⟩ := clampN A 16 hA (by omega)
  obtain ⟨W, W1, W2, W3⟩ := clampN B 6 hB (by omega)
  obtain ⟨c', e1, e2, e3, e4⟩ := c_clear40 N 96 0 N (si (si (si (si c 95 0 (iz L)) 95 1 (iz W)) 95 2 0) 95 3 0) (by omega) (by omega)
  refine ⟨c', ?_, ⟨L, W, ⟨L1, W1⟩, ?_, ?_, L3, W3⟩, ?_, ?_, fun i hi => (e2 i hi).1 (by omega), fun x i q1 q2 => ?_, fun x i => e4 x i⟩
  · rw [F_X4_clear_s, show (16 : Int32) = iz ((16 : Nat) : Int) from rfl, show (6 : Int32) = iz ((6 : Nat) : Int) from rfl, L2, W2, bd_eq, bd_eq, bd_eq, bd_eq]
    exact e1
  · rw [e3 95 0 (by omega), gi_si_if, if_neg (by omega), gi_si_if, if_neg (by omega), gi_si_if, if_neg (by omega), gi_si_if, if_pos ⟨rfl, rfl⟩]
  · rw [e3 95 1 (by omega), gi_si_if, if_neg (by omega), gi_si_if, if_neg (by omega), gi_si_if, if_pos ⟨rfl, rfl⟩]
  · rw [e3 95 2 (by omega), gi_si_if, if_neg (by omega), gi_si_if, if_pos ⟨rfl, rfl⟩]
  · rw [e3 95 3 (by omega), gi_si_if, if_pos ⟨rfl, rfl⟩]
  · rw [e3 x i (by omega), gi_si_if, if_neg (by omega), gi_si_if, if_neg (by omega), gi_si_if, if_neg (by omega), gi_si_if, if_neg (by omega)]
theorem m_inN (N : Nat) (v lo hi : Int) (m : DY) (h1 : 0 ≤ v ∧ v ≤ 999) (h2 : 0 ≤ lo ∧ lo ≤ 999) (h3 : 0 ≤ hi ∧ hi ≤ 999) : F_X10_in Z0.1 N (iz v) (iz lo) (iz hi) m = some (if lo ≤ v ∧ v ≤ hi then 1 else 0, m) := by
  rw [m_in]
  by_cases a : v < lo
  · rw [if_pos (show iz v < iz lo from iz_lti (by omega)), if_neg (by omega)]
  · rw [if_neg (show ¬ iz v < iz lo from iz_nlt (by omega))]
    by_cases b : hi < v
    · rw [if_pos (show iz hi < iz v from iz_lti (by omega)), if_neg (by omega)]
    · rw [if_neg (show ¬ iz hi < iz v from iz_nlt (by omega)), if_pos (by omega)]
theorem size_both {c m : DY} {Z : Nat → Int} {sz f : Nat} (N : Nat) (hN : 900 ≤ N) (hT : TKS c m Z sz f) (hF : FLT c m f) (h31 : gi m 510 31 = 0) (h32 : gi m 510 32 = 0) (h528 : ∀ i : Nat, i < 96 → gi m 528 i = 0) : ∃ (c' m' : DY) (v : Int32), F_X5_readSize Z0.1 N 238 c = some c' ∧ F_X10_sizeLine Z0.1 N 510 m = some (v, m') ∧ LO c m c' m' v Z sz f := by
  have n1 : ¬ (1 : Int32) = 0 := by decide
  have f5 : f ≤ 500 := by have := hT.1; omega
  have n6 := FLT_n1 hF
  have C0 := F_X5_readSize_s Z0.1 N 238 c
  rw [r_238_0, r_238_1] at C0
  have M0 := F_X10_sizeLine_s Z0.1 N 510 m
  have W0 := F_X6_needWord_s Z0.1 N 94 0 c
  -- broken: all that is left
  have brkC : ∀ (c1 : DY) (A B : Nat), A ≤ 999 → B ≤ 999 → frP c c1 → gi c1 94 6 = 1 → ∃ c2 : DY, F_X4_clear Z0.1 N 95 (iz A) (iz B) c1 = some c2 ∧ frLC c c2 ∧ gi c2 94 6 = gi c1 94 6 ∧ gi c2 94 7 = gi c1 94 7 := fun c1 A B hA hB fp b => by
    obtain ⟨c2, e1, _, _, _, _, e6, _⟩ := c_clear N A B c1 hN hA hB
    exact ⟨c2, e1, fun x k q => by rw [e6 x k (by omega) (by omega)]; exact fp.1 x k (by omega), e6 94 6 (by omega) (by omega), e6 94 7 (by omega) (by omega)⟩
  rcases take_both N 0 _ hN hT n6 wok_size with ⟨a1, a2, _⟩ | ⟨c1, m1, a1, a2, a3, _, T1, ff1, fx1, fy1⟩
  · -- another word
    obtain ⟨br, p1, p2⟩ := brk_both (c := c) (m := m) (f := f) f5
    obtain ⟨c2, e1, e2, e3, e4⟩ := brkC _ 0 0 (by omega) (by omega) p1 br.1
    refine ⟨c2, _, 0, ?_, ?_, e2, frLM_Q p2, Or.inl ⟨rfl, f, e3.trans br.1, e4.trans br.2.1, br.2.2⟩⟩
    · rw [C0, W0]
      refine bnd (bnd a1 ((if_pos rfl).trans (bnd (c_break N f c n6 hT.2.2.2.1.1) rfl))) ?_
      refine bnd (b_num_ N _ _ _ br.1) (bnd (b_num_ N _ _ _ br.1) (bnd (b_needSign N 59 _ br.1) (bnd e1 rfl)))
    · rw [M0]
      exact bnd a2 ((if_pos rfl).trans (bnd (m_stops N f m hT.2.2.2.1.2) (if_pos (show zb (0 : Int32) by decide))))
  · have W1 : F_X6_needWord Z0.1 N 94 0 c = some c1 := W0.trans (bnd a1 (if_neg n1))
    rw [W1, sb_eq] at C0
    rw [a2, sb_eq, if_neg n1, a3, sb_eq, bd_eq] at M0
    obtain ⟨m2, hm2⟩ : ∃ m2 : DY, m2 = si m1 510 28 1 := ⟨_, rfl⟩
    have o2 : ∀ x k : Nat, ¬ (x = 510 ∧ k = 28) → gi m2 x k = gi m1 x k := fun x k q => by rw [hm2, gi_si_if, if_neg q]
    have T2 : TKS c1 m2 Z sz (nx Z sz f) := TKS_fr T1 (fun _ _ _ => rfl) (fun x k q => o2 x k (by omega)) (by rw [hm2]; rfl)
    have F1 : FLT c1 m2 (nx Z sz f) := FLT_up (FLT_cells hF (fx1.1 94 6 (by omega)) (fx1.1 94 7 (by omega)) ((o2 510 25 (by omega)).trans (fy1.1 510 25 (by omega))) ((o2 510 26 (by omega)).trans (fy1.1 510 26 (by omega)))) (by omega)
    rw [← hm2] at M0
    have P1 : frP c c1 := frP_X fx1
    have Q2 : frLM m m2 := frLM_tr (frLM_Q (frQ_Y fy1)) (fun x k q => o2 x k (by omega))
    rcases num_both N 2 16 16 hN T2 F1 (by omega) (by omega) (by omega) (fun _ => rfl) with ⟨c3, m3, b1, b2, br, p1, p2⟩ | ⟨v, c3, m3, hv, b1, b2, T3, F3, ff3, g27, p1, p2, hin, hso, hns⟩
    · obtain ⟨c4, e1, e2, e3, e4⟩ := brkC c3 0 0 (by omega) (by omega) (frP_tr P1 p1) br.1
      refine ⟨c4, m3, 0, ?_, ?_, e2, frLM_tr Q2 (frLM_Q p2), Or.inl ⟨rfl, _, e3.trans br.1, e4.trans br.2.1, br.2.2⟩⟩
      · rw [C0]
        exact bnd b1 (bnd (b_num_ N _ _ _ br.1) (bnd (b_needSign N 59 _ br.1) (bnd e1 rfl)))
      · rw [M0]
        exact bnd b2 (if_pos rfl)
    · have C1 := C0.trans (bnd b1 rfl)
      have M1 := M0.trans (bnd b2 (if_neg n1))
      obtain ⟨L, hL, M2⟩ : ∃ L : Nat, (L ≤ 16 ∧ (2 ≤ v ∧ v ≤ 16 → (L : Int) = v)) ∧ F_X10_sizeLine Z0.1 N 510 m = F_X10_sizeLine_58 Z0.1 N 510 510 (iz L) m3 := by
        rw [M1, g27, show (2 : Int32) = iz 2 from rfl, show (16 : Int32) = iz 16 from rfl, m_inN N v 2 16 m3 hv (by omega) (by omega), sb_eq]
        by_cases y : 2 ≤ v ∧ v ≤ 16
        · rw [if_pos y, if_neg n1]
          exact ⟨v.toNat, ⟨by omega, fun _ => by omega⟩, by rw [show ((v.toNat : Nat) : Int) = v by omega]; rw [g27]⟩
        · rw [if_neg y, if_pos rfl]
          exact ⟨2, ⟨by omega, fun z => absurd z y⟩, rfl⟩
      rw [F_X10_sizeLine_58_s, bd_eq] at M2
      obtain ⟨m4, hm4⟩ : ∃ m4 : DY, m4 = si m3 510 29 (iz L) := ⟨_, rfl⟩
      rw [← hm4] at M2
      have o4 : ∀ x k : Nat, ¬ (x = 510 ∧ k = 29) → gi m4 x k = gi m3 x k := fun x k q => by rw [hm4, gi_si_if, if_neg q]
      have T4 : TKS c3 m4 Z sz (nx Z sz (nx Z sz f)) := TKS_fr T3 (fun _ _ _ => rfl) (fun x k q => o4 x k (by omega)) (by rw [hm4]; rfl)
      have F4 : FLT c3 m4 (nx Z sz (nx Z sz f)) := FLT_up (FLT_cells F3 rfl rfl (o4 510 25 (by omega)) (o4 510 26 (by omega))) (by omega)
      have P3 : frP c c3 := frP_tr P1 p1
      have Q4 : frLM m m4 := frLM_tr Q2 (frLM_tr (frLM_Q p2) (fun x k q => o4 x k (by omega)))
      rcases num_both N 1 6 6 hN T4 F4 (by omega) (by omega) (by omega) (fun _ => rfl) with ⟨c5, m5, d1, d2, br, p3, p4⟩ | ⟨w, c5, m5, hw, d1, d2, T5, F5, ff5, k27, p3, p4, kin, kso, kns⟩
      · obtain ⟨c6, e1, e2, e3, e4⟩ := brkC c5 v.toNat 0 (by omega) (by omega) (frP_tr P3 p3) br.1
        rw [show ((v.toNat : Nat) : Int) = v by omega] at e1
        refine ⟨c6, m5, 0, ?_, ?_, e2, frLM_tr Q4 (frLM_Q p4), Or.inl ⟨rfl, _, e3.trans br.1, e4.trans br.2.1, br.2.2⟩⟩
        · rw [C1]
          exact bnd d1 (bnd (b_needSign N 59 _ br.1) (bnd e1 rfl))
        · rw [M2]
          exact bnd d2 (if_pos rfl)
      · have C2 := C1.trans (bnd d1 rfl)
        have M3 := M2.trans (bnd d2 (if_neg n1))
        obtain ⟨W, hW, M4⟩ : ∃ W : Nat, (W ≤ 6 ∧ (1 ≤ w ∧ w ≤ 6 → (W : Int) = w)) ∧ F_X10_sizeLine Z0.1 N 510 m = F_X10_sizeLine_95 Z0.1 N 510 510 (iz W) m5 := by
          rw [M3, k27, show (1 : Int32) = iz 1 from rfl, show (6 : Int32) = iz 6 from rfl, m_inN N w 1 6 m5 hw (by omega) (by omega), sb_eq]
          by_cases y : 1 ≤ w ∧ w ≤ 6
          · rw [if_pos y, if_neg (show ¬ (1 : Int32) = 0 by decide)]
            exact ⟨w.toNat, ⟨by omega, fun _ => by omega⟩, by rw [show ((w.toNat : Nat) : Int) = w by omega]; rw [k27]⟩
          · rw [if_neg y, if_pos rfl]
            exact ⟨1, ⟨by omega, fun z => absurd z y⟩, rfl⟩
        rw [F_X10_sizeLine_95_s, bd_eq] at M4
        obtain ⟨m6, hm6⟩ : ∃ m6 : DY, m6 = si m5 510 30 (iz W) := ⟨_, rfl⟩
        rw [← hm6] at M4
        have o6 : ∀ x k : Nat, ¬ (x = 510 ∧ k = 30) → gi m6 x k = gi m5 x k := fun x k q => by rw [hm6, gi_si_if, if_neg q]
        have T6 : TKS c5 m6 Z sz (nx Z sz (nx Z sz (nx Z sz f))) := TKS_fr T5 (fun _ _ _ => rfl) (fun x k q => o6 x k (by omega)) (by rw [hm6]; rfl)
        have F6 : FLT c5 m6 (nx Z sz (nx Z sz (nx Z sz f))) := FLT_up (FLT_cells F5 rfl rfl (o6 510 25 (by omega)) (o6 510 26 (by omega))) (by omega)
        have P5 : frP c c5 := frP_tr P3 p3
        have Q6 : frLM m m6 := frLM_tr Q4 (frLM_tr (frLM_Q p4) (fun x k q => o6 x k (by omega)))
        rcases pass_both N hN T6 (FLT_n1 F6) with ⟨c7, m7, s1, s2, br, p5, p6⟩ | ⟨c7, m7, s1, s2, T7, ff7, fx7, fy7⟩
        · obtain ⟨c8, e1, e2, e3, e4⟩ := brkC c7 v.toNat w.toNat (by omega) (by omega) (frP_tr P5 p5) br.1
          rw [show ((v.toNat : Nat) : Int) = v by omega, show ((w.toNat : Nat) : Int) = w by omega] at e1
          refine ⟨c8, m7, 0, ?_, ?_, e2, frLM_tr Q6 (frLM_Q p6), Or.inl ⟨rfl, _, e3.trans br.1, e4.trans br.2.1, br.2.2⟩⟩
          · rw [C2]
            exact bnd s1 (bnd e1 rfl)
          · rw [M4]
            exact bnd s2 (if_pos (show zb (0 : Int32) by decide))
        · obtain ⟨c8, e1, ⟨L', W', ⟨l1, l2⟩, l3, l4, l5, l6⟩, e2, e3, e4, e5, e6⟩ := c_clear N v.toNat w.toNat c7 hN (by omega) (by omega)
          rw [show ((v.toNat : Nat) : Int) = v by omega, show ((w.toNat : Nat) : Int) = w by omega] at e1
          have P7 : frP c c7 := frP_tr P5 (frP_X fx7)
          have q7 := frQ_Y fy7
          have g29 : gi m7 510 29 = iz L := by rw [q7.1 510 29 (by omega), o6 510 29 (by omega), p4.1 510 29 (by omega), hm4, gi_si_if, if_pos ⟨rfl, rfl⟩]
          have g30 : gi m7 510 30 = iz W := by rw [q7.1 510 30 (by omega), hm6, gi_si_if, if_pos ⟨rfl, rfl⟩]
          have gx : ∀ x k : Nat, x = 510 ∧ (k = 31 ∨ k = 32) ∨ x = 528 → gi m7 x k = gi m x k := fun x k q => by rw [q7.1 x k (by omega), o6 x k (by omega), p4.1 x k (by omega), o4 x k (by omega), p2.1 x k (by omega), o2 x k (by omega), fy1.1 x k (by omega)]
          have F8 : FLT c8 m7 (nx Z sz (nx Z sz (nx Z sz (nx Z sz f)))) := FLT_up (FLT_cells F6 ((e5 94 6 (by omega) (by omega)).trans (fx7.1 94 6 (by omega))) ((e5 94 7 (by omega) (by omega)).trans (fx7.1 94 7 (by omega))) (fy7.1 510 25 (by omega)) (fy7.1 510 26 (by omega))) (by omega)
          have T8 : TKS c8 m7 Z sz (nx Z sz (nx Z sz (nx Z sz (nx Z sz f)))) := TKS_fr T7 (fun x k q => e5 x k (by omega) (by omega)) (fun _ _ _ => rfl) rfl
          have keep : gi c5 94 6 = 0 → gi c 94 6 = 0 := fun z => (fx1.1 94 6 (by omega)).symm.trans (hso (kso z).1).1
          refine ⟨c8, m7, 1, ?_, ?_, fun x k q => by rw [e5 x k (by omega) (by omega)]; exact P7.1 x k (by omega), frLM_tr Q6 (frLM_Q q7), Or.inr ⟨rfl, _, T8, by omega, F8, fun z => keep ((fx7.1 94 6 (by omega)).symm.trans ((e5 94 6 (by omega) (by omega)).symm.trans z)), ⟨L', W', 0, ⟨l1, l2, by omega⟩, l3, l4, e3⟩, ⟨L, W, 0, ⟨hL.1, hW.1, by omega⟩, g29, g30, (gx _ _ (by omega)).trans h31, fun i hi => by omega⟩, fun z => ?_⟩⟩
          · rw [C2]
            exact bnd s1 (bnd e1 rfl)
          · rw [M4]
            exact bnd s2 (if_pos (show zb (1 : Int32) by decide))
          · have z5 : gi c5 94 6 = 0 := (fx7.1 94 6 (by omega)).symm.trans ((e5 94 6 (by omega) (by omega)).symm.trans z)
            obtain ⟨y1, y2, y3, _⟩ := kso z5
            obtain ⟨y4, y5, y6, _⟩ := hso y1
            have eL : L' = L := by have := l5 (by omega); have := hL.2 (by omega); omega
            have eW : W' = W := by have := l6 (by omega); have := hW.2 (by omega); omega
            refine ⟨L, W, 0, ⟨hL.1, hW.1, by omega⟩, ⟨by rw [l3, eL], g29⟩, ⟨by rw [l4, eW], g30⟩, ⟨e3, (gx _ _ (by omega)).trans h31⟩, ?_, fun i hi => ⟨?_, Or.inl (e4 i hi)⟩, fun x y hx hy q => absurd (e4 _ (by omega)) q, fun i hi => by omega, fun i j hi => by omega⟩
            · rw [e2, gx _ _ (by omega), h32]
            · rw [e4 i hi, gx 528 i (by omega), h528 i hi]
