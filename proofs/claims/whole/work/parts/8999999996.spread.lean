/-! two: the class's rows of PARTS are what comes -/
theorem ic_ok (a n l : Nat) (h : a + n ≤ l) (hl : l ≤ 6000) : ic (iz (a : Int)) (iz (n : Int)) l := by
  unfold ic
  rw [iz_toInt (by omega) (by omega), iz_toInt (by omega) (by omega)]
  omega
theorem c_clr (N d k w : Nat) (rec) (hd : d < 9) : ∀ (q y kk : Nat) (c : DY), y + q = 10 → q < kk → ∃ c' : DY, F_X0_spread_16 Z0.1 N rec kk 124 (iz d) (iz k) w (iz ((10 * d : Nat) : Int)) (iz y) c = F_X0_spread_16 Z0.1 N rec (0 + 1) 124 (iz d) (iz k) w (iz ((10 * d : Nat) : Int)) 10 c' ∧ (∀ j : Nat, y ≤ j → j < 10 → gi c' 126 (10 * d + j) = 0) ∧ (∀ x j : Nat, ¬ (x = 126 ∧ 10 * d + y ≤ j ∧ j < 10 * d + 10) → gi c' x j = gi c x j) ∧ ∀ x j : Nat, gl c' x j = gl c x j := by
  intro q
  induction q with
  | zero =>
    intro y kk c hq hk
    obtain ⟨kk, rfl⟩ : ∃ i, kk = i + 1 := ⟨kk - 1, by omega⟩
    obtain rfl : y = 10 := by omega
    refine ⟨c, ?_, fun j h1 h2 => by omega, fun _ _ _ => rfl, fun _ _ => rfl⟩
    rw [F_X0_spread_16_s, F_X0_spread_16_s, if_pos (show (10 : Int32) ≤ iz ((10 : Nat) : Int) by decide), if_pos (show (10 : Int32) ≤ 10 by decide)]
  | succ q ih =>
    intro y kk c hq hk
    obtain ⟨kk, rfl⟩ : ∃ i, kk = i + 1 := ⟨kk - 1, by omega⟩
    obtain ⟨c', e1, e2, e3, e4⟩ := ih (y + 1) kk (si c 126 (10 * d + y) 0) (by omega) (by omega)
    refine ⟨c', ?_, fun j h1 h2 => ?_, fun x j h => ?_, fun x j => e4 x j⟩
    · rw [F_X0_spread_16_s, if_neg (show ¬ (10 : Int32) ≤ iz (y : Int) from iz_nle (a := 10) (by omega)), show iz ((10 * d : Nat) : Int) + iz (y : Int) = iz ((10 * d + y : Nat) : Int) from iz_add _ _, if_pos (show ib (iz ((10 * d + y : Nat) : Int)) 90 from iz_ib (by omega)), bd_eq, r_124_3, tnn _ (10 * d + y) rfl (by omega), show iz (y : Int) + (1 : Int32) = iz ((y + 1 : Nat) : Int) from iz_add y 1]
      exact e1
    · by_cases z : j = y
      · rw [z, e3 126 _ (by omega), gi_si_if, if_pos ⟨rfl, rfl⟩]
      · exact e2 j (by omega) h2
    · rw [e3 x j (by omega), gi_si_if, if_neg (by omega)]
theorem c_leaf (N d k w : Nat) (rec) (c : DY) (hd : d < 9) (hk : k ≤ 8) (g5 : gi c w 5 = iz (AWn c w 2 : Nat)) (hz : ∀ j : Nat, j < 10 → gi c 126 (10 * d + j) = 0) : ∃ c' : DY, F_X0_spread_58 Z0.1 N rec 124 (iz k) w (iz ((10 * d : Nat) : Int)) c = some c' ∧ (∀ j : Nat, j < 10 → gi c' 126 (10 * d + j) = iz ((if j = 0 then (if AWn c w 2 = 2 then 4 ^ k else 0) else if j = 1 then 4 ^ k else 0 : Nat) : Int)) ∧ (∀ x j : Nat, ¬ (x = 126 ∧ 10 * d ≤ j ∧ j < 10 * d + 10) → gi c' x j = gi c x j) ∧ ∀ x j : Nat, gl c' x j = gl c x j := by
  have aw := AWn_le c w 2
  have e1 : iz ((10 * d : Nat) : Int) + (1 : Int32) = iz ((10 * d + 1 : Nat) : Int) := iz_add _ 1
  have F81 : ∀ v : Int32, F_X0_spread_81 Z0.1 N rec 124 (iz k) (iz ((10 * d : Nat) : Int)) (gr Z0.1 124 3) (iz ((10 * d : Nat) : Int)) v c = some (si (si c 126 (10 * d) v) 126 (10 * d + 1) (iz ((4 ^ k : Nat) : Int))) := fun v => by
    rw [F_X0_spread_81_s, if_pos (show ib (iz ((10 * d : Nat) : Int)) 90 from iz_ib (by omega)), bd_eq, e1, if_pos (show ib (iz ((10 * d + 1 : Nat) : Int)) 90 from iz_ib (by omega)), bd_eq, r_124_3, tnn _ (10 * d) rfl (by omega), tnn _ (10 * d + 1) rfl (by omega), pow4_sh k hk]
  have res : ∀ (v : Int32) (V : Nat), v = iz (V : Nat) → (∀ j : Nat, j < 10 → gi (si (si c 126 (10 * d) v) 126 (10 * d + 1) (iz ((4 ^ k : Nat) : Int))) 126 (10 * d + j) = iz ((if j = 0 then V else if j = 1 then 4 ^ k else 0 : Nat) : Int)) := fun v V hv j hj => by
    by_cases z : j = 0
    · rw [z, if_pos rfl, Nat.add_zero, gi_si_if, if_neg (by omega), gi_si_if, if_pos ⟨rfl, rfl⟩, hv]
    · rw [if_neg z]
      by_cases y : j = 1
      · rw [y, if_pos rfl, gi_si_if, if_pos ⟨rfl, rfl⟩]
      · rw [if_neg y, gi_si_if, if_neg (by omega), gi_si_if, if_neg (by omega), hz j hj]
        rfl
  have fr : ∀ (v : Int32) (x j : Nat), ¬ (x = 126 ∧ 10 * d ≤ j ∧ j < 10 * d + 10) → gi (si (si c 126 (10 * d) v) 126 (10 * d + 1) (iz ((4 ^ k : Nat) : Int))) x j = gi c x j := fun v x j h => by
    rw [gi_si_if, if_neg (by omega), gi_si_if, if_neg (by omega)]
  have F := F_X0_spread_58_s Z0.1 N rec 124 (iz k) w (iz ((10 * d : Nat) : Int)) c
  rw [g5, F81, F81, pow4_sh k hk] at F
  by_cases z : AWn c w 2 = 2
  · rw [z, if_pos (show iz ((2 : Nat) : Int) = 2 from rfl)] at F
    refine ⟨_, F, fun j hj => ?_, fr _, fun _ _ => rfl⟩
    rw [if_pos z]
    exact res _ (4 ^ k) rfl j hj
  · rw [if_neg (show ¬ iz (AWn c w 2 : Nat) = 2 from iz_nei (b := 2) (by omega))] at F
    refine ⟨_, F, fun j hj => ?_, fr _, fun _ _ => rfl⟩
    rw [if_neg z]
    exact res _ 0 rfl j hj
theorem spread_ok {N n lg L W r : Nat} {wf : Int32} (hN : 900 ≤ N) (hn : n ≤ 8) : ∀ (k d dep : Nat) (c m : DY), d + k = n → k < dep → SPI N n lg L W wf r d c m → ∃ c' : DY, F_X0_spread Z0.1 N dep 124 (iz d) (iz k) c = some c' ∧ (∀ j : Nat, j < 10 → gi c' 126 (10 * d + j) = iz (TT N r k m j : Nat)) ∧ MEMO N n lg L W wf c' ∧ FRS d c c' := by
  intro k
  induction k with
  | zero =>
    intro d dep c m hdk hdep hS
    obtain ⟨dep, rfl⟩ : ∃ i, dep = i + 1 := ⟨dep - 1, by omega⟩
    obtain ⟨c1, e1, e2, e3, e4⟩ := c_clr N d 0 (130 + 12 * d) (F_X0_spread Z0.1 N dep) (by omega) 10 0 N c (by omega) (by omega)
    have g5 : gi c1 (130 + 12 * d) 5 = iz (AWn c1 (130 + 12 * d) 2 : Nat) := by
      rw [e3 _ _ (by omega), hS.1.2.2.2.2.2]
      exact congrArg (fun z : Nat => iz (z : Int)) (AWn_two (fun i _ => e3 _ _ (by omega))).symm
    obtain ⟨c2, f1, f2, f3, f4⟩ := c_leaf N d 0 (130 + 12 * d) (F_X0_spread Z0.1 N dep) c1 (by omega) (by omega) g5 (fun j hj => e2 j (by omega) hj)
    have aw : AWn c1 (130 + 12 * d) 2 = AWn c (130 + 12 * d) 2 := AWn_two (fun i _ => e3 _ _ (by omega))
    refine ⟨c2, ?_, fun j hj => ?_, MEMO_fr hS.2.2.2.2.2.2 (fun x y q => by rw [f3 x y (by omega), e3 x y (by omega)]) (fun s => by rw [f4, e4]), fun x y q1 _ _ _ _ _ _ => by rw [f3 x y (by omega), e3 x y (by omega)], fun x y _ => by rw [f4, e4]⟩
    · rw [F_X0_spread_s, if_pos (show ib (iz (d : Int)) 9 from iz_ib (by omega)), r_124_2, tnn _ d rfl (by omega), w_d d (by omega), show iz (d : Int) * (10 : Int32) = iz ((10 * d : Nat) : Int) from (iz_mul d 10).trans (congrArg iz (by omega))]
      refine Eq.trans e1 ?_
      rw [F_X0_spread_16_s, if_pos (by decide), if_pos (show iz ((0 : Nat) : Int) ≤ 0 by decide)]
      exact f1
    · rw [f2 j hj, TT_0, SR_arr hS.1, aw]
      have a2 := AWn_le c (130 + 12 * d) 2
      by_cases z : AWn c (130 + 12 * d) 2 = 2
      · rw [z, if_pos rfl, if_pos (show iz ((2 : Nat) : Int) = 2 from rfl)]
      · rw [if_neg z, if_neg (show ¬ iz (AWn c (130 + 12 * d) 2 : Nat) = 2 from iz_nei (b := 2) (by omega))]
  | succ k ih =>
    intro d dep c m hdk hdep hS
    obtain ⟨dep, rfl⟩ : ∃ i, dep = i + 1 := ⟨dep - 1, by omega⟩
    obtain ⟨c1, e1, e2, e3, e4⟩ := c_clr N d (k + 1) (130 + 12 * d) (F_X0_spread Z0.1 N dep) (by omega) 10 0 N c (by omega) (by omega)
    have S1' : SPI N n lg L W wf r d c1 m := SPI_fr (by omega) hS ⟨fun x y q _ _ _ => e3 x y (by omega), fun x y _ => e4 x y⟩ (MEMO_fr hS.2.2.2.2.2.2 (fun x y q => e3 x y (by omega)) (fun s => e4 _ _))
    have g5 := S1'.1.2.2.2.2.2
    have H : F_X0_spread Z0.1 N (dep + 1) 124 (iz d) (iz ((k + 1 : Nat) : Int)) c = F_X0_spread_16 Z0.1 N (F_X0_spread Z0.1 N dep) (0 + 1) 124 (iz d) (iz ((k + 1 : Nat) : Int)) (130 + 12 * d) (iz ((10 * d : Nat) : Int)) 10 c1 := by
      rw [F_X0_spread_s, if_pos (show ib (iz (d : Int)) 9 from iz_ib (by omega)), r_124_2, tnn _ d rfl (by omega), w_d d (by omega), show iz (d : Int) * (10 : Int32) = iz ((10 * d : Nat) : Int) from (iz_mul d 10).trans (congrArg iz (by omega))]
      exact e1
    rw [F_X0_spread_16_s, if_pos (by decide), if_neg (show ¬ iz ((k + 1 : Nat) : Int) ≤ 0 from iz_nle (b := 0) (by omega)), if_neg (show ¬ (8 : Int32) ≤ iz (d : Int) from iz_nle (a := 8) (by omega)), g5] at H
    have aw := AWn_le c1 (130 + 12 * d) 2
    by_cases z : AWn c1 (130 + 12 * d) 2 = 2
    · rw [z, if_pos (show iz ((2 : Nat) : Int) = 2 from rfl)] at H
      obtain ⟨c2, f1, f2, f3, f4⟩ := c_leaf N d (k + 1) (130 + 12 * d) (F_X0_spread Z0.1 N dep) c1 (by omega) (by omega) g5 (fun j hj => e2 j (by omega) hj)
      refine ⟨c2, H.trans f1, fun j hj => ?_, MEMO_fr S1'.2.2.2.2.2.2 (fun x y q => f3 x y (by omega)) (fun s => f4 _ _), fun x y q1 _ _ _ _ _ _ => by rw [f3 x y (by omega), e3 x y (by omega)], fun x y _ => by rw [f4, e4]⟩
      rw [f2 j hj, TT_gone N r L W (by omega) (k + 1) c1 m _ S1'.1 z, if_pos z]
      by_cases y : j = 0
      · rw [if_pos y, if_pos (Or.inl y)]
      · rw [if_neg y]
        by_cases u : j = 1
        · rw [if_pos u, if_pos (Or.inr u)]
        · rw [if_neg u, if_neg (by omega)]
    · rw [if_neg (show ¬ iz (AWn c1 (130 + 12 * d) 2 : Nat) = 2 from iz_nei (b := 2) (by omega))] at H
      obtain ⟨hSR, ⟨s2, s3⟩, ⟨s4, s5, s6⟩, s7, s8, s9, sM⟩ := id S1'
      obtain ⟨v0, v0b, v0e⟩ := s9 0 (by omega)
      obtain ⟨v1, v1b, v1e⟩ := s9 1 (by omega)
      obtain ⟨X, x1, x2⟩ := c_key N (by omega) c1 (130 + 12 * d) L W lg v0 v1 (SR_c hSR) s5 s2 v0e v1e (by omega) (by omega)
      obtain ⟨s, s512, sl'⟩ := c_slotK N X (iz ((k + 1 : Nat) : Int)) c1
      have w16 : WT16 c1 (130 + 12 * d) 15 := fun i hi => by
        obtain ⟨v, a, b⟩ := s9 i hi
        exact ⟨v, by omega, b⟩
      have xk : KN wf lg c1 (130 + 12 * d) = X.toBitVec.toNat := by
        rw [x2, s3]
        unfold KN
        rw [v0e, v1e, tnn _ v0 rfl (by omega), tnn _ v1 rfl (by omega)]
      rw [x1, sb_eq, sl', sb_eq] at H
      have is : ib (iz (s : Int)) 512 := iz_ib (by omega)
      have e10 : iz (s : Int) * (10 : Int32) = iz ((10 * s : Nat) : Int) := (iz_mul s 10).trans (congrArg iz (by omega))
      have t10 : (10 : Int32).toNatClampNeg = 10 := rfl
      rw [if_pos is, if_pos is, r_124_4, r_124_5, tnn _ s rfl (by omega)] at H
      -- what is found anew
      have anew : F_X0_spread Z0.1 N (dep + 1) 124 (iz d) (iz ((k + 1 : Nat) : Int)) c = F_X0_spread_157 Z0.1 N (F_X0_spread Z0.1 N dep) 124 (iz d) (iz ((k + 1 : Nat) : Int)) (iz ((10 * d : Nat) : Int)) X (iz s) c1 → ∃ c' : DY, F_X0_spread Z0.1 N (dep + 1) 124 (iz d) (iz ((k + 1 : Nat) : Int)) c = some c' ∧ (∀ j : Nat, j < 10 → gi c' 126 (10 * d + j) = iz (TT N r (k + 1) m j : Nat)) ∧ MEMO N n lg L W wf c' ∧ FRS d c c' := fun HH => by
        obtain ⟨c2, f1, f2, f3, f4⟩ := lots_ok (dep := dep) (k := k) hN (by omega) (fun c m h => ih (d + 1) dep c m (by omega) (by omega) h) S1' (fun j hj => e2 j (by omega) hj)
        have F157 := F_X0_spread_157_s Z0.1 N (F_X0_spread Z0.1 N dep) 124 (iz d) (iz ((k + 1 : Nat) : Int)) (iz ((10 * d : Nat) : Int)) X (iz s) c1
        rw [f1, sb_eq, if_pos is, bd_eq, if_pos is, bd_eq, e10, if_pos ⟨ic_ok (10 * d) 10 90 (by omega) (by omega), ic_ok (10 * s) 10 5120 (by omega) (by omega)⟩, bd_eq, r_124_3, r_124_4, r_124_5, r_124_6, tnn _ s rfl (by omega), tnn _ (10 * d) rfl (by omega), tnn _ (10 * s) rfl (by omega), t10] at F157
        obtain ⟨c3, hc3⟩ : ∃ c3 : DY, c3 = cpi (sl (si c2 128 s (iz ((k + 1 : Nat) : Int))) 127 s X) 126 129 (10 * d) (10 * s) 10 := ⟨_, rfl⟩
        rw [← hc3] at F157
        have g3 : ∀ x y : Nat, ¬ (x = 129 ∧ 10 * s ≤ y ∧ y < 10 * s + 10) → ¬ (x = 128 ∧ y = s) → gi c3 x y = gi c2 x y := fun x y q1 q2 => by
          rw [hc3, gi_cpi_if, if_neg q1]
          show gi (si c2 128 s (iz ((k + 1 : Nat) : Int))) x y = _
          rw [gi_si_if, if_neg q2]
        have g129 : ∀ j : Nat, j < 10 → gi c3 129 (10 * s + j) = iz (TT N r (k + 1) m j : Nat) := fun j hj => by
          rw [hc3, gi_cpi_if, if_pos ⟨rfl, by omega, by omega⟩]
          show gi (si c2 128 s (iz ((k + 1 : Nat) : Int))) 126 _ = _
          rw [gi_si_if, if_neg (by omega), show 10 * d + (10 * s + j - 10 * s) = 10 * d + j by omega]
          exact f2 j hj
        have g128 : gi c3 128 s = iz ((k + 1 : Nat) : Int) := by
          rw [hc3, gi_cpi_if, if_neg (by omega)]
          show gi (si c2 128 s (iz ((k + 1 : Nat) : Int))) 128 s = _
          rw [gi_si_if, if_pos ⟨rfl, rfl⟩]
        have l3 : ∀ x y : Nat, gl c3 x y = if x = 127 ∧ y = s then X else gl c2 x y := fun x y => by
          rw [hc3, gl_cpi_eq, gl_sl_if]
          rfl
        have gg : ∀ x y : Nat, 95 ≤ x → x ≤ 111 → gi c3 x y = gi c1 x y := fun x y q1 q2 => by
          rw [g3 x y (by omega) (by omega)]
          exact f4.1 x y (by omega) (by omega) (by omega) (by omega) (by omega) (by omega) (by omega)
        refine ⟨c3, HH.trans F157, fun j hj => by rw [g3 _ _ (by omega) (by omega)]; exact f2 j hj, fun s' hs' => ?_, fun x y q1 q2 q3 q4 q5 q6 q7 => ?_, fun x y q => ?_⟩
        · by_cases y : s' = s
          · refine Or.inr ⟨k + 1, by omega, by omega, by rw [y]; exact g128, fun a ma wa ra a1 a2 a3 a4 a5 j hj => ?_⟩
            rw [y, g129 j hj]
            rw [y, l3, if_pos ⟨rfl, rfl⟩] at a5
            have ga : ∀ x y : Nat, 95 ≤ x → x ≤ 111 → gi a x y = gi c1 x y := fun x y q1 q2 => (a2 x y q1 q2).trans (gg x y q1 q2)
            have kq := KQ_key hSR a1 ga s5 (by rw [a3, s8]; exact congrArg iz (by omega)) w16 a4 s7 (a5.trans xk.symm)
            rw [bisim N (by omega) lg L W s5 (k + 1) c1 m a ma _ r wa ra hSR a1 ⟨s4, s6⟩ kq j]
          · rcases f3 s' hs' with u | ⟨k', k1, k2, k3, k4⟩
            · exact Or.inl (by rw [g3 128 s' (by omega) (by omega)]; exact u)
            · refine Or.inr ⟨k', k1, k2, by rw [g3 128 s' (by omega) (by omega)]; exact k3, fun a ma wa ra a1 a2 a3 a4 a5 j hj => ?_⟩
              rw [l3, if_neg (by omega)] at a5
              rw [g3 129 _ (by omega) (by omega)]
              exact k4 a ma wa ra a1 (fun x y q1 q2 => by rw [a2 x y q1 q2, g3 x y (by omega) (by omega)]) a3 a4 a5 j hj
        · rw [g3 x y (by omega) (by omega), f4.1 x y q1 q2 q3 q4 q5 q6 q7, e3 x y (by omega)]
        · rw [l3, if_neg (by omega), f4.2 x y q, e4]
      by_cases kn : gi c1 128 s = iz ((k + 1 : Nat) : Int)
      · rw [if_pos kn] at H
        by_cases kx : gl c1 127 s = X
        · rw [if_pos ((lg0 _ _).mpr kx), e10, if_pos ⟨ic_ok (10 * s) 10 5120 (by omega) (by omega), ic_ok (10 * d) 10 90 (by omega) (by omega)⟩, bd_eq, r_124_3, r_124_6, tnn _ (10 * d) rfl (by omega), tnn _ (10 * s) rfl (by omega), t10] at H
          have me := sM s s512
          rw [kn] at me
          rcases me with u | ⟨k', k1, k2, k3, k4⟩
          · exact absurd u (iz_nei (b := 0) (by omega))
          · have ek : k' = k + 1 := by
              rw [iz_inj (by omega) (by omega) (by omega) (by omega)] at k3
              omega
            subst ek
            have kk := k4 c1 m _ r hSR (fun _ _ _ _ => rfl) (by rw [s8]; exact congrArg iz (by omega)) w16 (by rw [xk, kx])
            refine ⟨_, H, fun j hj => ?_, MEMO_fr sM (fun x y q => by rw [gi_cpi_if, if_neg (by omega)]) (fun s => gl_cpi_eq _ _ _ _ _ _ _ _), fun x y q1 q2 q3 q4 q5 q6 q7 => by rw [gi_cpi_if, if_neg (by omega), e3 x y (by omega)], fun x y q => by rw [gl_cpi_eq, e4]⟩
            rw [gi_cpi_if, if_pos ⟨rfl, by omega, by omega⟩, show 10 * s + (10 * d + j - 10 * d) = 10 * s + j by omega]
            exact kk j hj
        · rw [if_neg (fun u => kx ((lg0 _ _).mp u))] at H
          exact anew H
      · rw [if_neg kn] at H
        exact anew H
