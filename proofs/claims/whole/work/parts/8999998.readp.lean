/-! reading a PASSAGE, whole -/
theorem m_clear50 (N : Nat) (a : Int32) : ∀ (q j k : Nat) (m : DY), j + q = 96 → q < k → ∃ m' : DY, F_X10_passage_50 Z0.1 N k 510 a (iz j) m = ((F_X10_token Z0.1 N 510 m').bind fun u1 => (F_X10_sizeLine Z0.1 N 510 u1).bind fun u3 => (F_X10_passage_80 Z0.1 N N) 510 a u3.1 (0 : Int32) u3.2) ∧ (∀ i : Nat, i < 96 → (j ≤ i → gi m' 528 i = 0) ∧ (i < j → gi m' 528 i = gi m 528 i)) ∧ (∀ x i : Nat, x ≠ 528 → gi m' x i = gi m x i) ∧ ∀ x i : Nat, gl m' x i = gl m x i := by
  intro q
  induction q with
  | zero =>
    intro j k m hq hk
    obtain ⟨k, rfl⟩ : ∃ i, k = i + 1 := ⟨k - 1, by omega⟩
    obtain rfl : j = 96 := by omega
    exact ⟨m, by rw [F_X10_passage_50_s, if_pos (by decide)], fun i hi => ⟨fun _ => by omega, fun _ => rfl⟩, fun _ _ _ => rfl, fun _ _ => rfl⟩
  | succ q ih =>
    intro j k m hq hk
    obtain ⟨k, rfl⟩ : ∃ i, k = i + 1 := ⟨k - 1, by omega⟩
    obtain ⟨m', e1, e2, e3, e4⟩ := ih (j + 1) k (si m 528 j 0) (by omega) (by omega)
    refine ⟨m', ?_, fun i hi => ⟨fun q1 => ?_, fun q1 => ?_⟩, fun x i q1 => ?_, fun x i => e4 x i⟩
    · rw [F_X10_passage_50_s, if_neg (show ¬ (96 : Int32) ≤ iz (j : Int) from iz_nle (a := 96) (by omega)), if_pos (show ib (iz (j : Int)) 96 from iz_ib (by omega)), bd_eq, r_510_33, tnn _ j rfl (by omega), show iz (j : Int) + (1 : Int32) = iz ((j + 1 : Nat) : Int) from iz_add j 1]
      exact e1
    · by_cases y : i = j
      · rw [(e2 i hi).2 (by omega), gi_si_if, if_pos ⟨rfl, y⟩]
      · exact (e2 i hi).1 (by omega)
    · rw [(e2 i hi).2 (by omega), gi_si_if, if_neg (by omega)]
    · rw [e3 x i q1, gi_si_if, if_neg (by omega)]
theorem open_c (N sz : Nat) (c : DY) (h5 : sz ≤ 500) : ∃ c1 : DY, (∀ c2 : DY, F_X6_step Z0.1 N 94 c1 = some c2 → F_X6_open Z0.1 N 94 (iz sz) c = some c2) ∧ gi c1 94 1 = iz sz ∧ gi c1 94 4 = 0 ∧ gi c1 94 6 = 0 ∧ gi c1 94 7 = -1 ∧ ∀ x k : Nat, x ≠ 94 → gi c1 x k = gi c x k := by
  obtain ⟨L, L1, L2, L3⟩ := clampN sz 500 (by omega) (by omega)
  have eL := L3 h5
  subst eL
  refine ⟨si (si (si (si c 94 1 (iz L)) 94 4 0) 94 6 0) 94 7 (-1), fun c2 h => ?_, ?_, ?_, ?_, ?_, fun x k q => ?_⟩
  · rw [F_X6_open_s, show (500 : Int32) = iz ((500 : Nat) : Int) from rfl, L2, bd_eq, bd_eq, bd_eq, bd_eq]
    exact bnd h rfl
  · rw [gi_si_if, if_neg (by omega), gi_si_if, if_neg (by omega), gi_si_if, if_neg (by omega), gi_si_if, if_pos ⟨rfl, rfl⟩]
  · rw [gi_si_if, if_neg (by omega), gi_si_if, if_neg (by omega), gi_si_if, if_pos ⟨rfl, rfl⟩]
  · rw [gi_si_if, if_neg (by omega), gi_si_if, if_pos ⟨rfl, rfl⟩]
  · rw [gi_si_if, if_pos ⟨rfl, rfl⟩]
  · rw [gi_si_if, if_neg (by omega), gi_si_if, if_neg (by omega), gi_si_if, if_neg (by omega), gi_si_if, if_neg (by omega)]
theorem readp_both (N sz : Nat) (Z : Nat → Int) (a : Int32) (c m : DY) (hN : 900 ≤ N) (h5 : sz ≤ 500) (b1 : BYT c Z) (b2 : BYM m Z) (h19 : gi m 510 19 = iz sz) (h18 : gi m 510 18 = 0) (h25 : gi m 510 25 = 0) : ∃ (c' m' : DY) (v : Int32), F_X5_read Z0.1 N 238 (iz sz) c = some (if gi c' 94 6 = 0 then 1 else 0, c') ∧ F_X10_passage_38 Z0.1 N 510 a m = F_X10_passage_117 Z0.1 N 510 a v m' ∧ frLC c c' ∧ frLM m m' ∧ ENDS c' m' v ∧ (gi c' 94 6 = 0 → GRN c' m') := by
  obtain ⟨c1, o1, o2, o3, o4, o5, o6⟩ := open_c N sz c h5
  obtain ⟨m1, hm1⟩ : ∃ m1 : DY, m1 = si (si m 510 31 0) 510 32 0 := ⟨_, rfl⟩
  obtain ⟨m2, p1, p2, p3, p4⟩ := m_clear50 N a 96 0 N m1 (by omega) (by omega)
  have q1 : ∀ x k : Nat, ¬ (x = 510 ∧ (k = 31 ∨ k = 32)) → gi m1 x k = gi m x k := fun x k q => by rw [hm1, gi_si_if, if_neg (by omega), gi_si_if, if_neg (by omega)]
  have q2 : ∀ x k : Nat, x ≠ 528 → ¬ (x = 510 ∧ (k = 31 ∨ k = 32)) → gi m2 x k = gi m x k := fun x k w1 w2 => (p3 x k w1).trans (q1 x k w2)
  obtain ⟨f, c2, m3, s1, s2, s3, s4, s5⟩ := first_both N sz Z c1 m2 hN h5 o2 ((q2 510 19 (by omega) (by omega)).trans h19) (fun i hi => by rw [o6 3 i (by omega)]; exact b1 i hi) (fun i hi => by rw [q2 511 i (by omega) (by omega)]; exact b2 i hi) o3 ((q2 510 18 (by omega) (by omega)).trans h18)
  have F : FLT c2 m3 f := Or.inl ⟨(s4.1 94 6 (by omega)).trans o4, (s4.1 94 7 (by omega)).trans o5, by rw [s5.1 510 25 (by omega), q2 510 25 (by omega) (by omega)]; exact h25⟩
  obtain ⟨c3, m4, v, t1, t2, t3, t4, t5⟩ := size_both N hN s3 F (by rw [s5.1 510 31 (by omega), p3 510 31 (by omega), hm1, gi_si_if, if_neg (by omega), gi_si_if, if_pos ⟨rfl, rfl⟩]) (by rw [s5.1 510 32 (by omega), p3 510 32 (by omega), hm1, gi_si_if, if_pos ⟨rfl, rfl⟩]) (fun i hi => by rw [s5.1 528 i (by omega)]; exact (p2 i hi).1 (by omega))
  have C0 : F_X5_read Z0.1 N 238 (iz sz) c = F_X5_read_14 Z0.1 N N 238 (iz ((0 : Nat) : Int)) c3 := by
    rw [F_X5_read_s, r_238_0]
    exact bnd (o1 c2 s1) (bnd t1 rfl)
  have M0 : F_X10_passage_38 Z0.1 N 510 a m = F_X10_passage_80 Z0.1 N N 510 a v (iz ((0 : Nat) : Int)) m4 := by
    rw [F_X10_passage_38_s, bd_eq, bd_eq, ← hm1]
    exact p1.trans (bnd s2 (bnd t2 rfl))
  have fc : frLC c c3 := frLC_tr (fun x k q => by rw [s4.1 x k (by omega), o6 x k (by omega)]) t3
  have fm : frLM m m4 := frLM_tr (fun x k q => by rw [s5.1 x k (by omega), q2 x k (by omega) (by omega)]) t4
  have fin : ∀ c4 : DY, F_X5_read_62 Z0.1 N 238 c4 = some (if gi c4 94 6 = 0 then 1 else 0, c4) := fun c4 => by
    rw [F_X5_read_62_s, r_238_0, c_sound, sb_eq]
    by_cases z : gi c4 94 6 = 0
    · rw [if_pos z]; exact if_pos (show zb (1 : Int32) by decide)
    · rw [if_neg z]; exact if_pos (show zb (0 : Int32) by decide)
  rcases t5 with ⟨v0, w, br⟩ | ⟨v1, f', T, ff, F', K, P⟩
  · obtain ⟨n, rfl⟩ : ∃ i, N = i + 1 := ⟨N - 1, by omega⟩
    refine ⟨c3, m4, 0, C0.trans (Eq.trans ?_ (fin c3)), M0.trans ?_, fc, fm, Or.inl ⟨rfl, w, br⟩, fun z => absurd (br.1.symm.trans z) (by decide)⟩
    · rw [F_X5_read_14_s, r_238_0, if_neg (by decide), c_goes _ c3 br.1, sb_eq, if_pos rfl]
    · rw [F_X10_passage_80_s, v0, if_pos rfl]
  · have f5 := T.1
    obtain ⟨c4, m5, v4, d1, d2, d3, d4, d5, d6⟩ := lines_both N hN a (500 - f') N 0 c3 m4 Z sz f' (by omega) (by omega) (by omega) T F' P (fun z => by omega)
    rw [v1] at M0
    refine ⟨c4, m5, v4, C0.trans (d1.trans (fin c4)), M0.trans d2, frLC_tr fc d3, frLM_tr fm d4, d5, fun z => ?_⟩
    rcases id d5 with ⟨_, w, br⟩ | ⟨e1, _⟩
    · exact absurd (br.1.symm.trans z) (by decide)
    · exact (d6 e1).2.2 z
