/-! reading a PASSAGE: all its lines -/
/-- what reading leaves -/
def ENDS (c' m' : DY) (v : Int32) : Prop := (v = 0 ∧ ∃ w : Nat, BRK c' m' w) ∨ (v = 1 ∧ FLT c' m' 501)
theorem c_goes (N : Nat) (c : DY) (b : gi c 94 6 = 1) : F_X6_goesOn Z0.1 N 94 c = some (0, c) := by rw [F_X6_goesOn_s, if_pos b]
theorem c_goes1 (N : Nat) (c : DY) (b : gi c 94 6 ≠ 1) : F_X6_goesOn Z0.1 N 94 c = some (if gi c 94 2 = 0 then 0 else 1, c) := by
  rw [F_X6_goesOn_s, if_neg b]
  by_cases z : gi c 94 2 = 0
  · rw [if_pos z, if_pos z]
  · rw [if_neg z, if_neg z]
theorem lines_both (N : Nat) (hN : 900 ≤ N) (a : Int32) : ∀ (q k j : Nat) (c m : DY) (Z : Nat → Int) (sz f : Nat), f + q = 500 → q + 1 < k → j ≤ f → TKS c m Z sz f → FLT c m f → PS c m → (40 < j → gi c 94 6 ≠ 0) → ∃ (c' m' : DY) (v : Int32), F_X5_read_14 Z0.1 N k 238 (iz j) c = F_X5_read_62 Z0.1 N 238 c' ∧ F_X10_passage_80 Z0.1 N k 510 a 1 (iz j) m = F_X10_passage_117 Z0.1 N 510 a v m' ∧ frLC c c' ∧ frLM m m' ∧ ENDS c' m' v ∧ (v = 1 → PS c' m') := by
  have n1 : ¬ (1 : Int32) = 0 := by decide
  intro q
  induction q using Nat.strongRecOn with
  | ind q ih =>
  intro k j c m Z sz f hf hk hj hT hF hP h40
  obtain ⟨k, rfl⟩ : ∃ i, k = i + 1 := ⟨k - 1, by omega⟩
  obtain ⟨kc0, km0, kc2, km3, kc3, km4, _, _⟩ := kinds hT
  have n6 := FLT_n1 hF
  have sf := hT.1
  by_cases e : kD Z sz f = 0
  · -- nothing is left
    refine ⟨c, m, 1, ?_, ?_, frLC_re c, frLM_re m, Or.inr ⟨rfl, FLT_up hF (by omega)⟩, fun _ => hP⟩
    · rw [F_X5_read_14_s, r_238_0]
      by_cases y : 500 ≤ j
      · rw [if_pos (show (500 : Int32) ≤ iz (j : Int) from iz_lei (a := 500) (by omega))]
      · rw [if_neg (show ¬ (500 : Int32) ≤ iz (j : Int) from iz_nle (a := 500) (by omega)), c_goes1 N c n6, if_pos (kc0.mpr e), sb_eq, if_pos rfl]
    · rw [F_X10_passage_80_s, if_neg n1, if_pos (km0.mpr e)]
  · have lt := ((tE_b Z sz f sf.2).2.2.1 e).2
    have C0 : F_X5_read_14 Z0.1 N (k + 1) 238 (iz j) c = (if iz (j : Int) < (40 : Int32) then F_X5_read_52 Z0.1 N (F_X5_read_14 Z0.1 N k) 238 (iz j) c else (F_X6_note Z0.1 N 94 (3 : Int32) (gi c 94 3) c).bind fun u6 => F_X5_read_52 Z0.1 N (F_X5_read_14 Z0.1 N k) 238 (iz j) u6) := by
      rw [F_X5_read_14_s, r_238_0, if_neg (show ¬ (500 : Int32) ≤ iz (j : Int) from iz_nle (a := 500) (by omega)), c_goes1 N c n6, if_neg (fun z => e (kc0.mp z)), sb_eq, if_neg n1]
    have M0 : F_X10_passage_80 Z0.1 N (k + 1) 510 a 1 (iz j) m = (if iz (j : Int) = (40 : Int32) then (F_X10_later Z0.1 N 510 (3 : Int32) (gi m 510 20) m).bind fun u1 => F_X10_passage_106 Z0.1 N (F_X10_passage_80 Z0.1 N k) 510 a (iz j) u1 else F_X10_passage_106 Z0.1 N (F_X10_passage_80 Z0.1 N k) 510 a (iz j) m) := by
      rw [F_X10_passage_80_s, if_neg n1, if_neg (fun z => e (km0.mp z))]
    -- what is noted at the line's start
    have nt : ∃ c1 m1 : DY, F_X5_read_14 Z0.1 N (k + 1) 238 (iz j) c = F_X5_read_52 Z0.1 N (F_X5_read_14 Z0.1 N k) 238 (iz j) c1 ∧ F_X10_passage_80 Z0.1 N (k + 1) 510 a 1 (iz j) m = F_X10_passage_106 Z0.1 N (F_X10_passage_80 Z0.1 N k) 510 a (iz j) m1 ∧ TKS c1 m1 Z sz f ∧ FL3 c1 m1 f ∧ PS c1 m1 ∧ frLC c c1 ∧ frLM m m1 ∧ (40 ≤ j → gi c1 94 6 ≠ 0) := by
      by_cases y : j < 40
      · refine ⟨c, m, ?_, ?_, hT, FL3_of hF, hP, frLC_re c, frLM_re m, fun z => by omega⟩
        · rw [C0, if_pos (show iz (j : Int) < (40 : Int32) from iz_lti (b := 40) (by omega))]
        · rw [M0, if_neg (show ¬ iz (j : Int) = (40 : Int32) from iz_nei (b := 40) (by omega))]
      · rw [if_neg (show ¬ iz (j : Int) < (40 : Int32) from iz_nlt (b := 40) (by omega)), hT.2.2.2.1.1] at C0
        by_cases y2 : j = 40
        · rw [if_pos (show iz (j : Int) = (40 : Int32) by rw [y2]; rfl), hT.2.2.2.1.2] at M0
          obtain ⟨c1, m1, q1, q2, q3, q4, q5, q6, q7, q8, q9⟩ := note_both N (c := c) (m := m) (at_ := f) (F0 := 3) (by omega) (by omega) (Or.inl hF)
          refine ⟨c1, m1, C0.trans (bnd q1 rfl), M0.trans (bnd q2 rfl), TKS_fr hT (fun x k q => q6 x k (by omega)) (fun x k q => q8 x k (by omega)) (q9 _ _), q5 rfl, PS_fr hP ⟨fun x k q => q6 x k (by omega), q7⟩ ⟨fun x k q => q8 x k (by omega), fun x k _ => q9 x k⟩ (fun z => absurd z q4), fun x k q => q6 x k (by omega), fun x k q => q8 x k (by omega), fun _ => q4⟩
        · rw [if_neg (show ¬ iz (j : Int) = (40 : Int32) from iz_nei (b := 40) (by omega))] at M0
          have uns := h40 (by omega)
          have nn : F_X6_note Z0.1 N 94 (3 : Int32) (iz f) c = some c := by rw [F_X6_note_s, if_neg uns]
          exact ⟨c, m, C0.trans (bnd nn rfl), M0, hT, FL3_of hF, hP, frLC_re c, frLM_re m, fun _ => uns⟩
    obtain ⟨c1, m1, a1, a2, T1, F1, P1, a3, a4, a5⟩ := nt
    obtain ⟨c2, m2, v, b1, b2, b3, b4, b5⟩ := line_both N hN T1 F1 P1
    rw [F_X5_read_52_s, b1, sb_eq, show iz (j : Int) + (1 : Int32) = iz ((j + 1 : Nat) : Int) from iz_add j 1] at a1
    rw [F_X10_passage_106_s, b2, sb_eq, show iz (j : Int) + (1 : Int32) = iz ((j + 1 : Nat) : Int) from iz_add j 1] at a2
    rcases b5 with ⟨v0, w, br⟩ | ⟨v1, f', T2, ff, F2, K2, P2⟩
    · obtain ⟨k, rfl⟩ : ∃ i, k = i + 1 := ⟨k - 1, by omega⟩
      refine ⟨c2, m2, 0, a1.trans ?_, a2.trans ?_, frLC_tr a3 b3, frLM_tr a4 b4, Or.inl ⟨rfl, w, br⟩, fun z => absurd z (by decide)⟩
      · rw [F_X5_read_14_s, r_238_0]
        by_cases y : 500 ≤ j + 1
        · rw [if_pos (show (500 : Int32) ≤ iz ((j + 1 : Nat) : Int) from iz_lei (a := 500) (by omega))]
        · rw [if_neg (show ¬ (500 : Int32) ≤ iz ((j + 1 : Nat) : Int) from iz_nle (a := 500) (by omega)), c_goes N c2 br.1, sb_eq, if_pos rfl]
      · rw [F_X10_passage_80_s, v0, if_pos rfl]
    · have f'5 := T2.1
      have keep : 40 < j + 1 → gi c2 94 6 ≠ 0 := fun z y => a5 (by omega) (K2 y)
      obtain ⟨c3, m3, v3, d1, d2, d3, d4, d5, d6⟩ := ih (500 - f') (by omega) k (j + 1) c2 m2 Z sz f' (by omega) (by omega) (by omega) T2 F2 P2 keep
      rw [v1] at a2
      exact ⟨c3, m3, v3, a1.trans d1, a2.trans d2, frLC_tr a3 (frLC_tr b3 d3), frLM_tr a4 (frLM_tr b4 d4), d5, d6⟩
