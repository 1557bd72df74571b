/-! reading a LAW: its words -/
theorem wol_12 : WOK 12 26982 := by unfold WOK; decide +kernel
theorem wol_13 : WOK 13 7237492 := by unfold WOK; decide +kernel
theorem wol_25 : WOK 25 6385252 := by unfold WOK; decide +kernel
theorem wol_14 : WOK 14 418363302244 := by unfold WOK; decide +kernel
theorem wol_15 : WOK 15 1936682862 := by unfold WOK; decide +kernel
theorem wol_16 : WOK 16 1852137842 := by unfold WOK; decide +kernel
theorem wol_17 : WOK 17 491394656372 := by unfold WOK; decide +kernel
theorem wol_18 : WOK 18 1818584692 := by unfold WOK; decide +kernel
theorem wol_19 : WOK 19 131260264768868 := by unfold WOK; decide +kernel
theorem wol_20 : WOK 20 448311555173 := by unfold WOK; decide +kernel
theorem wol_21 : WOK 21 427121669988 := by unfold WOK; decide +kernel
theorem wol_22 : WOK 22 27703773382796644 := by unfold WOK; decide +kernel
theorem wol_23 : WOK 23 112568465714791 := by unfold WOK; decide +kernel
theorem wol_24 : WOK 24 123563834369380 := by unfold WOK; decide +kernel
theorem wol_26 : WOK 26 26479 := by unfold WOK; decide +kernel
theorem wol_27 : WOK 27 1751215716 := by unfold WOK; decide +kernel
theorem wol_28 : WOK 28 7106420 := by unfold WOK; decide +kernel
theorem wol_29 : WOK 29 2002872692 := by unfold WOK; decide +kernel
theorem takes_both {c m : DY} {Z : Nat → Int} {sz f : Nat} (N w : Nat) (W : Int64) (hN : 900 ≤ N) (hT : TKS c m Z sz f) (h6 : gi c 94 6 ≠ 1) (hw : WOK w W) : (F_X6_takesWord Z0.1 N 94 w c = some (0, c) ∧ F_X10_isWord Z0.1 N 510 W m = some (0, m)) ∨ ∃ c1 : DY, F_X6_step Z0.1 N 94 c = some c1 ∧ F_X6_takesWord Z0.1 N 94 w c = some (1, c1) ∧ F_X10_isWord Z0.1 N 510 W m = some (1, m) ∧ kD Z sz f = 1 := by
  obtain ⟨b, b0, b1, b2, b3, b4⟩ := word_both N w W hN hT h6 hw
  rcases b0 with z | z
  · rw [z] at b1 b2
    refine Or.inl ⟨?_, b2⟩
    rw [F_X6_takesWord_s]
    exact bnd b1 ((if_pos rfl).trans (if_pos (show zb (0 : Int32) by decide)))
  · obtain ⟨c1, m1, s1, _⟩ := both_step N hN hT
    rw [z] at b1 b2
    refine Or.inr ⟨c1, s1, ?_, b2, b3 z⟩
    rw [F_X6_takesWord_s]
    exact bnd b1 ((if_neg (show ¬ (1 : Int32) = 0 by decide)).trans (bnd s1 (if_pos (show zb (1 : Int32) by decide))))
theorem find_both {c m : DY} {Z : Nat → Int} {sz f : Nat} (N : Nat) (hN : 900 ≤ N) (hT : TKS c m Z sz f) (h6 : gi c 94 6 ≠ 1) : (F_X3_readFind Z0.1 N 239 c = some (0, si (si c 94 6 1) 94 7 (iz f)) ∧ F_X10_testOf Z0.1 N 510 m = some (-1, m)) ∨ ∃ (w : Nat) (c1 : DY), w ≤ 10 ∧ F_X3_readFind Z0.1 N 239 c = some (iz w, c1) ∧ F_X10_testOf Z0.1 N 510 m = some (iz w, m) ∧ F_X6_step Z0.1 N 94 c = some c1 ∧ kD Z sz f = 1 := by
  have n1 : ¬ (1 : Int32) = 0 := by decide
  obtain ⟨K, rfl⟩ : ∃ K, N = K + 12 := ⟨N - 12, by omega⟩
  have M := F_X10_testOf_s Z0.1 (K + 12) 510 m
  have C0 : F_X3_readFind Z0.1 (K + 12) 239 c = F_X3_readFind_2 Z0.1 (K + 12) (K + 11 + 1) 239 (iz ((0 : Nat) : Int)) c := F_X3_readFind_s Z0.1 (K + 12) 239 c
  have w0 : F_X3_findWord Z0.1 (K + 12) (iz ((0 : Nat) : Int)) c = some (14, c) := by
    rw [F_X3_findWord_s, if_pos (by decide)]
  have S0 := C0.trans (F_X3_readFind_2_s Z0.1 (K + 12) (K + 11) 239 (iz ((0 : Nat) : Int)) c)
  rw [if_neg (show ¬ (11 : Int32) ≤ iz ((0 : Nat) : Int) by decide), r_239_0, w0, sb_eq, if_pos (show (14 : Nat) < 30 by omega)] at S0
  rcases takes_both (K + 12) 14 418363302244 hN hT h6 wol_14 with ⟨a0, b0⟩ | ⟨c1, s, a0, b0, kd⟩
  rotate_left
  · refine Or.inr ⟨0, c1, by omega, S0.trans (bnd a0 (if_neg n1)), M.trans (bnd b0 (if_neg n1)), s, kd⟩
  have C1 : F_X3_readFind Z0.1 (K + 12) 239 c = F_X3_readFind_2 Z0.1 (K + 12) (K + 10 + 1) 239 (iz ((1 : Nat) : Int)) c := S0.trans (bnd a0 (if_pos rfl))
  have w1 : F_X3_findWord Z0.1 (K + 12) (iz ((1 : Nat) : Int)) c = some (15, c) := by
    rw [F_X3_findWord_s, if_neg (by decide), if_pos (by decide)]
  have S1 := C1.trans (F_X3_readFind_2_s Z0.1 (K + 12) (K + 10) 239 (iz ((1 : Nat) : Int)) c)
  rw [if_neg (show ¬ (11 : Int32) ≤ iz ((1 : Nat) : Int) by decide), r_239_0, w1, sb_eq, if_pos (show (15 : Nat) < 30 by omega)] at S1
  rcases takes_both (K + 12) 15 1936682862 hN hT h6 wol_15 with ⟨a1, b1⟩ | ⟨c1, s, a1, b1, kd⟩
  rotate_left
  · refine Or.inr ⟨1, c1, by omega, S1.trans (bnd a1 (if_neg n1)), M.trans (bnd b0 ((if_pos rfl).trans (bnd b1 (if_neg n1)))), s, kd⟩
  have C2 : F_X3_readFind Z0.1 (K + 12) 239 c = F_X3_readFind_2 Z0.1 (K + 12) (K + 9 + 1) 239 (iz ((2 : Nat) : Int)) c := S1.trans (bnd a1 (if_pos rfl))
  have w2 : F_X3_findWord Z0.1 (K + 12) (iz ((2 : Nat) : Int)) c = some (16, c) := by
    rw [F_X3_findWord_s, if_neg (by decide), if_neg (by decide), if_pos (by decide)]
  have S2 := C2.trans (F_X3_readFind_2_s Z0.1 (K + 12) (K + 9) 239 (iz ((2 : Nat) : Int)) c)
  rw [if_neg (show ¬ (11 : Int32) ≤ iz ((2 : Nat) : Int) by decide), r_239_0, w2, sb_eq, if_pos (show (16 : Nat) < 30 by omega)] at S2
  rcases takes_both (K + 12) 16 1852137842 hN hT h6 wol_16 with ⟨a2, b2⟩ | ⟨c1, s, a2, b2, kd⟩
  rotate_left
  · refine Or.inr ⟨2, c1, by omega, S2.trans (bnd a2 (if_neg n1)), M.trans (bnd b0 ((if_pos rfl).trans (bnd b1 ((if_pos rfl).trans (bnd b2 (if_neg n1)))))), s, kd⟩
  have C3 : F_X3_readFind Z0.1 (K + 12) 239 c = F_X3_readFind_2 Z0.1 (K + 12) (K + 8 + 1) 239 (iz ((3 : Nat) : Int)) c := S2.trans (bnd a2 (if_pos rfl))
  have w3 : F_X3_findWord Z0.1 (K + 12) (iz ((3 : Nat) : Int)) c = some (17, c) := by
    rw [F_X3_findWord_s, if_neg (by decide), if_neg (by decide), if_neg (by decide), if_pos (by decide)]
  have S3 := C3.trans (F_X3_readFind_2_s Z0.1 (K + 12) (K + 8) 239 (iz ((3 : Nat) : Int)) c)
  rw [if_neg (show ¬ (11 : Int32) ≤ iz ((3 : Nat) : Int) by decide), r_239_0, w3, sb_eq, if_pos (show (17 : Nat) < 30 by omega)] at S3
  rcases takes_both (K + 12) 17 491394656372 hN hT h6 wol_17 with ⟨a3, b3⟩ | ⟨c1, s, a3, b3, kd⟩
  rotate_left
  · refine Or.inr ⟨3, c1, by omega, S3.trans (bnd a3 (if_neg n1)), M.trans (bnd b0 ((if_pos rfl).trans (bnd b1 ((if_pos rfl).trans (bnd b2 ((if_pos rfl).trans (bnd b3 (if_neg n1)))))))), s, kd⟩
  have C4 : F_X3_readFind Z0.1 (K + 12) 239 c = F_X3_readFind_2 Z0.1 (K + 12) (K + 7 + 1) 239 (iz ((4 : Nat) : Int)) c := S3.trans (bnd a3 (if_pos rfl))
  have w4 : F_X3_findWord Z0.1 (K + 12) (iz ((4 : Nat) : Int)) c = some (18, c) := by
    rw [F_X3_findWord_s, if_neg (by decide), if_neg (by decide), if_neg (by decide), if_neg (by decide), if_pos (by decide)]
  have S4 := C4.trans (F_X3_readFind_2_s Z0.1 (K + 12) (K + 7) 239 (iz ((4 : Nat) : Int)) c)
  rw [if_neg (show ¬ (11 : Int32) ≤ iz ((4 : Nat) : Int) by decide), r_239_0, w4, sb_eq, if_pos (show (18 : Nat) < 30 by omega)] at S4
  rcases takes_both (K + 12) 18 1818584692 hN hT h6 wol_18 with ⟨a4, b4⟩ | ⟨c1, s, a4, b4, kd⟩
  rotate_left
  · refine Or.inr ⟨4, c1, by omega, S4.trans (bnd a4 (if_neg n1)), M.trans (bnd b0 ((if_pos rfl).trans (bnd b1 ((if_pos rfl).trans (bnd b2 ((if_pos rfl).trans (bnd b3 ((if_pos rfl).trans (bnd b4 (if_neg n1)))))))))), s, kd⟩
  have C5 : F_X3_readFind Z0.1 (K + 12) 239 c = F_X3_readFind_2 Z0.1 (K + 12) (K + 6 + 1) 239 (iz ((5 : Nat) : Int)) c := S4.trans (bnd a4 (if_pos rfl))
  have w5 : F_X3_findWord Z0.1 (K + 12) (iz ((5 : Nat) : Int)) c = some (19, c) := by
    rw [F_X3_findWord_s, if_neg (by decide), if_neg (by decide), if_neg (by decide), if_neg (by decide), if_neg (by decide), if_pos (by decide)]
  have S5 := C5.trans (F_X3_readFind_2_s Z0.1 (K + 12) (K + 6) 239 (iz ((5 : Nat) : Int)) c)
  rw [if_neg (show ¬ (11 : Int32) ≤ iz ((5 : Nat) : Int) by decide), r_239_0, w5, sb_eq, if_pos (show (19 : Nat) < 30 by omega)] at S5
  rcases takes_both (K + 12) 19 131260264768868 hN hT h6 wol_19 with ⟨a5, b5⟩ | ⟨c1, s, a5, b5, kd⟩
  rotate_left
  · refine Or.inr ⟨5, c1, by omega, S5.trans (bnd a5 (if_neg n1)), M.trans (bnd b0 ((if_pos rfl).trans (bnd b1 ((if_pos rfl).trans (bnd b2 ((if_pos rfl).trans (bnd b3 ((if_pos rfl).trans (bnd b4 ((if_pos rfl).trans (bnd b5 (if_neg n1)))))))))))), s, kd⟩
  have C6 : F_X3_readFind Z0.1 (K + 12) 239 c = F_X3_readFind_2 Z0.1 (K + 12) (K + 5 + 1) 239 (iz ((6 : Nat) : Int)) c := S5.trans (bnd a5 (if_pos rfl))
  have w6 : F_X3_findWord Z0.1 (K + 12) (iz ((6 : Nat) : Int)) c = some (20, c) := by
    rw [F_X3_findWord_s, if_neg (by decide), if_neg (by decide), if_neg (by decide), if_neg (by decide), if_neg (by decide), if_neg (by decide), if_pos (by decide)]
  have S6 := C6.trans (F_X3_readFind_2_s Z0.1 (K + 12) (K + 5) 239 (iz ((6 : Nat) : Int)) c)
  rw [if_neg (show ¬ (11 : Int32) ≤ iz ((6 : Nat) : Int) by decide), r_239_0, w6, sb_eq, if_pos (show (20 : Nat) < 30 by omega)] at S6
  rcases takes_both (K + 12) 20 448311555173 hN hT h6 wol_20 with ⟨a6, b6⟩ | ⟨c1, s, a6, b6, kd⟩
  rotate_left
  · refine Or.inr ⟨6, c1, by omega, S6.trans (bnd a6 (if_neg n1)), M.trans (bnd b0 ((if_pos rfl).trans (bnd b1 ((if_pos rfl).trans (bnd b2 ((if_pos rfl).trans (bnd b3 ((if_pos rfl).trans (bnd b4 ((if_pos rfl).trans (bnd b5 ((if_pos rfl).trans (bnd b6 (if_neg n1)))))))))))))), s, kd⟩
  have C7 : F_X3_readFind Z0.1 (K + 12) 239 c = F_X3_readFind_2 Z0.1 (K + 12) (K + 4 + 1) 239 (iz ((7 : Nat) : Int)) c := S6.trans (bnd a6 (if_pos rfl))
  have w7 : F_X3_findWord Z0.1 (K + 12) (iz ((7 : Nat) : Int)) c = some (21, c) := by
    rw [F_X3_findWord_s, if_neg (by decide), if_neg (by decide), if_neg (by decide), if_neg (by decide), if_neg (by decide), if_neg (by decide), if_neg (by decide), if_pos (by decide)]
  have S7 := C7.trans (F_X3_readFind_2_s Z0.1 (K + 12) (K + 4) 239 (iz ((7 : Nat) : Int)) c)
  rw [if_neg (show ¬ (11 : Int32) ≤ iz ((7 : Nat) : Int) by decide), r_239_0, w7, sb_eq, if_pos (show (21 : Nat) < 30 by omega)] at S7
  rcases takes_both (K + 12) 21 427121669988 hN hT h6 wol_21 with ⟨a7, b7⟩ | ⟨c1, s, a7, b7, kd⟩
  rotate_left
  · refine Or.inr ⟨7, c1, by omega, S7.trans (bnd a7 (if_neg n1)), M.trans (bnd b0 ((if_pos rfl).trans (bnd b1 ((if_pos rfl).trans (bnd b2 ((if_pos rfl).trans (bnd b3 ((if_pos rfl).trans (bnd b4 ((if_pos rfl).trans (bnd b5 ((if_pos rfl).trans (bnd b6 ((if_pos rfl).trans (bnd b7 (if_neg n1)))))))))))))))), s, kd⟩
  have C8 : F_X3_readFind Z0.1 (K + 12) 239 c = F_X3_readFind_2 Z0.1 (K + 12) (K + 3 + 1) 239 (iz ((8 : Nat) : Int)) c := S7.trans (bnd a7 (if_pos rfl))
  have w8 : F_X3_findWord Z0.1 (K + 12) (iz ((8 : Nat) : Int)) c = some (22, c) := by
    rw [F_X3_findWord_s, if_neg (by decide), if_neg (by decide), if_neg (by decide), if_neg (by decide), if_neg (by decide), if_neg (by decide), if_neg (by decide), if_neg (by decide), if_pos (by decide)]
  have S8 := C8.trans (F_X3_readFind_2_s Z0.1 (K + 12) (K + 3) 239 (iz ((8 : Nat) : Int)) c)
  rw [if_neg (show ¬ (11 : Int32) ≤ iz ((8 : Nat) : Int) by decide), r_239_0, w8, sb_eq, if_pos (show (22 : Nat) < 30 by omega)] at S8
  rcases takes_both (K + 12) 22 27703773382796644 hN hT h6 wol_22 with ⟨a8, b8⟩ | ⟨c1, s, a8, b8, kd⟩
  rotate_left
  · refine Or.inr ⟨8, c1, by omega, S8.trans (bnd a8 (if_neg n1)), M.trans (bnd b0 ((if_pos rfl).trans (bnd b1 ((if_pos rfl).trans (bnd b2 ((if_pos rfl).trans (bnd b3 ((if_pos rfl).trans (bnd b4 ((if_pos rfl).trans (bnd b5 ((if_pos rfl).trans (bnd b6 ((if_pos rfl).trans (bnd b7 ((if_pos rfl).trans (bnd b8 (if_neg n1)))))))))))))))))), s, kd⟩
  have C9 : F_X3_readFind Z0.1 (K + 12) 239 c = F_X3_readFind_2 Z0.1 (K + 12) (K + 2 + 1) 239 (iz ((9 : Nat) : Int)) c := S8.trans (bnd a8 (if_pos rfl))
  have w9 : F_X3_findWord Z0.1 (K + 12) (iz ((9 : Nat) : Int)) c = some (23, c) := by
    rw [F_X3_findWord_s, if_neg (by decide), if_neg (by decide), if_neg (by decide), if_neg (by decide), if_neg (by decide), if_neg (by decide), if_neg (by decide), if_neg (by decide), if_neg (by decide), if_pos (by decide)]
  have S9 := C9.trans (F_X3_readFind_2_s Z0.1 (K + 12) (K + 2) 239 (iz ((9 : Nat) : Int)) c)
  rw [if_neg (show ¬ (11 : Int32) ≤ iz ((9 : Nat) : Int) by decide), r_239_0, w9, sb_eq, if_pos (show (23 : Nat) < 30 by omega)] at S9
  rcases takes_both (K + 12) 23 112568465714791 hN hT h6 wol_23 with ⟨a9, b9⟩ | ⟨c1, s, a9, b9, kd⟩
  rotate_left
  · refine Or.inr ⟨9, c1, by omega, S9.trans (bnd a9 (if_neg n1)), M.trans (bnd b0 ((if_pos rfl).trans (bnd b1 ((if_pos rfl).trans (bnd b2 ((if_pos rfl).trans (bnd b3 ((if_pos rfl).trans (bnd b4 ((if_pos rfl).trans (bnd b5 ((if_pos rfl).trans (bnd b6 ((if_pos rfl).trans (bnd b7 ((if_pos rfl).trans (bnd b8 ((if_pos rfl).trans (bnd b9 (if_neg n1)))))))))))))))))))), s, kd⟩
  have C10 : F_X3_readFind Z0.1 (K + 12) 239 c = F_X3_readFind_2 Z0.1 (K + 12) (K + 1 + 1) 239 (iz ((10 : Nat) : Int)) c := S9.trans (bnd a9 (if_pos rfl))
  have w10 : F_X3_findWord Z0.1 (K + 12) (iz ((10 : Nat) : Int)) c = some (24, c) := by
    rw [F_X3_findWord_s, if_neg (by decide), if_neg (by decide), if_neg (by decide), if_neg (by decide), if_neg (by decide), if_neg (by decide), if_neg (by decide), if_neg (by decide), if_neg (by decide), if_neg (by decide)]
  have S10 := C10.trans (F_X3_readFind_2_s Z0.1 (K + 12) (K + 1) 239 (iz ((10 : Nat) : Int)) c)
  rw [if_neg (show ¬ (11 : Int32) ≤ iz ((10 : Nat) : Int) by decide), r_239_0, w10, sb_eq, if_pos (show (24 : Nat) < 30 by omega)] at S10
  rcases takes_both (K + 12) 24 123563834369380 hN hT h6 wol_24 with ⟨a10, b10⟩ | ⟨c1, s, a10, b10, kd⟩
  rotate_left
  · refine Or.inr ⟨10, c1, by omega, S10.trans (bnd a10 (if_neg n1)), M.trans (bnd b0 ((if_pos rfl).trans (bnd b1 ((if_pos rfl).trans (bnd b2 ((if_pos rfl).trans (bnd b3 ((if_pos rfl).trans (bnd b4 ((if_pos rfl).trans (bnd b5 ((if_pos rfl).trans (bnd b6 ((if_pos rfl).trans (bnd b7 ((if_pos rfl).trans (bnd b8 ((if_pos rfl).trans (bnd b9 ((if_pos rfl).trans (bnd b10 (if_neg n1)))))))))))))))))))))), s, kd⟩
  have C11 : F_X3_readFind Z0.1 (K + 12) 239 c = F_X3_readFind_2 Z0.1 (K + 12) (K + 0 + 1) 239 (iz ((11 : Nat) : Int)) c := S10.trans (bnd a10 (if_pos rfl))
  refine Or.inl ⟨C11.trans ?_, M.trans (bnd b0 ((if_pos rfl).trans (bnd b1 ((if_pos rfl).trans (bnd b2 ((if_pos rfl).trans (bnd b3 ((if_pos rfl).trans (bnd b4 ((if_pos rfl).trans (bnd b5 ((if_pos rfl).trans (bnd b6 ((if_pos rfl).trans (bnd b7 ((if_pos rfl).trans (bnd b8 ((if_pos rfl).trans (bnd b9 ((if_pos rfl).trans (bnd b10 (if_pos rfl))))))))))))))))))))))⟩
  rw [F_X3_readFind_2_s, if_pos (by decide), r_239_0, c_break _ f c h6 hT.2.2.2.1.1, sb_eq]
theorem deed_both {c m : DY} {Z : Nat → Int} {sz f : Nat} (N : Nat) (hN : 900 ≤ N) (hT : TKS c m Z sz f) (h6 : gi c 94 6 ≠ 1) : (F_X3_readDeed Z0.1 N 239 c = some (5, si (si c 94 6 1) 94 7 (iz f)) ∧ F_X10_actOf Z0.1 N 510 m = some (-1, m)) ∨ ∃ (w : Nat) (c1 : DY), w ≤ 5 ∧ F_X3_readDeed Z0.1 N 239 c = some (iz w, c1) ∧ F_X10_actOf Z0.1 N 510 m = some (iz w, m) ∧ F_X6_step Z0.1 N 94 c = some c1 ∧ kD Z sz f = 1 := by
  have n1 : ¬ (1 : Int32) = 0 := by decide
  obtain ⟨K, rfl⟩ : ∃ K, N = K + 7 := ⟨N - 7, by omega⟩
  have M := F_X10_actOf_s Z0.1 (K + 7) 510 m
  have C0 : F_X3_readDeed Z0.1 (K + 7) 239 c = F_X3_readDeed_2 Z0.1 (K + 7) (K + 6 + 1) 239 (iz ((0 : Nat) : Int)) c := F_X3_readDeed_s Z0.1 (K + 7) 239 c
  have w0 : F_X3_deedWord Z0.1 (K + 7) (iz ((0 : Nat) : Int)) c = some (26, c) := by
    rw [F_X3_deedWord_s, if_pos (by decide)]
  have S0 := C0.trans (F_X3_readDeed_2_s Z0.1 (K + 7) (K + 6) 239 (iz ((0 : Nat) : Int)) c)
  rw [if_neg (show ¬ (6 : Int32) ≤ iz ((0 : Nat) : Int) by decide), r_239_0, w0, sb_eq, if_pos (show (26 : Nat) < 30 by omega)] at S0
  rcases takes_both (K + 7) 26 26479 hN hT h6 wol_26 with ⟨a0, b0⟩ | ⟨c1, s, a0, b0, kd⟩
  rotate_left
  · refine Or.inr ⟨0, c1, by omega, S0.trans (bnd a0 (if_neg n1)), M.trans (bnd b0 (if_neg n1)), s, kd⟩
  have C1 : F_X3_readDeed Z0.1 (K + 7) 239 c = F_X3_readDeed_2 Z0.1 (K + 7) (K + 5 + 1) 239 (iz ((1 : Nat) : Int)) c := S0.trans (bnd a0 (if_pos rfl))
  have w1 : F_X3_deedWord Z0.1 (K + 7) (iz ((1 : Nat) : Int)) c = some (17, c) := by
    rw [F_X3_deedWord_s, if_neg (by decide), if_pos (by decide)]
  have S1 := C1.trans (F_X3_readDeed_2_s Z0.1 (K + 7) (K + 5) 239 (iz ((1 : Nat) : Int)) c)
  rw [if_neg (show ¬ (6 : Int32) ≤ iz ((1 : Nat) : Int) by decide), r_239_0, w1, sb_eq, if_pos (show (17 : Nat) < 30 by omega)] at S1
  rcases takes_both (K + 7) 17 491394656372 hN hT h6 wol_17 with ⟨a1, b1⟩ | ⟨c1, s, a1, b1, kd⟩
  rotate_left
  · refine Or.inr ⟨1, c1, by omega, S1.trans (bnd a1 (if_neg n1)), M.trans (bnd b0 ((if_pos rfl).trans (bnd b1 (if_neg n1)))), s, kd⟩
  have C2 : F_X3_readDeed Z0.1 (K + 7) 239 c = F_X3_readDeed_2 Z0.1 (K + 7) (K + 4 + 1) 239 (iz ((2 : Nat) : Int)) c := S1.trans (bnd a1 (if_pos rfl))
  have w2 : F_X3_deedWord Z0.1 (K + 7) (iz ((2 : Nat) : Int)) c = some (18, c) := by
    rw [F_X3_deedWord_s, if_neg (by decide), if_neg (by decide), if_pos (by decide)]
  have S2 := C2.trans (F_X3_readDeed_2_s Z0.1 (K + 7) (K + 4) 239 (iz ((2 : Nat) : Int)) c)
  rw [if_neg (show ¬ (6 : Int32) ≤ iz ((2 : Nat) : Int) by decide), r_239_0, w2, sb_eq, if_pos (show (18 : Nat) < 30 by omega)] at S2
  rcases takes_both (K + 7) 18 1818584692 hN hT h6 wol_18 with ⟨a2, b2⟩ | ⟨c1, s, a2, b2, kd⟩
  rotate_left
  · refine Or.inr ⟨2, c1, by omega, S2.trans (bnd a2 (if_neg n1)), M.trans (bnd b0 ((if_pos rfl).trans (bnd b1 ((if_pos rfl).trans (bnd b2 (if_neg n1)))))), s, kd⟩
  have C3 : F_X3_readDeed Z0.1 (K + 7) 239 c = F_X3_readDeed_2 Z0.1 (K + 7) (K + 3 + 1) 239 (iz ((3 : Nat) : Int)) c := S2.trans (bnd a2 (if_pos rfl))
  have w3 : F_X3_deedWord Z0.1 (K + 7) (iz ((3 : Nat) : Int)) c = some (27, c) := by
    rw [F_X3_deedWord_s, if_neg (by decide), if_neg (by decide), if_neg (by decide), if_pos (by decide)]
  have S3 := C3.trans (F_X3_readDeed_2_s Z0.1 (K + 7) (K + 3) 239 (iz ((3 : Nat) : Int)) c)
  rw [if_neg (show ¬ (6 : Int32) ≤ iz ((3 : Nat) : Int) by decide), r_239_0, w3, sb_eq, if_pos (show (27 : Nat) < 30 by omega)] at S3
  rcases takes_both (K + 7) 27 1751215716 hN hT h6 wol_27 with ⟨a3, b3⟩ | ⟨c1, s, a3, b3, kd⟩
  rotate_left
  · refine Or.inr ⟨3, c1, by omega, S3.trans (bnd a3 (if_neg n1)), M.trans (bnd b0 ((if_pos rfl).trans (bnd b1 ((if_pos rfl).trans (bnd b2 ((if_pos rfl).trans (bnd b3 (if_neg n1)))))))), s, kd⟩
  have C4 : F_X3_readDeed Z0.1 (K + 7) 239 c = F_X3_readDeed_2 Z0.1 (K + 7) (K + 2 + 1) 239 (iz ((4 : Nat) : Int)) c := S3.trans (bnd a3 (if_pos rfl))
  have w4 : F_X3_deedWord Z0.1 (K + 7) (iz ((4 : Nat) : Int)) c = some (28, c) := by
    rw [F_X3_deedWord_s, if_neg (by decide), if_neg (by decide), if_neg (by decide), if_neg (by decide), if_pos (by decide)]
  have S4 := C4.trans (F_X3_readDeed_2_s Z0.1 (K + 7) (K + 2) 239 (iz ((4 : Nat) : Int)) c)
  rw [if_neg (show ¬ (6 : Int32) ≤ iz ((4 : Nat) : Int) by decide), r_239_0, w4, sb_eq, if_pos (show (28 : Nat) < 30 by omega)] at S4
  rcases takes_both (K + 7) 28 7106420 hN hT h6 wol_28 with ⟨a4, b4⟩ | ⟨c1, s, a4, b4, kd⟩
  rotate_left
  · refine Or.inr ⟨4, c1, by omega, S4.trans (bnd a4 (if_neg n1)), M.trans (bnd b0 ((if_pos rfl).trans (bnd b1 ((if_pos rfl).trans (bnd b2 ((if_pos rfl).trans (bnd b3 ((if_pos rfl).trans (bnd b4 (if_neg n1)))))))))), s, kd⟩
  have C5 : F_X3_readDeed Z0.1 (K + 7) 239 c = F_X3_readDeed_2 Z0.1 (K + 7) (K + 1 + 1) 239 (iz ((5 : Nat) : Int)) c := S4.trans (bnd a4 (if_pos rfl))
  have w5 : F_X3_deedWord Z0.1 (K + 7) (iz ((5 : Nat) : Int)) c = some (29, c) := by
    rw [F_X3_deedWord_s, if_neg (by decide), if_neg (by decide), if_neg (by decide), if_neg (by decide), if_neg (by decide)]
  have S5 := C5.trans (F_X3_readDeed_2_s Z0.1 (K + 7) (K + 1) 239 (iz ((5 : Nat) : Int)) c)
  rw [if_neg (show ¬ (6 : Int32) ≤ iz ((5 : Nat) : Int) by decide), r_239_0, w5, sb_eq, if_pos (show (29 : Nat) < 30 by omega)] at S5
  rcases takes_both (K + 7) 29 2002872692 hN hT h6 wol_29 with ⟨a5, b5⟩ | ⟨c1, s, a5, b5, kd⟩
  rotate_left
  · refine Or.inr ⟨5, c1, by omega, S5.trans (bnd a5 (if_neg n1)), M.trans (bnd b0 ((if_pos rfl).trans (bnd b1 ((if_pos rfl).trans (bnd b2 ((if_pos rfl).trans (bnd b3 ((if_pos rfl).trans (bnd b4 ((if_pos rfl).trans (bnd b5 (if_neg n1)))))))))))), s, kd⟩
  have C6 : F_X3_readDeed Z0.1 (K + 7) 239 c = F_X3_readDeed_2 Z0.1 (K + 7) (K + 0 + 1) 239 (iz ((6 : Nat) : Int)) c := S5.trans (bnd a5 (if_pos rfl))
  refine Or.inl ⟨C6.trans ?_, M.trans (bnd b0 ((if_pos rfl).trans (bnd b1 ((if_pos rfl).trans (bnd b2 ((if_pos rfl).trans (bnd b3 ((if_pos rfl).trans (bnd b4 ((if_pos rfl).trans (bnd b5 (if_pos rfl))))))))))))⟩
  rw [F_X3_readDeed_2_s, if_pos (by decide), r_239_0, c_break _ f c h6 hT.2.2.2.1.1, sb_eq]
theorem isg_v {N : Nat} {s : Int32} {m : DY} (h : F_X10_isSignOf Z0.1 N 510 s m = some (1, m)) : gi m 510 22 = s := by
  rw [F_X10_isSignOf_s] at h
  by_cases z : gi m 510 21 = 4
  · rw [if_pos z] at h
    by_cases y : gi m 510 22 = s
    · exact y
    · rw [if_neg y] at h
      exact absurd (Prod.mk.inj (Option.some.inj h)).1 (by decide)
  · rw [if_neg z] at h
    exact absurd (Prod.mk.inj (Option.some.inj h)).1 (by decide)
theorem sgn_both {c m : DY} {Z : Nat → Int} {sz f : Nat} (N : Nat) (hN : 900 ≤ N) (hT : TKS c m Z sz f) (h6 : gi c 94 6 ≠ 1) (A B : DY → Option (Int32 × DY)) : (F_X3_readSign Z0.1 N 239 c = some (2, si (si c 94 6 1) 94 7 (iz f)) ∧ ((F_X10_isSignOf Z0.1 N 510 (60 : Int32) m).bind fun u4 => (if u4.1 = 0 then (F_X10_isSignOf Z0.1 N 510 (62 : Int32) u4.2).bind fun u6 => (if u6.1 = 0 then (F_X10_isSignOf Z0.1 N 510 (61 : Int32) u6.2).bind fun u8 => (if u8.1 = 0 then B u8.2 else A u8.2) else A u6.2) else A u4.2)) = B m) ∨ ∃ (s ch : Int32) (c1 : DY), (s = 0 ∧ ch = 60 ∨ s = 1 ∧ ch = 62 ∨ s = 2 ∧ ch = 61) ∧ F_X3_readSign Z0.1 N 239 c = some (s, c1) ∧ F_X6_step Z0.1 N 94 c = some c1 ∧ kD Z sz f = 3 ∧ gi m 510 22 = ch ∧ ((F_X10_isSignOf Z0.1 N 510 (60 : Int32) m).bind fun u4 => (if u4.1 = 0 then (F_X10_isSignOf Z0.1 N 510 (62 : Int32) u4.2).bind fun u6 => (if u6.1 = 0 then (F_X10_isSignOf Z0.1 N 510 (61 : Int32) u6.2).bind fun u8 => (if u8.1 = 0 then B u8.2 else A u8.2) else A u6.2) else A u4.2)) = A m := by
  have n1 : ¬ (1 : Int32) = 0 := by decide
  obtain ⟨c1, m1, s1, _⟩ := both_step N hN hT
  have C := F_X3_readSign_s Z0.1 N 239 c
  rw [r_239_0] at C
  obtain ⟨x, x0, x1, x2, x3⟩ := sign_both N 60 (by omega) hT h6
  obtain ⟨y, y0, y1, y2, y3⟩ := sign_both N 62 (by omega) hT h6
  obtain ⟨z, z0, z1, z2, z3⟩ := sign_both N 61 (by omega) hT h6
  rcases x0 with rfl | rfl
  · rcases y0 with rfl | rfl
    · have Q := F_X6_needSign_s Z0.1 N 94 61 c
      rcases z0 with rfl | rfl
      · refine Or.inl ⟨?_, bnd x2 ((if_pos rfl).trans (bnd y2 ((if_pos rfl).trans (bnd z2 (if_pos rfl)))))⟩
        have Q2 : F_X6_needSign Z0.1 N 94 61 c = some (si (si c 94 6 1) 94 7 (iz f)) := Q.trans (bnd z1 ((if_pos rfl).trans (bnd (c_break N f c h6 hT.2.2.2.1.1) rfl)))
        exact C.trans (bnd x1 ((if_pos rfl).trans (bnd y1 ((if_pos rfl).trans (bnd Q2 rfl)))))
      · have Q2 : F_X6_needSign Z0.1 N 94 61 c = some c1 := Q.trans (bnd z1 ((if_neg n1).trans (bnd s1 rfl)))
        exact Or.inr ⟨2, 61, c1, by simp, C.trans (bnd x1 ((if_pos rfl).trans (bnd y1 ((if_pos rfl).trans (bnd Q2 rfl))))), s1, z3 rfl, isg_v z2, bnd x2 ((if_pos rfl).trans (bnd y2 ((if_pos rfl).trans (bnd z2 (if_neg n1)))))⟩
    · exact Or.inr ⟨1, 62, c1, by simp, C.trans (bnd x1 ((if_pos rfl).trans (bnd y1 ((if_neg n1).trans (bnd s1 rfl))))), s1, y3 rfl, isg_v y2, bnd x2 ((if_pos rfl).trans (bnd y2 (if_neg n1)))⟩
  · exact Or.inr ⟨0, 60, c1, by simp, C.trans (bnd x1 ((if_neg n1).trans (bnd s1 rfl))), s1, x3 rfl, isg_v x2, bnd x2 (if_neg n1)⟩
theorem nbr_both {c m : DY} {Z : Nat → Int} {sz f : Nat} (N : Nat) (hN : 900 ≤ N) (hT : TKS c m Z sz f) (h6 : gi c 94 6 ≠ 1) : (F_X6_needNumber Z0.1 N 94 c = some (0, si (si c 94 6 1) 94 7 (iz f)) ∧ ¬ gi m 510 21 = 3) ∨ ∃ (v : Int32) (c1 : DY), F_X6_needNumber Z0.1 N 94 c = some (v, c1) ∧ F_X6_step Z0.1 N 94 c = some c1 ∧ gi m 510 21 = 3 ∧ gi m 510 22 = v ∧ kD Z sz f = 2 := by
  obtain ⟨kc0, km0, kc2, km3, kc3, km4, _, _⟩ := kinds hT
  obtain ⟨c1, m1, s1, _⟩ := both_step N hN hT
  by_cases k2 : kD Z sz f = 2
  · obtain ⟨v5, v22⟩ := hT.2.2.2.2.2.2.1 k2
    refine Or.inr ⟨_, c1, ?_, s1, km3.mpr k2, v22, k2⟩
    rw [F_X6_needNumber_s, if_neg h6, if_pos (kc2.mpr k2), v5]
    exact bnd s1 rfl
  · refine Or.inl ⟨?_, fun z => k2 (km3.mp z)⟩
    rw [F_X6_needNumber_s, if_neg h6, if_neg (fun z => k2 (kc2.mp z)), F_X6_needNumber_16_s, c_break N f c h6 hT.2.2.2.1.1, sb_eq]
