/-! pass and step -/
/-- who was there and who is, a tenth later -/
def ATT (c c' : DY) (w n : Nat) : Prop := (∀ i : Nat, i < n → (gi c (w + 1) i = -1 → gi c' (w + 1) i = -1 ∧ gi c' (w + 3) i = gi c (w + 3) i) ∧ (gi c (w + 1) i ≠ -1 → (gi c' (w + 1) i ≠ -1 ∧ gi c' (w + 3) i = gi c (w + 3) i) ∨ (gi c' (w + 1) i = -1 ∧ gi c' (w + 3) i = gi c w 2))) ∧ gi c' w 2 = gi c w 2 + 1 ∧ ∃ k : Nat, gi c' w 5 = gi c w 5 + iz k ∧ AWn c' w n = AWn c w n + k
theorem move_both {g l w r : Nat} {ι : Nat → Nat} {L W n M : Nat} (N : Nat) (cA mA mP : DY) (hN : 40 ≤ N) (hG : CVg g l w) (r14 : r < 14) (hRA : RRx (mixD cA mP) g l w r ι L W n M) (hP : ∀ x k : Nat, ¬ (x = 531 ∧ k = 720 * r + 5) → gi mP x k = gi mA x k) (hAA : AIMS cA mA g w ι n) (hNo : NOWS mA r M) : ∃ (s : Nat) (c' m' m6 : DY), F_X8_move Z0.1 N w cA = some (iz s, c') ∧ F_X10_step_99 Z0.1 N N 510 (iz r) (iz ((720 * r : Nat) : Int)) (iz M) 9 mA = some (iz s, m') ∧ RRx (mixD c' m6) g l w r ι L W n M ∧ (∀ x k : Nat, ¬ (x = 531 ∧ k = 720 * r + 5) → gi m6 x k = gi m' x k) ∧ gi m6 531 (720 * r + 5) = gi mP 531 (720 * r + 5) ∧ gi m' 531 (720 * r + 5) = gi mA 531 (720 * r + 5) ∧ frCT w cA c' ∧ ((∀ x k : Nat, (x < 532 ∨ 537 < x) → ¬ (x = 531 ∧ 720 * r ≤ k ∧ k < 720 * r + 720 ∧ k ≠ 720 * r + 10) → gi m' x k = gi mA x k) ∧ ∀ x k : Nat, gl m' x k = gl mA x k) ∧ ATT cA c' w n := by
  obtain ⟨d1, d2, d3, d4, d5⟩ := cv_dj hG
  have hM0 := RRx_MV hG r14 hRA
  obtain ⟨⟨_, L16, W6, n12, M12⟩, _, _, ⟨hι, hmono⟩, _⟩ := id hM0
  obtain ⟨D, hD⟩ : ∃ D : DY, D = si (mixD cA mP) 510 99 (gi mA 531 (720 * r + 5)) := ⟨_, rfl⟩
  have Dc : ∀ x k : Nat, x < 510 → gi D x k = gi cA x k := fun x k hx => by rw [hD, gi_si_if, if_neg (by omega), mix_c _ _ _ _ hx]
  have DmP : ∀ x k : Nat, 510 ≤ x → ¬ (x = 510 ∧ k = 99) → gi D x k = gi mP x k := fun x k hx q => by rw [hD, gi_si_if, if_neg q, mix_m _ _ _ _ hx]
  have Dm : ∀ x k : Nat, 510 ≤ x → ¬ (x = 531 ∧ k = 720 * r + 5) → ¬ (x = 510 ∧ k = 99) → gi D x k = gi mA x k := fun x k hx q1 q2 => by rw [DmP x k hx q2, hP x k q1]
  have D9 : gi D 510 99 = gi mA 531 (720 * r + 5) := by rw [hD, gi_si_if, if_pos ⟨rfl, rfl⟩]
  have hRD : RRx D g l w r ι L W n M := by
    have k7 := hRA.2.2.2.2.2.2.1
    refine RRx_seed hG hRA (fun x k x1 _ _ _ => by rw [Dc x k x1, mix_c _ _ _ _ x1]) (fun i _ _ _ => by rw [DmP _ _ (by omega) (by omega), mix_m _ _ _ _ (by omega)]) ?_ ?_
    · have := k7.2.1
      rw [mix_c _ _ _ _ (by omega), mix_m _ _ _ _ (by omega)] at this
      rw [Dc _ _ (by omega), DmP _ _ (by omega) (by omega)]
      exact this
    · have := k7.2.2.1
      rw [mix_c _ _ _ _ (by omega), mix_m _ _ _ _ (by omega)] at this
      rw [Dc _ _ (by omega), DmP _ _ (by omega) (by omega)]
      exact this
  obtain ⟨c2, sh1, sh2, sh3, sh4⟩ := c_shift N cA hG
  obtain ⟨b1, b2, b3, b4, b5, b6⟩ := start_both (N := N) hG r14 hRD Dc Dm D9 hNo sh2 sh3
  obtain ⟨_, _, _, ⟨kn, _⟩, _, _, _, _, _, _, _, od, o1, o2, o3⟩ := id hRD
  have hAD : AIMS D D g w ι n := fun o ho => by
    rw [Dc (w + 8) _ (by omega), Dm 534 _ (by omega) (by omega) (by omega), Dc (g + 8) _ (by omega), Dc (w + 1) _ (by omega)]
    exact hAA o ho
  obtain ⟨kC', c3, m3, y1, y2, y3, hS3, hW3, hA3, hD3, f1, f2, f3, f4, f5⟩ := hastes N D g l w r ι L W n M od (iz ((720 * r : Nat) : Int)) (by omega) hG r14 hRD hAD o1 o2 o3 10 N 0 N 0 c2 mA (by omega) (by omega) (by omega) (by omega) b1 b2 b3 b4 (fun o ho => ⟨fun z => absurd z (b5 o ho), fun ⟨x, hx, _⟩ => absurd hx (by omega)⟩) b6.symm
  obtain ⟨kC', rfl⟩ : ∃ j, kC' = j + 1 := ⟨kC' - 1, by omega⟩
  have hz : ∀ i : Nat, i < M → gi m3 535 i = 0 ∨ gi m3 535 i = 1 := fun j hj => by
    by_cases im : ∃ i : Nat, i < n ∧ ι i = j
    · obtain ⟨i, hi, rfl⟩ := im
      exact (hW3 i hi).2.2.1
    · exact Or.inl (hA3 j hj (fun i hi z => im ⟨i, hi, z⟩)).2.2
  have hsum : S1 (fun i => (gi m3 535 i).toNatClampNeg) M = SMn m3 ι n := by
    rw [SMn_S1]
    refine S1_map (fun i => (gi m3 535 i).toNatClampNeg) ι M n hι hmono (fun j hj ha => ?_)
    show (gi m3 535 j).toNatClampNeg = 0
    rw [(hA3 j hj ha).2.2]
    rfl
  have hdan := chM8_sum hG r14 hRD hS3 hW3 hA3
  obtain ⟨m4, v1, v2, v3⟩ := m_167 N r M m3 (by omega) r14 M12 hz M 0 N m3 (by omega) (by omega) ⟨fun _ _ _ => rfl, fun _ _ => rfl⟩ (Int32.add_zero _).symm
  rw [hsum] at v1
  rw [hdan] at v3
  obtain ⟨m5, q1, q2⟩ := m_239 N r M m4 (iz (SMn m3 ι n : Nat)) (by omega) r14 M12 M 0 N m4 (by omega) (by omega) ⟨fun _ _ _ => rfl, fun _ _ => rfl, fun _ h => absurd h (by omega)⟩
  have g3 : gi c3 g 3 = iz n := by
    rw [hS3.1 g 3 (by omega) (by omega)]
    exact kn
  have hlast := c_last N kC' c3 n (iz (SMn m3 ι n : Nat)) (by omega) hG n12 g3
  obtain ⟨m6, hm6⟩ : ∃ m6 : DY, m6 = si (lstM m5 r (iz (SMn m3 ι n : Nat))) 531 (720 * r + 5) (gi mP 531 (720 * r + 5)) := ⟨_, rfl⟩
  have o6 : ∀ x k : Nat, ¬ (x = 531 ∧ k = 720 * r + 5) → gi m6 x k = gi (lstM m5 r (iz (SMn m3 ι n : Nat))) x k := fun x k q => by rw [hm6, gi_si_if, if_neg q]
  have o65 : gi m6 531 (720 * r + 5) = gi mP 531 (720 * r + 5) := by rw [hm6, gi_si_if, if_pos ⟨rfl, rfl⟩]
  refine ⟨SMn m3 ι n, lstC c3 g w n (iz (SMn m3 ι n : Nat)), lstM m5 r (iz (SMn m3 ι n : Nat)), m6, sh1.trans (y2.trans hlast), y3.trans (v1.trans q1), fin_both _ hG r14 hRD hS3 hW3 hA3 hD3 v2 v3 q2 o6 (o65.trans (DmP _ _ (by omega) (by omega)).symm), o6, o65, ?_, ⟨fun x k h1 h2 => ?_, fun x k => ?_⟩, ⟨fun x k h2 h3 => ?_, fun x k => ?_⟩, ?_⟩
  · rw [gi_lstM, if_neg (by omega), if_neg (by omega), q2.1 531 _ (by omega), v2.1 531 _ (by omega), hS3.2.2.2.2.2.2.2]
    exact D9
  · have e1 : gi (lstC c3 g w n (iz (SMn m3 ι n : Nat))) x k = gi c3 x k := by
      rw [gi_lstC, if_neg (by omega), if_neg (by omega), if_neg (by omega)]
    have e2 : gi c3 x k = gi c2 x k := by
      rcases Nat.lt_trichotomy x w with z | z | z
      · exact f1 x k (by omega)
      · subst z
        rw [hS3.2.1 k (by omega), Dc _ _ (by omega), sh2 x k (by omega)]
      · exact f1 x k (by omega)
    rw [e1, e2, sh2 x k (by omega)]
  · exact (f2 x k).trans (sh4 x k)
  · have e1 : gi (lstM m5 r (iz (SMn m3 ι n : Nat))) x k = gi m5 x k := by
      rw [gi_lstM, if_neg (by omega), if_neg (by omega)]
    have e2 : gi m3 x k = gi mA x k := by
      by_cases z : x = 531 ∧ k = 720 * r + 10
      · obtain ⟨rfl, rfl⟩ := z
        rw [hS3.2.2.2.2.2.2.1 10 (by omega) (by unfold cntP; omega), Dm _ _ (by omega) (by omega) (by omega)]
      · exact f3 x k (by omega) (by omega)
    rw [e1, q2.1 x k (by omega), v2.1 x k (by omega), e2]
  · exact (q2.2.1 x k).trans ((v2.2 x k).trans (f4 x k))
  · have g2 : ATn cA c2 w n := ATn_same (fun i _ => ⟨sh2 _ _ (by omega), sh2 _ _ (by omega)⟩) (sh2 _ _ (by omega)) (sh2 _ _ (by omega))
    have ls : ∀ x k : Nat, ¬ (x = w ∧ (k = 2 ∨ k = 6 ∨ k = 7)) → gi (lstC c3 g w n (iz (SMn m3 ι n : Nat))) x k = gi c3 x k := fun x k h => by
      rw [gi_lstC, if_neg (by omega), if_neg (by omega), if_neg (by omega)]
    obtain ⟨t1, t2, k, t3, t4⟩ := ATn_trans g2 f5
    refine ⟨fun i hi => ?_, ?_, k, ?_, ?_⟩
    · rw [ls _ _ (by omega), ls _ _ (by omega)]
      exact t1 i hi
    · rw [gi_lstC, if_pos ⟨rfl, rfl⟩, t2]
    · rw [ls _ _ (by omega)]
      exact t3
    · rw [← t4]
      exact AWn_same n (fun o _ => by rw [ls _ _ (by omega)])
theorem tenth_at {g l w r : Nat} {ι : Nat → Nat} {L W n M : Nat} (N : Nat) (c m : DY) (hN : 40 ≤ N) (hG : CVg g l w) (r14 : r < 14) (hR : RRx (mixD c m) g l w r ι L W n M) (h45 : gi m 510 45 = 0) : ∃ (s : Nat) (c' m' : DY), F_X8_pass Z0.1 N w c = some (iz s, c') ∧ F_X10_step Z0.1 N 510 (iz r) m = some (iz s, m') ∧ RRx (mixD c' m') g l w r ι L W n M ∧ frCT w c c' ∧ frMT r m m' ∧ ATT c c' w n := by
  obtain ⟨d1, d2, d3, d4, d5⟩ := cv_dj hG
  have hM0 := RRx_MV hG r14 hR
  obtain ⟨⟨_, L16, W6, n12, M12⟩, ⟨_, _, mM⟩, _, ⟨hι, hmono⟩, _⟩ := id hM0
  rw [mix_m _ _ _ _ (by omega)] at mM
  have t531 : ∀ k : Nat, gi (si m 510 47 0) 531 k = gi m 531 k := fun k => by rw [gi_si_if, if_neg (by omega)]
  have hR1 : RRx (mixD c (si m 510 47 0)) g l w r ι L W n M := by
    have k7 := hR.2.2.2.2.2.2.1
    refine RRx_seed hG hR (fun x k x1 _ _ _ => by rw [mix_c _ _ _ _ x1, mix_c _ _ _ _ x1]) (fun i _ _ _ => by rw [mix_m _ _ _ _ (by omega), mix_m _ _ _ _ (by omega), t531]) ?_ ?_
    · have := k7.2.1
      rw [mix_c _ _ _ _ (by omega), mix_m _ _ _ _ (by omega)] at this
      rw [mix_c _ _ _ _ (by omega), mix_m _ _ _ _ (by omega), t531]
      exact this
    · have := k7.2.2.1
      rw [mix_c _ _ _ _ (by omega), mix_m _ _ _ _ (by omega)] at this
      rw [mix_c _ _ _ _ (by omega), mix_m _ _ _ _ (by omega), t531]
      exact this
  obtain ⟨cA, mA, a1, a2, hRA, hAA, hNo, fcA, fmA⟩ := aims_all N r g l w ι L W n M (iz ((720 * r : Nat) : Int)) hN hG r14 n12 M12 hι hmono M 0 0 N N c (si m 510 47 0) (by omega) (by omega) (by omega) (by omega) (fun o ho => absurd ho (by omega)) (fun o _ _ => Nat.zero_le _) hR1 (by rw [gi_si_if, if_neg (by omega)]; exact h45) (fun o ho => absurd ho (by omega)) (fun o ho => absurd ho (by omega))
  obtain ⟨s, c', m', m6, q1, q2, q3, q4, q5, q6, q7, q8, q9⟩ := move_both N cA mA mA hN hG r14 hRA (fun _ _ _ => rfl) hAA hNo
  have e6 : ∀ x k : Nat, gi m6 x k = gi m' x k := fun x k => by
    by_cases z : x = 531 ∧ k = 720 * r + 5
    · rw [z.1, z.2, q5, q6]
    · exact q4 x k z
  have hR' : RRx (mixD c' m') g l w r ι L W n M := by
    have k7 := q3.2.2.2.2.2.2.1
    refine RRx_seed hG q3 (fun x k x1 _ _ _ => by rw [mix_c _ _ _ _ x1, mix_c _ _ _ _ x1]) (fun i _ _ _ => by rw [mix_m _ _ _ _ (by omega), mix_m _ _ _ _ (by omega), e6]) ?_ ?_
    · have := k7.2.1
      rw [mix_c _ _ _ _ (by omega), mix_m _ _ _ _ (by omega), e6] at this
      rw [mix_c _ _ _ _ (by omega), mix_m _ _ _ _ (by omega)]
      exact this
    · have := k7.2.2.1
      rw [mix_c _ _ _ _ (by omega), mix_m _ _ _ _ (by omega), e6] at this
      rw [mix_c _ _ _ _ (by omega), mix_m _ _ _ _ (by omega)]
      exact this
  refine ⟨s, c', m', ?_, ?_, hR', ⟨fun x k h1 h2 => ?_, fun x k => ?_⟩, ⟨fun x k h1 h2 h3 => ?_, fun x k => ?_⟩, ?_⟩
  · rw [F_X8_pass_s]
    refine a1.trans ?_
    exact bnd q1 rfl
  · have x720 : (720 : Int32) * iz (r : Int) = iz ((720 * r : Nat) : Int) := (iz_mul 720 r).trans (congrArg iz (by omega))
    rw [F_X10_step_s, m_row2, if_pos (ibr (720 * r + 2) (by omega)), bd_eq, r_510_39, tnn _ (720 * r + 2) rfl (by omega), mM, x720]
    exact a2.trans q2
  · rw [q7.1 x k h1 h2]
    exact fcA.1 x k (by omega) (by omega) (by omega)
  · exact (q7.2 x k).trans (fcA.2 x k)
  · rw [q8.1 x k h2 h3, fmA.1 x k (by omega) (by omega) (by omega), gi_si_if, if_neg (by omega)]
  · exact (q8.2 x k).trans (fmA.2 x k)
  · obtain ⟨t1, t2, k, t3, t4⟩ := q9
    have a1 : gi cA w 2 = gi c w 2 := fcA.1 _ _ (by omega) (by omega) (by omega)
    have a5 : gi cA w 5 = gi c w 5 := fcA.1 _ _ (by omega) (by omega) (by omega)
    have ax : ∀ i : Nat, gi cA (w + 1) i = gi c (w + 1) i := fun i => fcA.1 _ _ (by omega) (by omega) (by omega)
    have a3 : ∀ i : Nat, gi cA (w + 3) i = gi c (w + 3) i := fun i => fcA.1 _ _ (by omega) (by omega) (by omega)
    refine ⟨fun i hi => ?_, ?_, k, ?_, ?_⟩
    · rw [← ax, ← a3, ← a1]
      exact t1 i hi
    · rw [← a1]; exact t2
    · rw [← a5]; exact t3
    · rw [← AWn_same (c := c) (c' := cA) n (fun o _ => by rw [ax])]; exact t4
theorem tenth_both {g l w r : Nat} {ι : Nat → Nat} {L W n M : Nat} (N : Nat) (c m : DY) (hN : 40 ≤ N) (hG : CVg g l w) (r14 : r < 14) (hR : RRx (mixD c m) g l w r ι L W n M) (h45 : gi m 510 45 = 0) : ∃ (s : Nat) (c' m' : DY), F_X8_pass Z0.1 N w c = some (iz s, c') ∧ F_X10_step Z0.1 N 510 (iz r) m = some (iz s, m') ∧ RRx (mixD c' m') g l w r ι L W n M ∧ frCT w c c' ∧ frMT r m m' := by
  obtain ⟨s, c', m', h1, h2, h3, h4, h5, _⟩ := tenth_at N c m hN hG r14 hR h45
  exact ⟨s, c', m', h1, h2, h3, h4, h5⟩
