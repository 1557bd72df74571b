/-! reading a PASSAGE: a line -/
theorem tail_both {c m c' m' : DY} {Z : Nat → Int} {sz f : Nat} {v : Int32} (N : Nat) (hN : 900 ≤ N) (h : LO c m c' m' v Z sz f) : ∃ (c3 m3 : DY) (v3 : Int32), F_X5_readLine_177 Z0.1 N 238 c' = some c3 ∧ F_X10_passageLine_197 Z0.1 N 510 v m' = some (v3, m3) ∧ LO c m c3 m3 v3 Z sz f := by
  have n1 : ¬ (1 : Int32) = 0 := by decide
  obtain ⟨h1, h2, h3⟩ := h
  rcases h3 with ⟨hv, w, b⟩ | ⟨hv, f', T, ff, F, K, P⟩
  · refine ⟨c', m', 0, ?_, ?_, h1, h2, Or.inl ⟨rfl, w, b⟩⟩
    · rw [F_X5_readLine_177_s, r_238_0]
      exact bnd (b_needSign N 59 c' b.1) rfl
    · rw [F_X10_passageLine_197_s, if_pos hv]
  · rcases pass_both N hN T (FLT_n1 F) with ⟨c3, m3, p1, p2, p3, p4, p5⟩ | ⟨c3, m3, p1, p2, p3, p4, p5, p6⟩
    · refine ⟨c3, m3, 0, ?_, ?_, frLC_tr h1 (frLC_P p4), frLM_tr h2 (frLM_Q p5), Or.inl ⟨rfl, _, p3⟩⟩
      · rw [F_X5_readLine_177_s, r_238_0]
        exact bnd p1 rfl
      · rw [F_X10_passageLine_197_s, if_neg (by rw [hv]; decide)]
        exact bnd p2 (if_pos rfl)
    · refine ⟨c3, m3, 1, ?_, ?_, frLC_tr h1 (frLC_P (frP_X p5)), frLM_tr h2 (frLM_Q (frQ_Y p6)), Or.inr ⟨rfl, _, p3, by omega, FLT_up (FLT_cells F (p5.1 94 6 (by omega)) (p5.1 94 7 (by omega)) (p6.1 510 25 (by omega)) (p6.1 510 26 (by omega))) (by omega), fun z => K ((p5.1 94 6 (by omega)).symm.trans z), PS_fr P (frP_X p5) (frQ_Y p6) (fun z => (p5.1 94 6 (by omega)).symm.trans z)⟩⟩
      · rw [F_X5_readLine_177_s, r_238_0]
        exact bnd p1 rfl
      · rw [F_X10_passageLine_197_s, if_neg (by rw [hv]; decide)]
        exact bnd p2 (if_neg n1)
theorem line_both {c m : DY} {Z : Nat → Int} {sz f : Nat} (N : Nat) (hN : 900 ≤ N) (hT : TKS c m Z sz f) (h3 : FL3 c m f) (hP : PS c m) : ∃ (c' m' : DY) (v : Int32), F_X5_readLine Z0.1 N 238 c = some c' ∧ F_X10_passageLine Z0.1 N 510 m = some (v, m') ∧ LO c m c' m' v Z sz f := by
  have n1 : ¬ (1 : Int32) = 0 := by decide
  have f5 : f ≤ 500 := by have := hT.1; omega
  obtain ⟨m1, hm1⟩ : ∃ m1 : DY, m1 = si m 510 28 1 := ⟨_, rfl⟩
  have o1 : ∀ x k : Nat, ¬ (x = 510 ∧ k = 28) → gi m1 x k = gi m x k := fun x k q => by rw [hm1, gi_si_if, if_neg q]
  have T1 : TKS c m1 Z sz f := TKS_fr hT (fun _ _ _ => rfl) (fun x k q => o1 x k (by omega)) (by rw [hm1]; rfl)
  have g28 : gi m1 510 28 = 1 := by rw [hm1, gi_si_if, if_pos ⟨rfl, rfl⟩]
  have h6 := FL3_n1 h3
  have h31 : FL3 c m1 f := FL3_cells h3 rfl rfl (o1 510 25 (by omega)) (o1 510 26 (by omega))
  have P1 : PS c m1 := ⟨hP.1, RWF_fr hP.2.1 (fun x k q => o1 x k (by omega)), fun z => GRN_fr (hP.2.2 z) (fun _ _ _ _ => rfl) (fun x k q => o1 x k (by omega))⟩
  have fm1 : frLM m m1 := fun x k q => o1 x k (by omega)
  have C0 := F_X5_readLine_s Z0.1 N 238 c
  rw [r_238_0, r_238_1, hT.2.2.2.1.1] at C0
  obtain ⟨y0, hy0⟩ : ∃ y0 : Int64, y0 = (if gi m1 510 21 = 2 then gl m1 510 23 else 0) := ⟨_, rfl⟩
  have M0 : F_X10_passageLine Z0.1 N 510 m = F_X10_passageLine_26 Z0.1 N 510 (iz f) y0 m1 := by
    rw [F_X10_passageLine_s, bd_eq, ← hm1, hT.2.2.2.1.2, hy0]
    by_cases z : gi m1 510 21 = 2
    · rw [if_pos z, if_pos z]
    · rw [if_neg z, if_neg z]
  rw [F_X10_passageLine_26_s] at M0
  -- what holds behind the first word
  have nxt : ∀ c' m' : DY, TKS c' m' Z sz (nx Z sz f) → f < nx Z sz f → frX c c' → frY m1 m' → FL3 c' m' f ∧ FLT c' m' (nx Z sz f) ∧ PS c' m' ∧ gi m' 510 28 = 1 ∧ frLC c c' ∧ frLM m m' := fun c' m' T ff fx fy => by
    have k3 : FL3 c' m' f := FL3_cells h31 (fx.1 94 6 (by omega)) (fx.1 94 7 (by omega)) (fy.1 510 25 (by omega)) (fy.1 510 26 (by omega))
    exact ⟨k3, FLT_of3 k3 ff, PS_fr P1 (frP_X fx) (frQ_Y fy) (fun z => (fx.1 94 6 (by omega)).symm.trans z), (fy.1 510 28 (by omega)).trans g28, frLC_P (frP_X fx), frLM_tr fm1 (frLM_Q (frQ_Y fy))⟩
  have fin : ∀ (c1 m2 c2 m3 : DY) (v : Int32), frLC c c1 → frLM m m2 → f < nx Z sz f → gi c1 94 6 = gi c 94 6 → LO c1 m2 c2 m3 v Z sz (nx Z sz f) → F_X5_readLine Z0.1 N 238 c = F_X5_readLine_177 Z0.1 N 238 c2 → F_X10_passageLine Z0.1 N 510 m = F_X10_passageLine_197 Z0.1 N 510 v m3 → ∃ (c' m' : DY) (v : Int32), F_X5_readLine Z0.1 N 238 c = some c' ∧ F_X10_passageLine Z0.1 N 510 m = some (v, m') ∧ LO c m c' m' v Z sz f := fun c1 m2 c2 m3 v a1 a2 ff h16 lo hc hm => by
    obtain ⟨c3, m4, v3, t1, t2, t3, t4, t5⟩ := tail_both N hN lo
    refine ⟨c3, m4, v3, hc.trans t1, hm.trans t2, frLC_tr a1 t3, frLM_tr a2 t4, ?_⟩
    rcases t5 with z | ⟨z, f', q1, q2, q3, q4, q5⟩
    · exact Or.inl z
    · exact Or.inr ⟨z, f', q1, by omega, q3, fun z => h16.symm.trans (q4 z), q5⟩
  have B := fun (w : Nat) (W : Int64) (hw : WOK w W) => take_both N w W hN T1 h6 hw
  have S88 : ∀ m' : DY, F_X10_token Z0.1 N 510 m1 = some m' → F_X10_passageLine_88 Z0.1 N 510 (iz f) y0 m1 = _ := fun m' ht => (F_X10_passageLine_88_s Z0.1 N 510 (iz f) y0 m1).trans (bnd ht rfl)
  rcases B 1 _ wok_wall with ⟨a1, _, d1⟩ | ⟨c', m', a1, _, a3, a4, a5, a6, a7, a8⟩
  rotate_left
  · obtain ⟨k1, k2, k3, k4, k5, k6⟩ := nxt c' m' a5 a6 a7 a8
    rw [← hy0] at a4
    obtain ⟨c2, m3, v, w1, w2, w3⟩ := wall_line N hN a5 k2 k3 k4
    refine fin c' m' c2 m3 v k5 k6 a6 (a7.1 94 6 (by omega)) w3 (C0.trans (bnd a1 ((if_neg n1).trans (bnd w1 rfl)))) ?_
    rw [M0, if_pos a4, S88 m' a3, if_pos a4]
    exact bnd w2 rfl
  rw [← hy0] at d1
  rcases B 2 _ wok_walker with ⟨a2, _, d2⟩ | ⟨c', m', a2, _, a3, a4, a5, a6, a7, a8⟩
  rotate_left
  · obtain ⟨k1, k2, k3, k4, k5, k6⟩ := nxt c' m' a5 a6 a7 a8
    rw [← hy0] at a4
    obtain ⟨c2, m3, v, w1, w2, w3⟩ := walker_line N hN a5 a6 k1 k2 k3 k4
    refine fin c' m' c2 m3 v k5 k6 a6 (a7.1 94 6 (by omega)) w3 (C0.trans (bnd a1 ((if_pos rfl).trans (bnd a2 ((if_neg n1).trans (bnd w1 rfl)))))) ?_
    rw [M0, if_neg d1, if_pos a4, S88 m' a3, if_neg d1, if_pos a4]
    exact bnd w2 rfl
  rw [← hy0] at d2
  have tr := fun (what lo hi : Nat) (hwh : what = 3 ∧ lo = 1 ∧ hi = 4 ∨ what = 4 ∧ lo = 0 ∧ hi = 3 ∨ what = 5 ∧ lo = 0 ∧ hi = 9) (c' m' : DY) (T : TKS c' m' Z sz (nx Z sz f)) (F : FLT c' m' (nx Z sz f)) (P : PS c' m') (g : gi m' 510 28 = 1) => trait_line N what lo hi hN hwh T F P g
  rcases B 5 _ wok_pace with ⟨a5', _, d5⟩ | ⟨c', m', a2', _, a3, a4, a5, a6, a7, a8⟩
  rotate_left
  · obtain ⟨k1, k2, k3, k4, k5, k6⟩ := nxt c' m' a5 a6 a7 a8
    rw [← hy0] at a4
    obtain ⟨c2, m3, v, w1, w2, w3⟩ := tr 3 1 4 (by omega) c' m' a5 k2 k3 k4
    refine fin c' m' c2 m3 v k5 k6 a6 (a7.1 94 6 (by omega)) w3 (C0.trans (bnd a1 ((if_pos rfl).trans (bnd a2 ((if_pos rfl).trans (bnd a2' ((if_neg n1).trans (bnd (v := c2) ?_ rfl)))))))) ?_
    · rw [cv_g5 cvg_try]; exact w1
    · rw [M0, if_neg d1, if_neg d2, if_pos a4, S88 m' a3, if_neg d1, if_neg d2, if_pos a4]
      exact bnd w2 rfl
  rw [← hy0] at d5
  rcases B 6 _ wok_late with ⟨a6', _, d6⟩ | ⟨c', m', a2', _, a3, a4, a5, a6, a7, a8⟩
  rotate_left
  · obtain ⟨k1, k2, k3, k4, k5, k6⟩ := nxt c' m' a5 a6 a7 a8
    rw [← hy0] at a4
    obtain ⟨c2, m3, v, w1, w2, w3⟩ := tr 4 0 3 (by omega) c' m' a5 k2 k3 k4
    refine fin c' m' c2 m3 v k5 k6 a6 (a7.1 94 6 (by omega)) w3 (C0.trans (bnd a1 ((if_pos rfl).trans (bnd a2 ((if_pos rfl).trans (bnd a5' ((if_pos rfl).trans (bnd a2' ((if_neg n1).trans (bnd (v := c2) ?_ rfl)))))))))) ?_
    · rw [cv_g6 cvg_try]; exact w1
    · rw [M0, if_neg d1, if_neg d2, if_neg d5, if_pos a4, S88 m' a3, if_neg d1, if_neg d2, if_neg d5, if_pos a4]
      exact bnd w2 rfl
  rw [← hy0] at d6
  rcases B 7 _ wok_haste with ⟨a7', _, d7⟩ | ⟨c', m', a2', _, a3, a4, a5, a6, a7, a8⟩
  rotate_left
  · obtain ⟨k1, k2, k3, k4, k5, k6⟩ := nxt c' m' a5 a6 a7 a8
    rw [← hy0] at a4
    obtain ⟨c2, m3, v, w1, w2, w3⟩ := tr 5 0 9 (by omega) c' m' a5 k2 k3 k4
    refine fin c' m' c2 m3 v k5 k6 a6 (a7.1 94 6 (by omega)) w3 (C0.trans (bnd a1 ((if_pos rfl).trans (bnd a2 ((if_pos rfl).trans (bnd a5' ((if_pos rfl).trans (bnd a6' ((if_pos rfl).trans (bnd a2' ((if_neg n1).trans (bnd (v := c2) ?_ rfl)))))))))))) ?_
    · rw [cv_g7 cvg_try]; exact w1
    · rw [M0, if_neg d1, if_neg d2, if_neg d5, if_neg d6, if_pos a4, S88 m' a3, if_neg d1, if_neg d2, if_neg d5, if_neg d6, if_pos a4]
      exact bnd w2 rfl
  rw [← hy0] at d7
  rcases B 8 _ wok_hand with ⟨a8', _, d8⟩ | ⟨c', m', a2', _, a3, a4, a5, a6, a7, a8⟩
  rotate_left
  · obtain ⟨k1, k2, k3, k4, k5, k6⟩ := nxt c' m' a5 a6 a7 a8
    rw [← hy0] at a4
    obtain ⟨c2, m3, v, w1, w2, w3⟩ := hand_line N hN a5 k2 k3 k4
    refine fin c' m' c2 m3 v k5 k6 a6 (a7.1 94 6 (by omega)) w3 (C0.trans (bnd a1 ((if_pos rfl).trans (bnd a2 ((if_pos rfl).trans (bnd a5' ((if_pos rfl).trans (bnd a6' ((if_pos rfl).trans (bnd a7' ((if_pos rfl).trans (bnd a2' ((if_neg n1).trans (bnd w1 rfl)))))))))))))) ?_
    rw [M0, if_neg d1, if_neg d2, if_neg d5, if_neg d6, if_neg d7, if_pos a4, S88 m' a3, if_neg d1, if_neg d2, if_neg d5, if_neg d6, if_neg d7, if_pos a4]
    exact bnd w2 rfl
  rw [← hy0] at d8
  rcases B 11 _ wok_friends with ⟨a9', _, d9⟩ | ⟨c', m', a2', _, a3, a4, a5, a6, a7, a8⟩
  rotate_left
  · obtain ⟨k1, k2, k3, k4, k5, k6⟩ := nxt c' m' a5 a6 a7 a8
    rw [← hy0] at a4
    obtain ⟨c2, m3, v, w1, w2, w3⟩ := friends_line N hN a5 k2 k3 k4
    refine fin c' m' c2 m3 v k5 k6 a6 (a7.1 94 6 (by omega)) w3 (C0.trans (bnd a1 ((if_pos rfl).trans (bnd a2 ((if_pos rfl).trans (bnd a5' ((if_pos rfl).trans (bnd a6' ((if_pos rfl).trans (bnd a7' ((if_pos rfl).trans (bnd a8' ((if_pos rfl).trans (bnd a2' ((if_neg n1).trans (bnd w1 rfl)))))))))))))))) ?_
    rw [M0, if_neg d1, if_neg d2, if_neg d5, if_neg d6, if_neg d7, if_neg d8, if_pos a4, S88 m' a3, if_neg d1, if_neg d2, if_neg d5, if_neg d6, if_neg d7, if_neg d8]
    exact bnd w2 rfl
  rw [← hy0] at d9
  -- no word of these
  obtain ⟨br, p1, p2⟩ := brk_both (c := c) (m := m1) (f := f) f5
  refine ⟨_, _, 0, C0.trans (bnd a1 ((if_pos rfl).trans (bnd a2 ((if_pos rfl).trans (bnd a5' ((if_pos rfl).trans (bnd a6' ((if_pos rfl).trans (bnd a7' ((if_pos rfl).trans (bnd a8' ((if_pos rfl).trans (bnd a9' ((if_pos rfl).trans (bnd (c_break N f c h6 hT.2.2.2.1.1) ?_))))))))))))))), ?_, frLC_P p1, frLM_tr fm1 (frLM_Q p2), Or.inl ⟨rfl, f, br⟩⟩
  · rw [F_X5_readLine_177_s, r_238_0]
    exact bnd (b_needSign N 59 _ br.1) rfl
  · rw [M0, if_neg d1, if_neg d2, if_neg d5, if_neg d6, if_neg d7, if_neg d8, if_neg d9]
    exact bnd (m_stops N f m1 T1.2.2.2.1.2) (if_pos (show zb (0 : Int32) by decide))
