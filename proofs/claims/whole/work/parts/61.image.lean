/-! image, again -/
def Inv (dy : DY) : Prop := TRel dy 2 0 ∧ ∀ k : Nat, k < 3 → gi dy 93 k = gi dy 546 k ∧ (gi dy 93 k = 0 ∨ gi dy 93 k = 1 ∧ TRel dy (240 + 90 * k) (k + 1))
theorem blk_id (fl : List Nat) (cl : List (Nat × Nat)) (b : Nat) (d e : DY) (h1 : ∀ f ∈ fl, gi e b f = gi d b f) (h2 : ∀ p ∈ cl, ∀ k : Nat, k < p.2 → gi e (b + p.1) k = gi d (b + p.1) k) : blk fl cl b b d e := ⟨h1, h2⟩
theorem told_id (d e : DY) (t : Nat) (h : ∀ x k : Nat, t ≤ x → x ≤ t + 89 → x ≠ t + 31 → x ≠ t + 37 → x ≠ t + 38 → ¬ (x = t + 21 ∧ k = 8) → gi e x k = gi d x k) : told d e t t := by
  have hp : ∀ p ∈ pC, 1 ≤ p.1 ∧ p.1 ≤ 9 := by decide
  have hl : ∀ p ∈ lC, 1 ≤ p.1 ∧ p.1 ≤ 6 := by decide
  have hw : ∀ p ∈ wC, 1 ≤ p.1 ∧ p.1 ≤ 11 ∧ p.1 ≠ 10 := by decide
  have hf : ∀ p ∈ fC, 1 ≤ p.1 ∧ p.1 ≤ 3 := by decide
  have hwF : ∀ f ∈ wF, f ≠ 8 := by decide
  have P : ∀ o : Nat, o = 4 ∨ o = 39 ∨ o = 56 ∨ o = 73 → blk pF pC (t + o) (t + o) d e := fun o ho => ⟨fun f hf => h _ _ (by omega) (by omega) (by omega) (by omega) (by omega) (by omega), fun p hp' k hk => by
    have := hp p hp'
    exact h _ _ (by omega) (by omega) (by omega) (by omega) (by omega) (by omega)⟩
  have L : ∀ o : Nat, o = 14 ∨ o = 49 ∨ o = 66 ∨ o = 83 → blk lF lC (t + o) (t + o) d e := fun o ho => ⟨fun f hf => h _ _ (by omega) (by omega) (by omega) (by omega) (by omega) (by omega), fun p hp' k hk => by
    have := hl p hp'
    exact h _ _ (by omega) (by omega) (by omega) (by omega) (by omega) (by omega)⟩
  refine ⟨fun f hf => h _ _ (by omega) (by omega) (by omega) (by omega) (by omega) (by omega), fun k hk => h _ _ (by omega) (by omega) (by omega) (by omega) (by omega) (by omega), P 4 (by omega), L 14 (by omega), ⟨fun f hf => ?_, fun p hp' k hk => ?_⟩, ⟨fun f hf => (by cases hf), fun p hp' k hk => ?_⟩, ⟨P 39 (by omega), P 56 (by omega), P 73 (by omega)⟩, L 49 (by omega), L 66 (by omega), L 83 (by omega)⟩
  · have := hwF f hf
    exact h _ _ (by omega) (by omega) (by omega) (by omega) (by omega) (by omega)
  · have := hw p hp'
    exact h _ _ (by omega) (by omega) (by omega) (by omega) (by omega) (by omega)
  · have := hf p hp'
    exact h _ _ (by omega) (by omega) (by omega) (by omega) (by omega) (by omega)
theorem told_on {d e e' : DY} {t t' : Nat} (q : told d e t t') (h : ∀ x k : Nat, t' ≤ x → x ≤ t' + 89 → gi e' x k = gi e x k) : told d e' t t' := by
  have hp : ∀ p ∈ pC, p.1 ≤ 9 := by decide
  have hl : ∀ p ∈ lC, p.1 ≤ 6 := by decide
  have hw : ∀ p ∈ wC, p.1 ≤ 11 := by decide
  have hf : ∀ p ∈ fC, p.1 ≤ 3 := by decide
  have B : ∀ (fl : List Nat) (cl : List (Nat × Nat)) (b o m : Nat), (∀ p ∈ cl, p.1 ≤ m) → o + m ≤ 89 → blk fl cl b (t' + o) d e → blk fl cl b (t' + o) d e' := fun fl cl b o m hc ho k => ⟨fun f hf => (h _ _ (by omega) (by omega)).trans (k.1 f hf), fun p hp' i hi => by
    have := hc p hp'
    exact (h _ _ (by omega) (by omega)).trans (k.2 p hp' i hi)⟩
  obtain ⟨t1, t2, t3, t4, t5, t6, ⟨t7, t8, t9⟩, t10, t11, t12⟩ := q
  exact ⟨fun f hf => (h _ _ (by omega) (by omega)).trans (t1 f hf), fun k hk => (h _ _ (by omega) (by omega)).trans (t2 k hk), B _ _ _ 4 9 hp (by omega) t3, B _ _ _ 14 6 hl (by omega) t4, B _ _ _ 21 11 hw (by omega) t5, B _ _ _ 33 3 hf (by omega) t6, ⟨B _ _ _ 39 9 hp (by omega) t7, B _ _ _ 56 9 hp (by omega) t8, B _ _ _ 73 9 hp (by omega) t9⟩, B _ _ _ 49 6 hl (by omega) t10, B _ _ _ 66 6 hl (by omega) t11, B _ _ _ 83 6 hl (by omega) t12⟩
theorem rC_nodup : rCells.Nodup := by decide
theorem rC_in : ∀ x ∈ rCells, 511 ≤ x ∧ x ≤ 531 := by decide
theorem mul_apart (n a b i : Nat) (hab : a ≠ b) (hi : i < n) : ¬ (n * b ≤ n * a + i ∧ n * a + i < n * b + n) := by
  rcases Nat.lt_or_gt_of_ne hab with c | c
  · have : n * (a + 1) ≤ n * b := Nat.mul_le_mul_left n c
    rw [Nat.mul_add, Nat.mul_one] at this
    omega
  · have : n * (b + 1) ≤ n * a := Nat.mul_le_mul_left n c
    rw [Nat.mul_add, Nat.mul_one] at this
    omega
theorem m_in02 (S : ST) (N : Nat) (x : Int) (dy : DY) (x1 : -2147483648 ≤ x) (x2 : x < 2147483648) : F_X10_in S N (iz x) 0 2 dy = some (if 0 ≤ x ∧ x ≤ 2 then 1 else 0, dy) := m_inz S N x 0 2 dy x1 x2 (by omega) (by omega) (by omega) (by omega)
theorem r_1_1k : ∀ k : Nat, k < 3 → gr Z0.1 (gr Z0.1 1 1) k = 240 + 90 * k := by
  intro k hk
  have : k = 0 ∨ k = 1 ∨ k = 2 := by omega
  rw [r_1_1]
  rcases this with rfl | rfl | rfl
  · exact r_92_0
  · exact r_92_1
  · exact r_92_2
theorem tb_k : ∀ k : Nat, k < 3 → 240 + 90 * k ∈ TB := by decide
/-- all that the bonds speak of stays -/
theorem Inv_keep {d e : DY} (h : Inv d) (hc : ∀ x k : Nat, (2 ≤ x ∧ x ≤ 91 ∧ x ≠ 33 ∧ x ≠ 39 ∧ x ≠ 40 ∧ ¬ (x = 23 ∧ k = 8)) ∨ (240 ≤ x ∧ x ≤ 509) ∨ x = 93 → gi e x k = gi d x k) (hm : ∀ x k : Nat, (511 ≤ x ∧ x ≤ 527) ∨ x = 531 ∧ k < 2880 ∨ x = 546 → gi e x k = gi d x k) : Inv e := by
  have sl : ∀ j : Nat, j < 4 → slot d e j j := fun j hj x hx i hi => by
    have hb := rC_in x hx
    refine hm _ _ ?_
    by_cases q : x = 531
    · subst q
      have : rsz 531 = 720 := rfl
      rw [this] at hi ⊢
      exact Or.inr (Or.inl ⟨rfl, by omega⟩)
    · have : ∀ x ∈ rCells, x ≠ 531 → x ≤ 527 := by decide
      have := this x hx q
      omega
  refine ⟨TRel_of h.1 (told_id d e 2 (fun x k q1 q2 q3 q4 q5 q6 => hc x k (by omega))) (sl 0 (by omega)), fun k hk => ?_⟩
  obtain ⟨k1, k2⟩ := h.2 k hk
  rw [hc 93 k (by omega), hm 546 k (by omega)]
  refine ⟨k1, ?_⟩
  rcases k2 with z | ⟨z1, z2⟩
  · exact Or.inl z
  · exact Or.inr ⟨z1, TRel_of z2 (told_id d e _ (fun x i q1 q2 _ _ _ _ => hc x i (by omega))) (sl (k + 1) (by omega))⟩
theorem wlk_01 {d : DY} {t j : Nat} (h : TRel d t j) : gi d t 11 = 0 ∨ gi d t 11 = 1 := by
  rcases h.2.2.2.2.2.2.2.2.2.2.1 with q | ⟨q, _⟩
  · exact Or.inl q
  · exact Or.inr q
theorem eq_image (N : Nat) (a : Int32) (dy : DY) (hN : 900 ≤ N) (h : Inv dy) : ∃ r dy1 dy2, F_X9_image Z0.1 N 1 a dy = some (r, dy1) ∧ F_X10_image Z0.1 N 510 a dy1 = some (r, dy2) ∧ Inv dy2 := by
  obtain ⟨z, rfl, z1, z2⟩ := iz_ex a
  have hM : ∀ d : DY, F_X10_image Z0.1 N 510 (iz z) d = _ := fun d => by
    rw [F_X10_image_s, bd_eq, m_in02 _ _ z _ z1 z2, sb_eq]
  by_cases ok : 0 ≤ z ∧ z ≤ 2
  · obtain ⟨k, rfl⟩ : ∃ k : Nat, z = k := ⟨z.toNat, by omega⟩
    have hk : k < 3 := by omega
    obtain ⟨e1, E1, T1, F1⟩ := c_tcopy N 2 (240 + 90 * k) dy (by omega) (by decide) (tb_k k hk) (by omega) (wlk_01 h.1)
    have ii : ib (iz (k : Int)) 3 := iz_ib (by omega)
    have hc : F_X9_image Z0.1 N 1 (iz (k : Int)) dy = some (1, si e1 93 k 1) := by
      rw [F_X9_image_s, if_neg (iz_nlt0 (by omega)), if_pos (show iz (k : Int) < 3 from iz_lti (b := 3) (by omega)), if_pos ii]
      refine bnd (v := e1) (by rw [tnn _ k rfl (by omega), r_1_1k k hk, r_1_0]; exact E1) ?_
      show (if ib (iz (k : Int)) 3 then _ else _) = _
      rw [if_pos ii, bd_eq, r_1_2, tnn _ k rfl (by omega)]
    have x1 : ∀ x i : Nat, x < 240 + 90 * k ∨ 240 + 90 * k + 89 < x → x ≠ 93 → ¬ (x = 510 ∧ i = 0) → gi (si (si e1 93 k 1) 510 0 0) x i = gi dy x i := fun x i q1 q2 q3 => by
      rw [gi_si_if, if_neg q3, gi_si_if, if_neg (fun w => q2 w.1)]
      exact F1.1 x i q1
    have cp := m_copy N 0 (k + 1) (si (si e1 93 k 1) 510 0 0) hN (by omega) (by omega) (by omega) (fun i hi => by
      rw [x1 511 _ (by omega) (by omega) (by omega)]
      exact h.1.2.1 i hi)
    have hm : F_X10_image Z0.1 N 510 (iz (k : Int)) (si e1 93 k 1) = some (1, si (mfold 0 (k + 1) rCells (si (si e1 93 k 1) 510 0 0)) 546 k 1) := by
      rw [hM, if_pos ok, if_neg (by decide : ¬ (1 : Int32) = 0), show iz (k : Int) + (1 : Int32) = iz ((k + 1 : Nat) : Int) from iz_add k 1]
      refine bnd cp ?_
      show (if ib (iz (k : Int)) 3 then _ else _) = _
      rw [if_pos ii, bd_eq, r_510_60, tnn _ k rfl (by omega)]
    have y1 : ∀ x i : Nat, x ≤ 509 → x ≠ 93 → gi (si (mfold 0 (k + 1) rCells (si (si e1 93 k 1) 510 0 0)) 546 k 1) x i = gi e1 x i := fun x i q1 q2 => by
      rw [gi_si_if, if_neg (by omega), gi_mfold _ _ _ _ _ _ rC_nodup, if_neg (fun w => by have := rC_in x w.1; omega), gi_si_if, if_neg (by omega), gi_si_if, if_neg (fun w => q2 w.1)]
    have y2 : ∀ j : Nat, j < 4 → j ≠ k + 1 → slot dy (si (mfold 0 (k + 1) rCells (si (si e1 93 k 1) 510 0 0)) 546 k 1) j j := fun j hj hjk x hx i hi => by
      have hb := rC_in x hx
      rw [gi_si_if, if_neg (by omega), gi_mfold _ _ _ _ _ _ rC_nodup, if_neg (fun w => mul_apart _ _ _ _ hjk hi w.2)]
      exact x1 x _ (by omega) (by omega) (by omega)
    have y3 : slot dy (si (mfold 0 (k + 1) rCells (si (si e1 93 k 1) 510 0 0)) 546 k 1) 0 (k + 1) := fun x hx i hi => by
      have hb := rC_in x hx
      rw [gi_si_if, if_neg (by omega), gi_mfold _ _ _ _ _ _ rC_nodup, if_pos ⟨hx, by omega, by omega⟩, Nat.add_sub_cancel_left]
      exact x1 x _ (by omega) (by omega) (by omega)
    have g93 : ∀ i, gi (si (mfold 0 (k + 1) rCells (si (si e1 93 k 1) 510 0 0)) 546 k 1) 93 i = if i = k then 1 else gi dy 93 i := fun i => by
      rw [gi_si_if, if_neg (by omega), gi_mfold _ _ _ _ _ _ rC_nodup, if_neg (fun w => by have := rC_in 93 w.1; omega), gi_si_if, if_neg (by omega), gi_si_if]
      by_cases q : i = k
      · rw [if_pos ⟨rfl, q⟩, if_pos q]
      · rw [if_neg (fun w => q w.2), if_neg q]
        exact F1.1 93 i (by omega)
    have g546 : ∀ i, gi (si (mfold 0 (k + 1) rCells (si (si e1 93 k 1) 510 0 0)) 546 k 1) 546 i = if i = k then 1 else gi dy 546 i := fun i => by
      rw [gi_si_if, gi_mfold _ _ _ _ _ _ rC_nodup, if_neg (show ¬ (546 ∈ rCells ∧ _) from fun w => by have := rC_in 546 w.1; omega), x1 546 i (by omega) (by omega) (by omega)]
      by_cases q : i = k
      · rw [if_pos ⟨rfl, q⟩, if_pos q]
      · rw [if_neg (fun w => q w.2), if_neg q]
    refine ⟨1, _, _, hc, hm, ?_, fun i hi => ?_⟩
    · exact TRel_of h.1 (told_id _ _ 2 (fun x j q1 q2 _ _ _ _ => (y1 x j (by omega) (by omega)).trans (F1.1 x j (by omega)))) (y2 0 (by omega) (by omega))
    · obtain ⟨k1, k2⟩ := h.2 i hi
      rw [g93, g546]
      by_cases q : i = k
      · rw [if_pos q, if_pos q]
        refine ⟨rfl, Or.inr ⟨rfl, ?_⟩⟩
        rw [q]
        exact TRel_of h.1 (told_on T1 (fun x j q1 q2 => y1 x j (by omega) (by omega))) y3
      · rw [if_neg q, if_neg q]
        refine ⟨k1, ?_⟩
        rcases k2 with w | ⟨w1, w2⟩
        · exact Or.inl w
        · refine Or.inr ⟨w1, TRel_of w2 (told_id _ _ _ (fun x j q1 q2 _ _ _ _ => ?_)) (y2 (i + 1) (by omega) (by omega))⟩
          exact (y1 x j (by omega) (by omega)).trans (F1.1 x j (by omega))
  · refine ⟨0, dy, si dy 510 0 0, ?_, ?_, ?_⟩
    · rw [F_X9_image_s]
      by_cases q : z < 0
      · rw [if_pos (iz_lt0 (by omega))]
      · rw [if_neg (iz_nlt0 (by omega)), if_neg (show ¬ iz z < 3 from iz_nlt (b := 3) (by omega))]
    · rw [hM, if_neg ok, if_pos rfl]
    · exact Inv_keep h (fun x k q => by rw [gi_si_if, if_neg (by omega)]) (fun x k q => by rw [gi_si_if, if_neg (by omega)])
theorem eq_again (N : Nat) (a : Int32) (dy : DY) (hN : 900 ≤ N) (h : Inv dy) : ∃ r dy1 dy2, F_X9_again Z0.1 N 1 a dy = some (r, dy1) ∧ F_X10_again Z0.1 N 510 a dy1 = some (r, dy2) ∧ Inv dy2 := by
  obtain ⟨z, rfl, z1, z2⟩ := iz_ex a
  have hM : ∀ d : DY, F_X10_again Z0.1 N 510 (iz z) d = _ := fun d => by
    rw [F_X10_again_s, bd_eq, m_in02 _ _ z _ z1 z2, sb_eq]
  have no : ∀ r : Int32, Inv (si dy 510 0 0) := fun _ => Inv_keep h (fun x k q => by rw [gi_si_if, if_neg (by omega)]) (fun x k q => by rw [gi_si_if, if_neg (by omega)])
  by_cases ok : 0 ≤ z ∧ z ≤ 2
  · obtain ⟨k, rfl⟩ : ∃ k : Nat, z = k := ⟨z.toNat, by omega⟩
    have hk : k < 3 := by omega
    have ii : ib (iz (k : Int)) 3 := iz_ib (by omega)
    obtain ⟨k1, k2⟩ := h.2 k hk
    have hc := F_X9_again_s Z0.1 N 1 (iz (k : Int)) dy
    rw [if_neg (show ¬ iz (k : Int) < 0 from iz_nlt0 (by omega)), if_neg (show ¬ (3 : Int32) ≤ iz (k : Int) from iz_nle (a := 3) (by omega)), if_pos ii, r_1_2, tnn _ k rfl (by omega)] at hc
    have hm0 : ∀ d : DY, gi d 546 k = gi dy 93 k → F_X10_again Z0.1 N 510 (iz (k : Int)) d = if nr 3 (gi dy 93 k) = 0 then some (0, si d 510 0 0) else (F_X10_copy Z0.1 N 510 (iz ((k + 1 : Nat) : Int)) 0 (si d 510 0 0)).bind fun u5 => some (1, u5) := fun d hd => by
      rw [hM, if_pos ok, if_neg (by decide : ¬ (1 : Int32) = 0), if_pos ii, r_510_60, tnn _ k rfl (by omega), show iz (k : Int) + (1 : Int32) = iz ((k + 1 : Nat) : Int) from iz_add k 1]
      show (if nr 3 (gi (si d 510 0 0) 546 k) = 0 then _ else _) = _
      rw [show gi (si d 510 0 0) 546 k = gi dy 93 k from by rw [gi_si_if, if_neg (by omega)]; exact hd]
    rcases k2 with w | ⟨w1, w2⟩
    · rw [w, if_pos (by decide)] at hc
      refine ⟨0, dy, si dy 510 0 0, hc, ?_, no 0⟩
      rw [hm0 dy k1.symm, w, if_pos (by decide)]
    · obtain ⟨e1, E1, T1, F1⟩ := c_tcopy N (240 + 90 * k) 2 dy (by omega) (tb_k k hk) (by decide) (by omega) (wlk_01 w2)
      have hc2 : F_X9_again Z0.1 N 1 (iz (k : Int)) dy = some (1, e1) := by
        rw [hc, w1, if_neg (by decide), if_pos ii]
        refine bnd (v := e1) (by rw [r_1_1k k hk, r_1_0]; exact E1) rfl
      have x1 : ∀ x i : Nat, 91 < x → ¬ (x = 510 ∧ i = 0) → gi (si e1 510 0 0) x i = gi dy x i := fun x i q1 q3 => by
        rw [gi_si_if, if_neg q3]
        exact F1.1 x i (by omega)
      have cp := m_copy N (k + 1) 0 (si e1 510 0 0) hN (by omega) (by omega) (by omega) (fun i hi => by
        rw [x1 511 _ (by omega) (by omega)]
        exact w2.2.1 i hi)
      have hm : F_X10_again Z0.1 N 510 (iz (k : Int)) e1 = some (1, mfold (k + 1) 0 rCells (si e1 510 0 0)) := by
        rw [hm0 e1 ((F1.1 546 k (by omega)).trans k1.symm), w1, if_neg (by decide)]
        exact bnd cp rfl
      have y1 : ∀ x i : Nat, x ≤ 509 → gi (mfold (k + 1) 0 rCells (si e1 510 0 0)) x i = gi e1 x i := fun x i q1 => by
        rw [gi_mfold _ _ _ _ _ _ rC_nodup, if_neg (fun w => by have := rC_in x w.1; omega), gi_si_if, if_neg (by omega)]
      have y2 : ∀ j : Nat, j < 4 → j ≠ 0 → slot dy (mfold (k + 1) 0 rCells (si e1 510 0 0)) j j := fun j hj hjk x hx i hi => by
        have hb := rC_in x hx
        rw [gi_mfold _ _ _ _ _ _ rC_nodup, if_neg (fun w => mul_apart _ _ _ _ hjk hi w.2)]
        exact x1 x _ (by omega) (by omega)
      have y3 : slot dy (mfold (k + 1) 0 rCells (si e1 510 0 0)) (k + 1) 0 := fun x hx i hi => by
        have hb := rC_in x hx
        rw [gi_mfold _ _ _ _ _ _ rC_nodup, if_pos ⟨hx, by omega, by omega⟩, Nat.add_sub_cancel_left]
        exact x1 x _ (by omega) (by omega)
      have g546 : ∀ i, gi (mfold (k + 1) 0 rCells (si e1 510 0 0)) 546 i = gi dy 546 i := fun i => by
        rw [gi_mfold _ _ _ _ _ _ rC_nodup, if_neg (show ¬ (546 ∈ rCells ∧ _) from fun w => by have := rC_in 546 w.1; omega), x1 546 i (by omega) (by omega)]
      refine ⟨1, _, _, hc2, hm, ?_, fun i hi => ?_⟩
      · exact TRel_of w2 (told_on T1 (fun x j q1 q2 => y1 x j (by omega))) y3
      · obtain ⟨m1, m2⟩ := h.2 i hi
        rw [y1 93 i (by omega), F1.1 93 i (by omega), g546]
        refine ⟨m1, ?_⟩
        rcases m2 with v | ⟨v1, v2⟩
        · exact Or.inl v
        · exact Or.inr ⟨v1, TRel_of v2 (told_id _ _ _ (fun x j q1 q2 _ _ _ _ => (y1 x j (by omega)).trans (F1.1 x j (by omega)))) (y2 (i + 1) (by omega) (by omega))⟩
  · refine ⟨0, dy, si dy 510 0 0, ?_, ?_, no 0⟩
    · rw [F_X9_again_s]
      by_cases q : z < 0
      · rw [if_pos (iz_lt0 (by omega))]
      · rw [if_neg (iz_nlt0 (by omega)), if_pos (show (3 : Int32) ≤ iz z from iz_lei (a := 3) (by omega))]
    · rw [hM, if_neg ok, if_pos rfl]
