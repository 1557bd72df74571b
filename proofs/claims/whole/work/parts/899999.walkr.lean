/-! reading a PASSAGE: a walker -/
theorem isW_cong {m e : DY} {W : Int64} {b : Int32} (N : Nat) (h : F_X10_isWord Z0.1 N 510 W m = some (b, m)) (h1 : gi e 510 21 = gi m 510 21) (h2 : gl e 510 23 = gl m 510 23) : F_X10_isWord Z0.1 N 510 W e = some (b, e) := by
  rw [F_X10_isWord_s] at h ⊢
  rw [h1, h2]
  by_cases z : gi m 510 21 = 2
  · rw [if_pos z] at h ⊢
    by_cases y : lg_cmp (gl m 510 23) W = 0
    · rw [if_pos y] at h ⊢
      rw [(Prod.mk.inj (Option.some.inj h)).1]
    · rw [if_neg y] at h ⊢
      rw [(Prod.mk.inj (Option.some.inj h)).1]
  · rw [if_neg z] at h ⊢
    rw [(Prod.mk.inj (Option.some.inj h)).1]
def wkM (m : DY) (k : Nat) (a b e a' : Int32) : DY := si (si (si (si (si (si (si (si (si m 529 (8 * k) a) 529 (8 * k + 1) b) 529 (8 * k + 2) e) 529 (8 * k + 3) 1) 529 (8 * k + 4) 0) 529 (8 * k + 5) 0) 529 (8 * k + 6) 0) 529 (8 * k + 7) (-1)) 529 (8 * k) a'
theorem gi_wkM (m : DY) (k : Nat) (a b e a' : Int32) (x i : Nat) : gi (wkM m k a b e a') x i = if x = 529 ∧ i = 8 * k then a' else if x = 529 ∧ i = 8 * k + 7 then -1 else if x = 529 ∧ i = 8 * k + 6 then 0 else if x = 529 ∧ i = 8 * k + 5 then 0 else if x = 529 ∧ i = 8 * k + 4 then 0 else if x = 529 ∧ i = 8 * k + 3 then 1 else if x = 529 ∧ i = 8 * k + 2 then e else if x = 529 ∧ i = 8 * k + 1 then b else if x = 529 ∧ i = 8 * k then a else gi m x i := by
  unfold wkM
  rw [gi_si_if, gi_si_if, gi_si_if, gi_si_if, gi_si_if, gi_si_if, gi_si_if, gi_si_if, gi_si_if]
theorem gi_wkN (m : DY) (k : Nat) (a b e a' : Int32) (x i : Nat) (h : ¬ (x = 529 ∧ 8 * k ≤ i ∧ i ≤ 8 * k + 7)) : gi (wkM m k a b e a') x i = gi m x i := by
  rw [gi_wkM, if_neg (by omega), if_neg (by omega), if_neg (by omega), if_neg (by omega), if_neg (by omega), if_neg (by omega), if_neg (by omega), if_neg (by omega), if_neg (by omega)]
def wkC (c : DY) (n : Nat) (x y w : Int32) : DY := si (si (si (si (si (si (si (si (si c 95 3 (iz ((n + 1 : Nat) : Int))) 97 n x) 98 n y) 99 n w) 100 n 1) 101 n 0) 102 n 0) 103 n 0) 104 n (-1)
theorem gi_wkC (c : DY) (n : Nat) (x y w : Int32) (z i : Nat) : gi (wkC c n x y w) z i = if z = 104 ∧ i = n then -1 else if z = 103 ∧ i = n then 0 else if z = 102 ∧ i = n then 0 else if z = 101 ∧ i = n then 0 else if z = 100 ∧ i = n then 1 else if z = 99 ∧ i = n then w else if z = 98 ∧ i = n then y else if z = 97 ∧ i = n then x else if z = 95 ∧ i = 3 then iz ((n + 1 : Nat) : Int) else gi c z i := by
  unfold wkC
  rw [gi_si_if, gi_si_if, gi_si_if, gi_si_if, gi_si_if, gi_si_if, gi_si_if, gi_si_if, gi_si_if]
theorem gi_wkCn (c : DY) (n : Nat) (x y w : Int32) (z i : Nat) (h : ¬ (97 ≤ z ∧ z ≤ 104 ∧ i = n)) (h2 : ¬ (z = 95 ∧ i = 3)) : gi (wkC c n x y w) z i = gi c z i := by
  rw [gi_wkC, if_neg (by omega), if_neg (by omega), if_neg (by omega), if_neg (by omega), if_neg (by omega), if_neg (by omega), if_neg (by omega), if_neg (by omega), if_neg (by omega)]
theorem c_addW (N n : Nat) (c : DY) (x y w : Int32) (n12 : n < 12) (g3 : gi c 95 3 = iz n) : F_X4_addWalker Z0.1 N 95 x y w c = some (wkC c n x y w) := by
  have i12 : ib (iz (n : Int)) 12 := iz_ib (by omega)
  rw [F_X4_addWalker_s, g3, if_pos (show iz (n : Int) < (12 : Int32) by rw [l_12]; exact iz_lti (by omega))]
  simp only [if_pos i12, bd_eq, cv_g2 cvg_try, cv_g3 cvg_try, cv_g4 cvg_try, cv_g5 cvg_try, cv_g6 cvg_try, cv_g7 cvg_try, cv_g8 cvg_try, cv_g9 cvg_try, tnn _ n rfl (by omega), show iz (n : Int) + (1 : Int32) = iz ((n + 1 : Nat) : Int) from iz_add n 1]
  rfl
theorem GRN_walker {c m : DY} (h : GRN c m) (L W n x y : Nat) (w e a : Int32) (hL : gi c 95 0 = iz L) (hW : gi c 95 1 = iz W) (hn : gi c 95 3 = iz n) (hb : L ≤ 16 ∧ W ≤ 6 ∧ n < 12) (hx : x < L) (hy : y < W) (hw : w = 1 ∧ e = 1 ∨ w = -1 ∧ e = 0) : GRN (wkC c n (iz x) (iz y) w) (si (wkM m n a (iz y) e (iz x)) 510 31 (iz ((n + 1 : Nat) : Int))) := by
  obtain ⟨L', W', n', ⟨a1, a2, a3⟩, ⟨b1, b2⟩, ⟨d1, d2⟩, ⟨e1, e2⟩, f, g, g2, wk, s⟩ := h
  have eL : L' = L := by
    have := b1.symm.trans hL
    rw [iz_inj (by omega) (by omega) (by omega) (by omega)] at this
    omega
  have eW : W' = W := by
    have := d1.symm.trans hW
    rw [iz_inj (by omega) (by omega) (by omega) (by omega)] at this
    omega
  have en : n' = n := by
    have := e1.symm.trans hn
    rw [iz_inj (by omega) (by omega) (by omega) (by omega)] at this
    omega
  subst eL eW en
  have oc : ∀ z k : Nat, ¬ (97 ≤ z ∧ z ≤ 104 ∧ k = n') → ¬ (z = 95 ∧ k = 3) → gi (wkC c n' (iz x) (iz y) w) z k = gi c z k := fun z k q1 q2 => gi_wkCn _ _ _ _ _ _ _ q1 q2
  have om : ∀ z k : Nat, ¬ (z = 529 ∧ 8 * n' ≤ k ∧ k ≤ 8 * n' + 7) → ¬ (z = 510 ∧ k = 31) → gi (si (wkM m n' a (iz y) e (iz x)) 510 31 (iz ((n' + 1 : Nat) : Int))) z k = gi m z k := fun z k q1 q2 => by rw [gi_si_if, if_neg q2, gi_wkN _ _ _ _ _ _ _ _ q1]
  have om9 : ∀ k : Nat, gi (si (wkM m n' a (iz y) e (iz x)) 510 31 (iz ((n' + 1 : Nat) : Int))) 529 k = gi (wkM m n' a (iz y) e (iz x)) 529 k := fun k => by rw [gi_si_if, if_neg (by omega)]
  refine ⟨L', W', n' + 1, ⟨a1, a2, by omega⟩, ⟨(oc _ _ (by omega) (by omega)).trans b1, (om _ _ (by omega) (by omega)).trans b2⟩, ⟨(oc _ _ (by omega) (by omega)).trans d1, (om _ _ (by omega) (by omega)).trans d2⟩, ⟨?_, ?_⟩, ?_, fun i hi => ?_, fun x' y' hx' hy' => ?_, fun i hi => ?_, fun i j hi hj => ?_⟩
  · rw [gi_wkC, if_neg (by omega), if_neg (by omega), if_neg (by omega), if_neg (by omega), if_neg (by omega), if_neg (by omega), if_neg (by omega), if_neg (by omega), if_pos ⟨rfl, rfl⟩]
  · rw [gi_si_if, if_pos ⟨rfl, rfl⟩]
  · rw [oc _ _ (by omega) (by omega), om _ _ (by omega) (by omega)]; exact f
  · rw [oc 96 i (by omega) (by omega), om 528 i (by omega) (by omega)]; exact g i hi
  · rw [oc 96 _ (by omega) (by omega)]; exact g2 x' y' hx' hy'
  · by_cases q : i = n'
    · subst q
      refine ⟨⟨x, hx, ?_, ?_⟩, ⟨y, hy, ?_, ?_⟩, ?_, ⟨1, by omega, by omega, ?_, ?_⟩, ⟨0, by omega, ?_, ?_⟩, ⟨0, by omega, ?_, ?_⟩, ⟨0, by omega, ?_, ?_⟩, ?_, Or.inl ?_⟩
      · rw [gi_wkC, if_neg (by omega), if_neg (by omega), if_neg (by omega), if_neg (by omega), if_neg (by omega), if_neg (by omega), if_neg (by omega), if_pos ⟨rfl, rfl⟩]
      · rw [om9, gi_wkM, if_pos ⟨rfl, rfl⟩]
      · rw [gi_wkC, if_neg (by omega), if_neg (by omega), if_neg (by omega), if_neg (by omega), if_neg (by omega), if_neg (by omega), if_pos ⟨rfl, rfl⟩]
      · rw [om9, gi_wkM, if_neg (by omega), if_neg (by omega), if_neg (by omega), if_neg (by omega), if_neg (by omega), if_neg (by omega), if_neg (by omega), if_pos ⟨rfl, rfl⟩]
      · rw [om9, gi_wkM, if_neg (by omega), if_neg (by omega), if_neg (by omega), if_neg (by omega), if_neg (by omega), if_neg (by omega), if_pos ⟨rfl, rfl⟩, gi_wkC, if_neg (by omega), if_neg (by omega), if_neg (by omega), if_neg (by omega), if_neg (by omega), if_pos ⟨rfl, rfl⟩]
        exact hw
      · rw [gi_wkC, if_neg (by omega), if_neg (by omega), if_neg (by omega), if_neg (by omega), if_pos ⟨rfl, rfl⟩]; rfl
      · rw [om9, gi_wkM, if_neg (by omega), if_neg (by omega), if_neg (by omega), if_neg (by omega), if_neg (by omega), if_pos ⟨rfl, rfl⟩]; rfl
      · rw [gi_wkC, if_neg (by omega), if_neg (by omega), if_neg (by omega), if_pos ⟨rfl, rfl⟩]; rfl
      · rw [om9, gi_wkM, if_neg (by omega), if_neg (by omega), if_neg (by omega), if_neg (by omega), if_pos ⟨rfl, rfl⟩]; rfl
      · rw [gi_wkC, if_neg (by omega), if_neg (by omega), if_pos ⟨rfl, rfl⟩]; rfl
      · rw [om9, gi_wkM, if_neg (by omega), if_neg (by omega), if_neg (by omega), if_pos ⟨rfl, rfl⟩]; rfl
      · rw [gi_wkC, if_neg (by omega), if_pos ⟨rfl, rfl⟩]; rfl
      · rw [om9, gi_wkM, if_neg (by omega), if_neg (by omega), if_pos ⟨rfl, rfl⟩]; rfl
      · rw [gi_wkC, if_pos ⟨rfl, rfl⟩, om9, gi_wkM, if_neg (by omega), if_pos ⟨rfl, rfl⟩]
      · rw [gi_wkC, if_pos ⟨rfl, rfl⟩]
    · have := wk i (by omega)
      unfold WKG at this ⊢
      rw [oc 97 i (by omega) (by omega), oc 98 i (by omega) (by omega), oc 99 i (by omega) (by omega), oc 100 i (by omega) (by omega), oc 101 i (by omega) (by omega), oc 102 i (by omega) (by omega), oc 103 i (by omega) (by omega), oc 104 i (by omega) (by omega), om 529 _ (by omega) (by omega), om 529 _ (by omega) (by omega), om 529 _ (by omega) (by omega), om 529 _ (by omega) (by omega), om 529 _ (by omega) (by omega), om 529 _ (by omega) (by omega), om 529 _ (by omega) (by omega), om 529 _ (by omega) (by omega)]
      obtain ⟨t1, t2, t3, t4, t5, t6, t7, t8, t9⟩ := this
      refine ⟨t1, t2, t3, t4, t5, t6, t7, t8, ?_⟩
      rcases t9 with z | ⟨j, j1, j2⟩
      · exact Or.inl z
      · exact Or.inr ⟨j, by omega, j2⟩
  · have new : gi (wkC c n' (iz x) (iz y) w) 104 n' = -1 := by rw [gi_wkC, if_pos ⟨rfl, rfl⟩]
    by_cases qi : i = n'
    · rw [qi, new]
      intro z
      rw [l_m1] at z
      exact absurd z (iz_nei (by omega))
    · rw [oc 104 i (by omega) (by omega)]
      by_cases qj : j = n'
      · intro z
        rcases (wk i (by omega)).2.2.2.2.2.2.2.2 with y | ⟨j', j1, j2⟩
        · rw [y, l_m1] at z
          exact absurd z (iz_nei (by omega))
        · rw [j2, iz_inj (by omega) (by omega) (by omega) (by omega)] at z
          omega
      · rw [oc 104 j (by omega) (by omega)]
        exact s i j (by omega) (by omega)
/-- the reference notes a walker down -/
theorem m_49 (N k : Nat) (m : DY) (e : Int32) (he : e = 0 ∨ e = 1) (k12 : k ≤ 12) (g31 : gi m 510 31 = iz k) (hg : gi m 510 28 = 0 ∨ gi m 510 28 = 1) (hE : F_X10_isWord Z0.1 N 510 1700885364 m = some (e, m)) : ∃ m5 : DY, m5 = si (wkM m k (gi m 510 35 / 6) (gi m 510 35 - gi m 510 35 / 6 * 6) e (if gi m 510 28 = 0 then -1 else gi m 510 35 / 6)) 510 31 (iz ((k + (if k < 12 then 1 else 0) : Nat) : Int)) ∧ F_X10_walkerLine_49 Z0.1 N 510 m = (F_X10_token Z0.1 N 510 m5).bind fun u2 => some ((1 : Int32), u2) := by
  have n6 : ¬ (6 : Int32) = 0 := by decide
  have e8 : (8 : Int32) * iz (k : Int) = iz ((8 * k : Nat) : Int) := iz_mul 8 k
  have ad : ∀ j : Nat, iz ((8 * k : Nat) : Int) + iz (j : Int) = iz ((8 * k + j : Nat) : Int) := fun j => iz_add _ _
  have a1 : iz ((8 * k : Nat) : Int) + (1 : Int32) = iz ((8 * k + 1 : Nat) : Int) := ad 1
  have a2 : iz ((8 * k : Nat) : Int) + (2 : Int32) = iz ((8 * k + 2 : Nat) : Int) := ad 2
  have a3 : iz ((8 * k : Nat) : Int) + (3 : Int32) = iz ((8 * k + 3 : Nat) : Int) := ad 3
  have a4 : iz ((8 * k : Nat) : Int) + (4 : Int32) = iz ((8 * k + 4 : Nat) : Int) := ad 4
  have a5 : iz ((8 * k : Nat) : Int) + (5 : Int32) = iz ((8 * k + 5 : Nat) : Int) := ad 5
  have a6 : iz ((8 * k : Nat) : Int) + (6 : Int32) = iz ((8 * k + 6 : Nat) : Int) := ad 6
  have a7 : iz ((8 * k : Nat) : Int) + (7 : Int32) = iz ((8 * k + 7 : Nat) : Int) := ad 7
  have ii : ∀ j : Nat, j ≤ 7 → ib (iz ((8 * k + j : Nat) : Int)) 104 := fun j hj => iz_ib (by omega)
  have tt : ∀ j : Nat, j ≤ 7 → (iz ((8 * k + j : Nat) : Int)).toNatClampNeg = 8 * k + j := fun j hj => tnn _ _ rfl (by omega)
  have i0 : ib (iz ((8 * k : Nat) : Int)) 104 := ii 0 (by omega)
  have t0 : (iz ((8 * k : Nat) : Int)).toNatClampNeg = 8 * k := tt 0 (by omega)
  obtain ⟨m2, hm2⟩ : ∃ m2 : DY, m2 = si (si m 529 (8 * k) (gi m 510 35 / 6)) 529 (8 * k + 1) (gi m 510 35 - gi m 510 35 / 6 * 6) := ⟨_, rfl⟩
  obtain ⟨m3, hm3⟩ : ∃ m3 : DY, m3 = si (si (si (si (si (si m2 529 (8 * k + 2) e) 529 (8 * k + 3) 1) 529 (8 * k + 4) 0) 529 (8 * k + 5) 0) 529 (8 * k + 6) 0) 529 (8 * k + 7) (-1) := ⟨_, rfl⟩
  have h2 : ∀ i : Nat, gi m2 510 i = gi m 510 i := fun i => by rw [hm2, gi_si_if, if_neg (by omega), gi_si_if, if_neg (by omega)]
  have h3 : ∀ i : Nat, gi m3 510 i = gi m 510 i := fun i => by rw [hm3, gi_si_if, if_neg (by omega), gi_si_if, if_neg (by omega), gi_si_if, if_neg (by omega), gi_si_if, if_neg (by omega), gi_si_if, if_neg (by omega), gi_si_if, if_neg (by omega), h2]
  have E2 := isW_cong (e := m2) N hE (h2 21) (by rw [hm2]; rfl)
  refine ⟨_, rfl, ?_⟩
  have v177 : ∀ v : Int32, F_X10_walkerLine_177 Z0.1 N 510 529 (iz ((8 * k : Nat) : Int)) v m3 = (F_X10_token Z0.1 N 510 (si (si m3 529 (8 * k) v) 510 31 (iz ((k + (if k < 12 then 1 else 0) : Nat) : Int)))).bind fun u2 => some ((1 : Int32), u2) := fun v => by
    have g : gi (si m3 529 (8 * k) v) 510 31 = iz k := by rw [gi_si_if, if_neg (by omega), h3]; exact g31
    rw [F_X10_walkerLine_177_s, if_pos i0, bd_eq, t0, g, F_X10_walkerLine_197_s, F_X10_walkerLine_197_s, bd_eq, bd_eq]
    by_cases z : k < 12
    · rw [if_neg (show ¬ (12 : Int32) ≤ iz (k : Int) by rw [l_12]; exact iz_nle (by omega)), if_pos z, show iz (k : Int) + (1 : Int32) = iz ((k + 1 : Nat) : Int) from iz_add k 1]
    · rw [if_pos (show (12 : Int32) ≤ iz (k : Int) by rw [l_12]; exact iz_lei (by omega)), if_neg z, Int32.add_zero]
      rfl
  have v107 : F_X10_walkerLine_107 Z0.1 N 510 (iz ((8 * k : Nat) : Int)) 529 (iz ((8 * k + 2 : Nat) : Int)) e m2 = F_X10_walkerLine_177 Z0.1 N 510 529 (iz ((8 * k : Nat) : Int)) (if gi m 510 28 = 0 then -1 else gi m 510 35 / 6) m3 := by
    rw [F_X10_walkerLine_107_s, a3, a4, a5, a6, a7, if_pos (ii 2 (by omega)), bd_eq, if_pos (ii 3 (by omega)), bd_eq, if_pos (ii 4 (by omega)), bd_eq, if_pos (ii 5 (by omega)), bd_eq, if_pos (ii 6 (by omega)), bd_eq, if_pos (ii 7 (by omega)), bd_eq, if_pos i0, r_510_34, tt 2 (by omega), tt 3 (by omega), tt 4 (by omega), tt 5 (by omega), tt 6 (by omega), tt 7 (by omega), t0, ← hm3, h3]
    have g0 : gi m3 529 (8 * k) = gi m 510 35 / 6 := by
      rw [hm3, gi_si_if, if_neg (by omega), gi_si_if, if_neg (by omega), gi_si_if, if_neg (by omega), gi_si_if, if_neg (by omega), gi_si_if, if_neg (by omega), gi_si_if, if_neg (by omega), hm2, gi_si_if, if_neg (by omega), gi_si_if, if_pos ⟨rfl, rfl⟩]
    rcases hg with z | z
    · rw [z, if_pos (by decide), if_pos rfl]
    · rw [z, if_neg (by decide), if_neg (by decide), g0]
  rw [F_X10_walkerLine_49_s, if_neg n6, g31, e8, if_pos i0, bd_eq, if_neg n6, a1, a2, if_pos (ii 1 (by omega)), bd_eq, r_510_34, t0, tt 1 (by omega), show gi (si m 529 (8 * k) (gi m 510 35 / 6)) 510 35 = gi m 510 35 from by rw [gi_si_if, if_neg (by omega)], ← hm2]
  refine bnd E2 ?_
  have fin : F_X10_walkerLine_107 Z0.1 N 510 (iz ((8 * k : Nat) : Int)) 529 (iz ((8 * k + 2 : Nat) : Int)) e m2 = (F_X10_token Z0.1 N 510 (si (wkM m k (gi m 510 35 / 6) (gi m 510 35 - gi m 510 35 / 6 * 6) e (if gi m 510 28 = 0 then -1 else gi m 510 35 / 6)) 510 31 (iz ((k + (if k < 12 then 1 else 0) : Nat) : Int)))).bind fun u2 => some ((1 : Int32), u2) := by
    rw [v107, v177, hm3, hm2]
    rfl
  rcases he with z | z
  · rw [z] at fin ⊢
    exact (if_pos rfl).trans fin
  · rw [z] at fin ⊢
    exact (if_neg (show ¬ (1 : Int32) = 0 by decide)).trans fin
