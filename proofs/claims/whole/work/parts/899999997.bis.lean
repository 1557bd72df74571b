/-! two: what comes depends on no more than the key -/
noncomputable def stT (N r : Nat) (m : DY) (cd : Nat) : DY := ((F_X10_step Z0.1 N 510 (iz r) (si m 510 46 (iz cd))).getD (0, m)).2
noncomputable def usT (N r : Nat) (m : DY) : Nat := (gi (stT N r m 0) 510 47).toNatClampNeg
noncomputable def dnT (N r : Nat) (m : DY) (cd : Nat) : Nat := (gi (stT N r m cd) 531 (720 * r + 8) - gi m 531 (720 * r + 8)).toNatClampNeg
/-- PARTS of kind j that come of m in k TENTHS -/
noncomputable def TT (N r : Nat) : Nat → DY → Nat → Nat
  | 0, m, j => if j = 0 then (if gi m 531 (720 * r + 6) = 2 then 1 else 0) else if j = 1 then 1 else 0
  | k + 1, m, j => S1 (fun cd => 4 / 2 ^ usT N r m * (if j = 0 then TT N r k (stT N r m cd) 0 else if dnT N r m cd + 1 ≤ j then TT N r k (stT N r m cd) (j - dnT N r m cd) else 0)) (2 ^ usT N r m)
theorem TT_0 (N r : Nat) (m : DY) (j : Nat) : TT N r 0 m j = if j = 0 then (if gi m 531 (720 * r + 6) = 2 then 1 else 0) else if j = 1 then 1 else 0 := rfl
theorem TT_s (N r k : Nat) (m : DY) (j : Nat) : TT N r (k + 1) m j = S1 (fun cd => 4 / 2 ^ usT N r m * (if j = 0 then TT N r k (stT N r m cd) 0 else if dnT N r m cd + 1 ≤ j then TT N r k (stT N r m cd) (j - dnT N r m cd) else 0)) (2 ^ usT N r m) := rfl
theorem stT_of {N r cd : Nat} {m m' : DY} {s : Int32} (h : F_X10_step Z0.1 N 510 (iz r) (si m 510 46 (iz cd)) = some (s, m')) : stT N r m cd = m' := by
  unfold stT
  rw [h]
  rfl
theorem dCN_le (c : DY) (g w : Nat) : dCN c g w 2 ≤ 1 := by
  have e : dCN c g w 2 = 0 + (0 + (if 0 < 0 then dC2 c g w 0 0 else 0) + (if 0 < 1 then dC2 c g w 0 1 else 0)) + (0 + (if 1 < 0 then dC2 c g w 1 0 else 0) + (if 1 < 1 then dC2 c g w 1 1 else 0)) := rfl
  rw [e, if_neg (by omega), if_pos (by omega), if_neg (by omega), if_neg (by omega)]
  rcases dC2_b c g w 0 1 with z | z <;> omega
/-- a told tenth of a walk: the class's walk with its aims, and what comes of it -/
theorem told_of {c m : DY} {w r L W R p0 p1 : Nat} {x0 x1 : Int32} (N cd : Nat) (hN : 40 ≤ N) (hS : SR c m w r L W) (hRn : gi c 105 0 = iz R) (R16 : R ≤ 16) (hWh : ∀ q k : Nat, q < R → k < (gi c (95 + 10 + 2) q).toNatClampNeg → ∃ wh : Nat, wh ≤ 10 ∧ gi c (95 + 10 + 3) (4 * q + k) = iz wh) (hp0 : gi c (95 + 8) 0 = iz p0) (hp1 : gi c (95 + 8) 1 = iz p1) (p02 : p0 ≤ 2) (p12 : p1 ≤ 2) (hx0 : DD c w L W R 0 x0) (hx1 : DD c w L W R 1 x1) (z0 z1 : Nat) (z05 : z0 ≤ 5) (z15 : z1 ≤ 5) (e0 : x0 = iz z0) (e1 : x1 = iz z1) (hcd : cd < 4) (e : DY) (he : ∀ x k : Nat, x < 510 → ¬ (x = w ∧ k = 8) → x ≠ w + 8 → x ≠ w + 10 → gi e x k = gi c x k) (a0 : gi e (w + 8) 0 = aimT x0 p0 (cd % 2)) (a1 : gi e (w + 8) 1 = aimT x1 p1 (cd / 2 ^ ndT x0 p0 % 2)) (o0 o1 : Nat) (ho : o0 = 0 ∧ o1 = 1 ∨ o0 = 1 ∧ o1 = 0) (h90 : gi c (w + 9) 0 = iz o0) (h91 : gi c (w + 9) 1 = iz o1) (wy : Nat → Int) (hwy : ∀ i : Nat, i < 2 → (wy i = 1 ∨ wy i = -1) ∧ gi c (95 + 4) i = iz (wy i)) : ∃ (s : Nat) (c' m' : DY) (m0 m1 : Nat) (X0 Y0 X1 Y1 : Int), F_X8_move Z0.1 N w e = some (iz s, c') ∧ stT N r m cd = m' ∧ SR c' m' w r L W ∧ gi m' 510 47 = iz ((ndT x0 p0 + ndT x1 p1 : Nat) : Int) ∧ frCT w e c' ∧ (m0 ≤ 1 ∧ m1 ≤ 1) ∧ GFP L W 2 (fun x y => gi c (95 + 1) (6 * x + y).toNat = 1) (cx c w 0) (cy c w 0) o0 ((fun i => if i = 0 then aimT x0 p0 (cd % 2) else aimT x1 p1 (cd / 2 ^ ndT x0 p0 % 2)) o0 = 5) ((fun i => if i = 0 then amT x0 p0 (cd % 2) else amT x1 p1 (cd / 2 ^ ndT x0 p0 % 2)) o0) (wy o0) m0 X0 Y0 ∧ GFP L W 2 (fun x y => gi c (95 + 1) (6 * x + y).toNat = 1) (updI (cx c w 0) o0 X0) (updI (cy c w 0) o0 Y0) o1 ((fun i => if i = 0 then aimT x0 p0 (cd % 2) else aimT x1 p1 (cd / 2 ^ ndT x0 p0 % 2)) o1 = 5) ((fun i => if i = 0 then amT x0 p0 (cd % 2) else amT x1 p1 (cd / 2 ^ ndT x0 p0 % 2)) o1) (wy o1) m1 X1 Y1 ∧ (∀ i : Nat, i < 2 → gi c' (w + 1) i = iz (updI (updI (cx c w 0) o0 X0) o1 X1 i) ∧ gi c' (w + 2) i = iz (updI (updI (cy c w 0) o0 Y0) o1 Y1 i)) ∧ (∀ t i : Nat, t < 3 → i < 2 → gi c' (w + 1) (12 * (t + 1) + i) = gi c (w + 1) (12 * t + i) ∧ gi c' (w + 2) (12 * (t + 1) + i) = gi c (w + 2) (12 * t + i)) ∧ gi c' (w + 7) o0 = (if m0 = 1 then 0 else wtI (gi c (w + 7) o0)) ∧ gi c' (w + 7) o1 = (if m1 = 1 then 0 else wtI (gi c (w + 7) o1)) ∧ gi c' w 6 = gi c w 6 + iz (dCN c' 95 w 2 : Nat) ∧ gi c' w 2 = gi c w 2 + 1 ∧ (∀ k : Nat, gi c' (w + 9) k = gi c (w + 9) k) ∧ dnT N r m cd = dCN c' 95 w 2 ∧ (∀ x k : Nat, ¬ (x = 510 ∧ (k = 42 ∨ k = 46 ∨ k = 47)) → (x < 532 ∨ 537 < x) → ¬ (x = 531 ∧ 720 * r ≤ k ∧ k < 720 * r + 720 ∧ k ≠ 720 * r + 10) → gi m' x k = gi m x k) ∧ F_X10_step Z0.1 N 510 (iz r) (si m 510 46 (iz cd)) = some (iz s, m') := by
  obtain ⟨hG, hw, r14, hR, h45, hAW⟩ := id hS
  obtain ⟨_, _, _, _, d5⟩ := cv_dj hG
  have hSe := SR_aim hS he
  have eh : ∀ x k : Nat, x < 510 → ¬ (x = w ∧ k ≠ 2) → x ≠ w + 8 → x ≠ w + 10 → gi e x k = gi c x k := fun x k q1 q2 q3 q4 => he x k q1 (by omega) q3 q4
  have D0 := DD_aim hw (by omega) (by omega) eh hWh hx0
  have D1 := DD_aim hw (by omega) (by omega) eh hWh hx1
  obtain ⟨s, c', m', q1, q2, q3, q4, q5, q6, q7⟩ := told_step N cd hN hSe ((he _ _ (by omega) (by omega) (by omega) (by omega)).trans hRn) R16 ((he _ _ (by omega) (by omega) (by omega) (by omega)).trans hp0) ((he _ _ (by omega) (by omega) (by omega) (by omega)).trans hp1) p02 p12 D0 D1 hcd a0 a1
  have hC : CGO e 95 105 w L W 2 (cx c w 0) (cy c w 0) := by
    obtain ⟨h1, h2, ⟨h3, h4, h5⟩, h6, h7⟩ := SR_CGO hS
    refine ⟨h1, h2, ⟨(he _ _ (by omega) (by omega) (by omega) (by omega)).trans h3, (he _ _ (by omega) (by omega) (by omega) (by omega)).trans h4, (he _ _ (by omega) (by omega) (by omega) (by omega)).trans h5⟩, fun k hk => ?_, fun o ho => ?_⟩
    · rw [he _ _ (by omega) (by omega) (by omega) (by omega)]; exact h6 k hk
    · rw [he _ _ (by omega) (by omega) (by omega) (by omega), he _ _ (by omega) (by omega) (by omega) (by omega)]; exact h7 o ho
  have aims : ∀ i : Nat, i < 2 → gi e (w + 8) i = (fun i => if i = 0 then aimT x0 p0 (cd % 2) else aimT x1 p1 (cd / 2 ^ ndT x0 p0 % 2)) i := fun i hi => by
    have I : i = 0 ∨ i = 1 := by omega
    rcases I with rfl | rfl
    · exact a0
    · exact a1
  obtain ⟨m0, m1, X0, Y0, X1, Y1, s2, c2, v1, v2, v3, v4, v5, v6, v7, v8, v9, v10, v11⟩ := c_move2 N e 95 105 w L W o0 o1 (cx c w 0) (cy c w 0) wy (fun i => if i = 0 then amT x0 p0 (cd % 2) else amT x1 p1 (cd / 2 ^ ndT x0 p0 % 2)) (by omega) hC ((he _ _ (by omega) (by omega) (by omega) (by omega)).trans h90) ((he _ _ (by omega) (by omega) (by omega) (by omega)).trans h91) ho (fun i hi => by
    unfold AIMOK
    rw [he (95 + 4) _ (by omega) (by omega) (by omega) (by omega), he (95 + 8) _ (by omega) (by omega) (by omega) (by omega), aims i hi]
    have I : i = 0 ∨ i = 1 := by omega
    rcases I with rfl | rfl
    · obtain ⟨y1, y2⟩ := amT_ok z0 p0 (cd % 2) z05 p02
      rw [← e0] at y1 y2
      rw [hp0]
      exact ⟨(hwy 0 hi).2, (hwy 0 hi).1, y1, y2⟩
    · obtain ⟨y1, y2⟩ := amT_ok z1 p1 (cd / 2 ^ ndT x0 p0 % 2) z15 p12
      rw [← e1] at y1 y2
      rw [hp1]
      exact ⟨(hwy 1 hi).2, (hwy 1 hi).1, y1, y2⟩)
  have ec : c2 = c' := (Prod.mk.inj (Option.some.inj (v2.symm.trans q1))).2
  subst ec
  have oe : ∀ x k : Nat, x < 510 → ¬ (x = w ∧ k = 8) → x ≠ w + 8 → x ≠ w + 10 → gi e x k = gi c x k := he
  have hw12 : o0 < 2 ∧ o1 < 2 := by omega
  have st := stT_of q2
  have GC : ∀ {px py : Nat → Int} {i am mv : Nat} {stp : Prop} {wyi X Y : Int}, i < 2 → GFP L W 2 (fun x y => gi e (95 + 1) (6 * x + y).toNat = 1) px py i stp am wyi mv X Y → ∀ st' : Prop, (st' ↔ stp) → GFP L W 2 (fun x y => gi c (95 + 1) (6 * x + y).toNat = 1) px py i st' am wyi mv X Y := fun hi h st' hst => GFP_cg hi (fun x y _ => by
    show gi c (95 + 1) _ = 1 ↔ gi e (95 + 1) _ = 1
    rw [he _ _ (by omega) (by omega) (by omega) (by omega)]) (fun o _ => ⟨rfl, rfl⟩) hst h
  have k8 : gi c2 w 6 = gi m' 531 (720 * r + 8) := by
    have := q3.2.2.2.1.2.2.2.2.2.2.1.2.2.2.2.1
    rw [mix_c _ _ _ _ (by omega), mix_m _ _ _ _ (by omega), gi_si_if, if_neg (by omega)] at this
    exact this
  have k80 : gi c w 6 = gi m 531 (720 * r + 8) := by
    have := hR.2.2.2.2.2.2.1.2.2.2.2.1
    rw [mix_c _ _ _ _ (by omega), mix_m _ _ _ _ (by omega), gi_si_if, if_neg (by omega)] at this
    exact this
  have e6 : gi e w 6 = gi c w 6 := he _ _ (by omega) (by omega) (by omega) (by omega)
  have fr : ∀ x k : Nat, ¬ (x = 510 ∧ (k = 42 ∨ k = 46 ∨ k = 47)) → (x < 532 ∨ 537 < x) → ¬ (x = 531 ∧ 720 * r ≤ k ∧ k < 720 * r + 720 ∧ k ≠ 720 * r + 10) → gi m' x k = gi m x k := q6
  refine ⟨s, c2, m', m0, m1, X0, Y0, X1, Y1, q1, st, q3, q4, q5, v1, GC hw12.1 v3 _ (by rw [aims o0 hw12.1]), GC hw12.2 v4 _ (by rw [aims o1 hw12.2]), v5, fun t i ht hi => ?_, ?_, ?_, ?_, ?_, fun k => ?_, ?_, fr, q2⟩
  · rw [← he (w + 1) _ (by omega) (by omega) (by omega) (by omega), ← he (w + 2) _ (by omega) (by omega) (by omega) (by omega)]
    exact v6 t i ht hi
  · rw [← he (w + 7) _ (by omega) (by omega) (by omega) (by omega)]; exact v7
  · rw [← he (w + 7) _ (by omega) (by omega) (by omega) (by omega)]; exact v8
  · rw [← e6]; exact v9
  · rw [← he w 2 (by omega) (by omega) (by omega) (by omega)]; exact v10
  · rw [← he (w + 9) k (by omega) (by omega) (by omega) (by omega)]; exact v11 k
  · unfold dnT
    rw [st, ← k8, v9, e6, ← k80]
    have := dCN_le c2 95 w
    generalize dCN c2 95 w 2 = dn at this
    have e : ∀ a : Int32, a + iz (dn : Int) - a = iz dn := fun a => by
      rw [Int32.add_comm, Int32.add_sub_cancel]
    rw [e]
    exact tnn _ dn rfl (by omega)
