/-! touch -/
theorem inv_try {d e : DY} (h : Inv d) (hf : ∀ x k : Nat, ¬ (94 ≤ x ∧ x ≤ 239) → x ≠ 510 → (x < 532 ∨ 545 < x) → ¬ (x = 531 ∧ 2880 ≤ k) → gi e x k = gi d x k) : Inv e := Inv_keep h (fun x k q => hf x k (by omega) (by omega) (by omega) (by omega)) (fun x k q => hf x k (by omega) (by omega) (by omega) (by omega))
theorem has_two (S : ST) (N : Nat) (n : Nat) (v : Int) (d : DY) (n12 : n ≤ 12) (v1 : -2147483648 ≤ v) (v2 : v < 2147483648) : F_X10_in S N (iz v) 0 (iz n - 1) d = some (if 0 ≤ v ∧ v < n then 1 else 0, d) := by
  rw [m_in, show iz (n : Int) - (1 : Int32) = iz ((n : Int) - 1) from iz_sub n 1, l_0]
  by_cases a : 0 ≤ v
  · rw [if_neg (show ¬ iz v < iz 0 from iz_nlt (by omega))]
    by_cases b : v < n
    · rw [if_neg (show ¬ iz ((n : Int) - 1) < iz v from iz_nlt (by omega)), if_pos ⟨a, b⟩]
    · rw [if_pos (show iz ((n : Int) - 1) < iz v from iz_lti (by omega)), if_neg (fun z => b z.2)]
  · rw [if_pos (show iz v < iz 0 from iz_lti (by omega)), if_neg (fun z => a z.1)]
theorem eq_touch (N : Nat) (pa la s na aa ba : Int32) (dy : DY) (hN : 900 ≤ N) (h : Inv dy) : ∃ r dy1 dy2, F_X9_touch Z0.1 N 1 pa la s na aa ba dy = some (r, dy1) ∧ F_X10_touch Z0.1 N 510 pa la s na aa ba dy1 = some (r, dy2) ∧ Inv dy2 := by
  obtain ⟨x, rfl, x1, x2⟩ := iz_ex pa
  obtain ⟨y, rfl, y1, y2⟩ := iz_ex la
  obtain ⟨z, rfl, z1, z2⟩ := iz_ex na
  obtain ⟨u, rfl, u1, u2⟩ := iz_ex aa
  obtain ⟨v, rfl, v1, v2⟩ := iz_ex ba
  obtain ⟨_, _, _, ⟨cn1, cn2⟩, ⟨p, l, e1, p3, e2, l3⟩, _, _, hPR, hLR, _⟩ := id h.1
  have n1 : ¬ (1 : Int32) = 0 := by decide
  have F := F_X9_touch_s Z0.1 N 1 (iz x) (iz y) s (iz z) (iz u) (iz v) dy
  rw [show (200 : Int32) = iz ((200 : Nat) : Int) from rfl, c_time _ N z 200 dy z1 z2 (by omega), sb_eq] at F
  have hM : ∀ d : DY, gi d 515 0 = iz p → gi d 522 0 = iz l → F_X10_touch Z0.1 N 510 (iz x) (iz y) s (iz z) (iz u) (iz v) d = _ := fun d h1 h2 => by
    rw [F_X10_touch_s, bd_eq, show (200 : Int32) = iz ((200 : Nat) : Int) from rfl, m_tried N x y z p l 200 _ x1 x2 y1 y2 z1 z2 (by omega) (by rw [gi_si_if, if_neg (by omega)]; exact h1) p3 (by rw [gi_si_if, if_neg (by omega)]; exact h2) l3, sb_eq]
  obtain ⟨cp1, cp2⟩ := c_prep N x y p l dy x1 x2 y1 y2 e1 p3 e2 l3
  have h0 := hM dy (cn1.symm.trans e1) (cn2.symm.trans e2)
  by_cases tm : 1 ≤ z ∧ z ≤ ((200 : Nat) : Int)
  · rw [if_pos tm, if_neg n1] at F
    by_cases ok : (0 ≤ x ∧ x < p) ∧ (0 ≤ y ∧ y < l)
    · obtain ⟨c1, E1, C⟩ := cp1 ok
      rw [E1, sb_eq, if_neg n1] at F
      obtain ⟨k, rfl⟩ : ∃ k : Nat, x = k := ⟨x.toNat, by omega⟩
      obtain ⟨j, rfl⟩ : ∃ j : Nat, y = j := ⟨y.toNat, by omega⟩
      rw [Int.toNat_natCast, Int.toNat_natCast] at C
      have k3 : k < 3 := by omega
      have j3 : j < 3 := by omega
      obtain ⟨L, W, n, c2, m2, B1, B2, B3, B4, B5, B6⟩ := try_lay N k j s dy c1 dy hN h k3 j3 C (fun _ _ _ _ => rfl)
      have n12 : n ≤ 12 := B4.1.2.2.1
      have g3 : gi c1 95 3 = iz n := (C.1.1 3 (by decide)).trans B3
      have n18 : gi dy 518 k = iz n := by
        have := (hPR k k3)
        obtain ⟨_, _, n', ⟨_, _, n12'⟩, _, _, _, ⟨q1, q2⟩, _⟩ := this
        rw [show 2 + 39 + 17 * k = 41 + 17 * k by omega] at q1
        rw [show 3 * 0 + k = k by omega] at q2
        exact q2.trans (q1.symm.trans B3)
      have hM2 : ∀ d : DY, gi d 515 0 = iz p → gi d 522 0 = iz l → gi d 518 k = iz n → F_X10_touch Z0.1 N 510 (iz (k : Int)) (iz (j : Int)) s (iz z) (iz u) (iz v) d = (if (if 0 ≤ u ∧ u < n then (1 : Int32) else 0) = 0 then some (-1, si d 510 0 0) else if (if 0 ≤ v ∧ v < n then (1 : Int32) else 0) = 0 then some (-1, si d 510 0 0) else if iz u = iz v then some (-1, si d 510 0 0) else (F_X10_lay Z0.1 N 510 4 (iz (k : Int)) (iz (j : Int)) s 12 (-1) (si d 510 0 0)).bind fun u10 => F_X10_touch_76 Z0.1 N N 510 (iz z) (iz u) (iz v) 0 u10) := fun d h1 h2 h3 => by
        have g : gi (si d 510 0 0) 518 k = iz n := by rw [gi_si_if, if_neg (by omega)]; exact h3
        have i12 : ib (iz (k : Int)) 12 := iz_ib (by omega)
        rw [hM d h1 h2, if_pos (show ((0 ≤ (k : Int) ∧ (k : Int) < p) ∧ (0 ≤ (j : Int) ∧ (j : Int) < l)) ∧ (1 ≤ z ∧ z ≤ ((200 : Nat) : Int)) from ⟨ok, tm⟩), if_neg n1, if_pos i12, r_510_8, tnn _ k rfl (by omega), g, has_two _ _ n u _ n12 u1 u2, sb_eq, if_pos i12, g, has_two _ _ n v _ n12 v1 v2, sb_eq]
      have c1s : ∀ x i : Nat, ¬ (95 ≤ x ∧ x ≤ 111) → gi c1 x i = gi dy x i := fun x i hx => C.2.2.1 x i (by omega)
      have hb := hM2 c1 (by rw [c1s _ _ (by omega)]; exact cn1.symm.trans e1) (by rw [c1s _ _ (by omega)]; exact cn2.symm.trans e2) (by rw [c1s _ _ (by omega)]; exact n18)
      have ic1 : Inv (si c1 510 0 0) := inv_try h (fun x i q1 q2 q3 q4 => by rw [gi_si_if, if_neg (by omega), c1s x i (by omega)])
      rw [r_1_4, c_hasG _ _ 95 u n c1 u1 u2 g3 n12, sb_eq, c_hasG _ _ 95 v n c1 v1 v2 g3 n12, sb_eq, r_1_6] at F
      by_cases hu : 0 ≤ u ∧ u < n
      · rw [if_pos hu, if_neg n1] at F hb
        by_cases hvv : 0 ≤ v ∧ v < n
        · rw [if_pos hvv, if_neg n1] at F hb
          by_cases same : iz u = iz v
          · rw [if_pos same] at F hb
            exact ⟨-1, c1, _, F, hb, ic1⟩
          · rw [if_neg same] at F
            obtain ⟨a, rfl⟩ : ∃ a : Nat, u = a := ⟨u.toNat, by omega⟩
            obtain ⟨b, rfl⟩ : ∃ b : Nat, v = b := ⟨v.toNat, by omega⟩
            obtain ⟨n0, rfl⟩ : ∃ n0 : Nat, z = n0 := ⟨z.toNat, by omega⟩
            obtain ⟨r, c', m', w1, w2, w3, w4⟩ := touch_loop N n0 L W n a b (by omega) (by omega) (by omega) (by omega) n0 0 N N c2 m2 (by omega) (by omega) (by omega) B4
            have cs : ∀ x i : Nat, ¬ (95 ≤ x ∧ x ≤ 123) → gi c' x i = gi dy x i := fun x i hx => by
              rw [w3.1 x i (by omega), B5.2.2.2.2.1 x i (by omega), c1s x i (by omega)]
            obtain ⟨L', W', n', c3, m3, D1, D2, D3, D4, D5, D6⟩ := try_lay N k j s dy c1 (si c' 510 0 0) hN h k3 j3 C (fun x i q1 q2 => by rw [gi_si_if, if_neg (by omega), cs x i (by omega)])
            have ec : c3 = c2 := Option.some.inj (D1.symm.trans B1)
            have en : n' = n := by
              have q := D3.symm.trans B3
              have := D4.1.2.2.1
              rw [iz_inj (by omega) (by omega) (by omega) (by omega)] at q
              omega
            subst ec
            subst en
            obtain ⟨r2, c4, m4, v1', v2', v3', v4'⟩ := touch_loop N n0 L' W' n' a b (by omega) (by omega) (by omega) (by omega) n0 0 N N c3 m3 (by omega) (by omega) (by omega) D4
            obtain ⟨rfl, rfl⟩ := Prod.mk.inj (Option.some.inj (v1'.symm.trans w1))
            have ms : ∀ x i : Nat, x ≠ 510 → (x < 532 ∨ 537 < x) → ¬ (x = 531 ∧ 2880 ≤ i ∧ i < 3600) → gi m4 x i = gi c4 x i := fun x i q1 q2 q3 => by
              rw [v4'.1 x i q1 q2 q3, D6.1 x i (by omega), gi_si_if, if_neg (by omega)]
            refine ⟨r2, c4, m4, F.trans (bnd D1 v1'), ?_, inv_try h (fun x i q1 q2 q3 q4 => by rw [ms x i q2 (by omega) (by omega), cs x i (by omega)])⟩
            rw [hM2 c4 (by rw [cs _ _ (by omega)]; exact cn1.symm.trans e1) (by rw [cs _ _ (by omega)]; exact cn2.symm.trans e2) (by rw [cs _ _ (by omega)]; exact n18), if_pos hu, if_neg n1, if_pos hvv, if_neg n1, if_neg same]
            exact bnd D2 v2'
        · rw [if_neg hvv, if_pos rfl] at F hb
          exact ⟨-1, c1, _, F, hb, ic1⟩
      · rw [if_neg hu, if_pos rfl] at F hb
        exact ⟨-1, c1, _, F, hb, ic1⟩
    · rw [cp2 ok, sb_eq, if_pos rfl] at F
      rw [if_neg (show ¬ (((0 ≤ x ∧ x < p) ∧ (0 ≤ y ∧ y < l)) ∧ (1 ≤ z ∧ z ≤ ((200 : Nat) : Int))) from fun q => ok q.1), if_pos rfl] at h0
      exact ⟨-1, dy, _, F, h0, inv_0 h⟩
  · rw [if_neg tm, if_pos rfl] at F
    rw [if_neg (show ¬ (((0 ≤ x ∧ x < p) ∧ (0 ≤ y ∧ y < l)) ∧ (1 ≤ z ∧ z ≤ ((200 : Nat) : Int))) from fun q => tm q.2), if_pos rfl] at h0
    exact ⟨-1, dy, _, F, h0, inv_0 h⟩
