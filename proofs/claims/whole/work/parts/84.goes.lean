/-! one who goes -/
theorem m_stood (N r : Nat) (ι : Nat → Nat) (n M : Nat) (m : DY) (px py : Nat → Int) (X Y v : Int) (r14 : r < 14) (M12 : M ≤ 12) (h2 : gi m 531 (720 * r + 2) = iz M) (hι : ∀ i : Nat, i < n → ι i < M) (hp : ∀ i : Nat, i < n → gi m 536 (ι i) = iz (px i) ∧ gi m 537 (ι i) = iz (py i) ∧ -1 ≤ px i ∧ px i ≤ 20 ∧ -1 ≤ py i ∧ py i ≤ 20) (ha : ∀ j : Nat, j < M → (∀ i : Nat, i < n → ι i ≠ j) → gi m 536 j = -1) (hX : -100 ≤ X ∧ X ≤ 100) (hY : -100 ≤ Y ∧ Y ≤ 100) (hF : FIR px py n X Y v) : ∀ q k mi : Nat, mi + q = M → q < k → (∀ o : Nat, o < n → ι o < mi → ¬ (px o = X ∧ py o = Y ∧ X ≠ -1)) → F_X10_isStoodOn_3 Z0.1 N k 510 (iz r) (iz X) (iz Y) (iz mi) m = some (if v = -1 then 0 else 1, m) := by
  intro q
  induction q with
  | zero =>
    intro k mi hq hk hA
    obtain ⟨k, rfl⟩ : ∃ j, k = j + 1 := ⟨k - 1, by omega⟩
    have hv : v = -1 := by
      rcases hF with z | ⟨i, hi, _, z1, z2, z3, _⟩
      · exact z.1
      · exact absurd ⟨z1, z2, z3⟩ (hA i hi (by have := hι i hi; omega))
    rw [F_X10_isStoodOn_3_s, m_row2, if_pos (ibr _ (by omega)), r_510_39, tnn _ (720 * r + 2) rfl (by omega), h2, if_pos (show iz (M : Int) ≤ iz (mi : Int) from iz_lei (by omega)), if_pos hv]
  | succ q ih =>
    intro k mi hq hk hA
    obtain ⟨k, rfl⟩ : ∃ j, k = j + 1 := ⟨k - 1, by omega⟩
    have ii : ib (iz (mi : Int)) 12 := iz_ib (by omega)
    have skip : (∀ o : Nat, o < n → ι o = mi → ¬ (px o = X ∧ py o = Y ∧ X ≠ -1)) → F_X10_isStoodOn_3 Z0.1 N k 510 (iz r) (iz X) (iz Y) (iz ((mi + 1 : Nat) : Int)) m = some (if v = -1 then 0 else 1, m) := fun hz => ih k (mi + 1) (by omega) (by omega) (fun o ho hom => by
      rcases Nat.lt_or_ge (ι o) mi with c | c
      · exact hA o ho c
      · exact hz o ho (by omega))
    rw [F_X10_isStoodOn_3_s, m_row2, if_pos (ibr _ (by omega)), r_510_39, tnn _ (720 * r + 2) rfl (by omega), h2, if_neg (show ¬ iz (M : Int) ≤ iz (mi : Int) from iz_nle (by omega)), if_pos ii, if_pos ii, r_510_48, r_510_49, tnn _ mi rfl (by omega), show iz (mi : Int) + (1 : Int32) = iz ((mi + 1 : Nat) : Int) from iz_add mi 1]
    by_cases img : ∃ o : Nat, o < n ∧ ι o = mi ∧ (px o = X ∧ py o = Y ∧ X ≠ -1)
    · obtain ⟨o, ho, hom, z1, z2, z3⟩ := img
      obtain ⟨p1, p2, _⟩ := hp o ho
      rw [hom] at p1 p2
      have nv : ¬ v = -1 := by
        rcases hF with ⟨_, z⟩ | ⟨i, hi, z0, _⟩
        · exact absurd ⟨z1, z2, z3⟩ (z o ho)
        · omega
      rw [p1, p2, if_pos (by rw [z1]), if_pos (by rw [z2]), if_neg (show ¬ iz X = -1 from iz_nei (b := -1) (by omega)), if_neg nv]
    · have sk := skip (fun o ho hom z => img ⟨o, ho, hom, z⟩)
      by_cases q1 : gi m 536 mi = iz X
      · rw [if_pos q1]
        by_cases q2 : gi m 537 mi = iz Y
        · rw [if_pos q2]
          by_cases q3 : iz X = -1
          · rw [if_pos q3]; exact sk
          · exfalso
            by_cases im : ∃ o : Nat, o < n ∧ ι o = mi
            · obtain ⟨o, ho, hom⟩ := im
              obtain ⟨p1, p2, p3⟩ := hp o ho
              rw [← hom, p1, iz_inj (by omega) (by omega) (by omega) (by omega)] at q1
              rw [← hom, p2, iz_inj (by omega) (by omega) (by omega) (by omega)] at q2
              exact img ⟨o, ho, hom, q1, q2, fun z => q3 (by rw [z]; rfl)⟩
            · rw [ha mi (by omega) (fun i hi z => im ⟨i, hi, z⟩)] at q1
              exact q3 q1.symm
        · rw [if_neg q2]; exact sk
      · rw [if_neg q1]; exact sk
/-- the reference's way to the square that is aimed at -/
def dXI (am : Nat) (wy : Int) : Int := if am = 0 then wy else 0
def dYI (am : Nat) (wy : Int) : Int := if am = 0 then 0 else if am = 1 then wy else -wy
theorem m_g86 (N r wi am : Nat) (m : DY) (wy px py : Int) (r14 : r < 14) (hwi : wi < 12) (ham : am ≤ 2) (hwy : wy = 1 ∨ wy = -1) (h8 : gi m 531 (720 * r + 16 + 20 * wi + 8) = if wy = 1 then 1 else 0) (ha : gi m 534 wi = iz am) (h1 : gi m 536 wi = iz px) (h2 : gi m 537 wi = iz py) : ∃ y0 y1 : Int32, y0 + y1 = iz (py + dYI am wy) ∧ F_X10_goes Z0.1 N 510 (iz r) (iz wi) m = F_X10_goes_86 Z0.1 N 510 (iz r) (iz wi) (iz ((720 * r + 16 + 20 * wi : Nat) : Int)) (iz wy) (iz (px + dXI am wy)) y0 y1 m := by
  have ii : ib (iz (wi : Int)) 12 := iz_ib (by omega)
  have tt : (iz (wi : Int)).toNatClampNeg = wi := tnn _ _ rfl (by omega)
  have b8 : iz ((720 * r + 16 + 20 * wi : Nat) : Int) + (8 : Int32) = iz ((720 * r + 16 + 20 * wi + 8 : Nat) : Int) := iz_add _ 8
  have way : F_X10_way Z0.1 N 510 (iz r) (iz wi) m = some (iz wy, m) := by
    rw [F_X10_way_s]
    refine bnd (m_at _ _ r wi _) ?_
    show (if ib (iz ((720 * r + 16 + 20 * wi : Nat) : Int) + (8 : Int32)) 10080 then _ else _) = _
    rw [b8, if_pos (ibr _ (by omega)), r_510_39, tnn _ (720 * r + 16 + 20 * wi + 8) rfl (by omega)]
    show (if gi m 531 (720 * r + 16 + 20 * wi + 8) = 1 then _ else _) = _
    rw [h8]
    rcases hwy with z | z
    · rw [z, if_pos rfl, if_pos rfl]; rfl
    · rw [z, if_neg (by decide)]; rfl
  have n5 : ¬ iz (am : Int) = 5 := iz_nei (b := 5) (by omega)
  have st : ∀ R, (if iz (am : Int) = 0 then F_X10_goes_46 Z0.1 N 510 (iz r) (iz wi) (iz ((720 * r + 16 + 20 * wi : Nat) : Int)) (iz wy) (iz px) (iz wy) m else F_X10_goes_46 Z0.1 N 510 (iz r) (iz wi) (iz ((720 * r + 16 + 20 * wi : Nat) : Int)) (iz wy) (iz px) 0 m) = R → F_X10_goes Z0.1 N 510 (iz r) (iz wi) m = R := fun R hR => by
    rw [F_X10_goes_s]
    refine bnd (m_at _ _ r wi _) ?_
    refine bnd way ?_
    rw [if_pos ii, r_510_43, r_510_48, tt]
    show (if gi m 534 wi = 5 then _ else if ib (iz (wi : Int)) 12 then if ib (iz (wi : Int)) 12 then (if gi m 534 wi = 0 then F_X10_goes_46 Z0.1 N 510 (iz r) (iz wi) (iz ((720 * r + 16 + 20 * wi : Nat) : Int)) (iz wy) (gi m 536 wi) (iz wy) m else F_X10_goes_46 Z0.1 N 510 (iz r) (iz wi) (iz ((720 * r + 16 + 20 * wi : Nat) : Int)) (iz wy) (gi m 536 wi) 0 m) else none else none) = _
    rw [ha, h1, if_neg n5, if_pos ii, if_pos ii]
    exact hR
  have h46 : ∀ y1 : Int32, F_X10_goes_46 Z0.1 N 510 (iz r) (iz wi) (iz ((720 * r + 16 + 20 * wi : Nat) : Int)) (iz wy) (iz px) y1 m = if iz (am : Int) = 0 then F_X10_goes_86 Z0.1 N 510 (iz r) (iz wi) (iz ((720 * r + 16 + 20 * wi : Nat) : Int)) (iz wy) (iz px + y1) (iz py) 0 m else (if iz (am : Int) = 1 then F_X10_goes_86 Z0.1 N 510 (iz r) (iz wi) (iz ((720 * r + 16 + 20 * wi : Nat) : Int)) (iz wy) (iz px + y1) (iz py) (iz wy) m else F_X10_goes_86 Z0.1 N 510 (iz r) (iz wi) (iz ((720 * r + 16 + 20 * wi : Nat) : Int)) (iz wy) (iz px + y1) (iz py) (-iz wy) m) := fun y1 => by
    rw [F_X10_goes_46_s, if_pos ii, if_pos ii, if_pos ii, r_510_43, r_510_49, tt, ha, h2]
  unfold dXI dYI
  have A : am = 0 ∨ am = 1 ∨ am = 2 := by omega
  rcases A with rfl | rfl | rfl
  · refine ⟨iz py, 0, ?_, st _ ?_⟩
    · rw [if_pos rfl, l_0, iz_add]
    · rw [if_pos (by decide), h46, if_pos (by decide), if_pos rfl, iz_add]
  · refine ⟨iz py, iz wy, ?_, st _ ?_⟩
    · rw [if_neg (by decide), if_pos rfl, iz_add]
    · rw [if_neg (by decide), h46, if_neg (by decide), if_pos (by decide), if_neg (by decide), l_0, iz_add]
  · refine ⟨iz py, -iz wy, ?_, st _ ?_⟩
    · rw [if_neg (by decide), if_neg (by decide), iz_neg, iz_add]
    · rw [if_neg (by decide), h46, if_neg (by decide), if_neg (by decide), if_neg (by decide), l_0, iz_add]
theorem m_g143 (N o : Nat) (m : DY) (ho : o + 20 < 10080) : F_X10_goes_143 Z0.1 N 510 (iz o) m = some (si m 531 (o + 17) (gi m 531 (o + 17) + 1)) := by
  have b : iz (o : Int) + (17 : Int32) = iz ((o + 17 : Nat) : Int) := iz_add o 17
  have j := ibr (o + 17) (by omega)
  rw [F_X10_goes_143_s, b, if_pos j, if_pos j, bd_eq, r_510_39, tnn _ (o + 17) rfl (by omega)]
theorem m_g289 (N wi : Nat) (m : DY) (X Y : Int32) (x7 : Int32) (hwi : wi < 12) : F_X10_goes_289 Z0.1 N 510 (iz wi) X Y x7 m = some (if x7 = 0 then si (si m 536 wi (-1)) 537 wi (-1) else si (si m 536 wi X) 537 wi Y) := by
  have ii : ib (iz (wi : Int)) 12 := iz_ib (by omega)
  have tt : (iz (wi : Int)).toNatClampNeg = wi := tnn _ _ rfl (by omega)
  rw [F_X10_goes_289_s, r_510_48]
  by_cases q : x7 = 0
  · rw [if_pos q, if_pos q, F_X10_goes_305_s, if_pos ii, bd_eq, if_pos q, F_X10_goes_322_s, if_pos ii, bd_eq, r_510_49, tt]
  · rw [if_neg q, if_neg q, F_X10_goes_305_s, if_pos ii, bd_eq, if_neg q, F_X10_goes_322_s, if_pos ii, bd_eq, r_510_49, tt]
/-- moved, counted: what comes before the door -/
def mvD (m : DY) (wi o : Nat) (s : Int32) : DY := si (si (si m 535 wi 1) 531 (o + 15) (gi m 531 (o + 15) + 1)) 531 (o + 16) (gi m 531 (o + 16) + s)
theorem m_g157 (N r wi o am : Nat) (m : DY) (wy : Int32) (X Y x7 : Int32) (hwi : wi < 12) (ho : o + 20 < 10080) (ham : am ≤ 2) (ha : gi m 534 wi = iz am) : F_X10_goes_157 Z0.1 N 510 (iz r) (iz wi) (iz o) wy X Y x7 m = if x7 = 0 then F_X10_goes_246 Z0.1 N 510 (iz r) (iz wi) (iz o) X Y x7 (mvD m wi o (if am = 0 then 0 else 1)) else if am = 0 then (F_X10_passDoor Z0.1 N 510 (iz r) (if gi m 536 wi ≤ X then gi m 536 wi else X) wy (mvD m wi o 0)).bind fun u1 => F_X10_goes_246 Z0.1 N 510 (iz r) (iz wi) (iz o) X Y x7 u1 else F_X10_goes_246 Z0.1 N 510 (iz r) (iz wi) (iz o) X Y x7 (mvD m wi o 1) := by
  have ii : ib (iz (wi : Int)) 12 := iz_ib (by omega)
  have tt : (iz (wi : Int)).toNatClampNeg = wi := tnn _ _ rfl (by omega)
  have b15 : iz (o : Int) + (15 : Int32) = iz ((o + 15 : Nat) : Int) := iz_add o 15
  have b16 : iz (o : Int) + (16 : Int32) = iz ((o + 16 : Nat) : Int) := iz_add o 16
  have j15 := ibr (o + 15) (by omega)
  have j16 := ibr (o + 16) (by omega)
  have t15 : (iz ((o + 15 : Nat) : Int)).toNatClampNeg = o + 15 := tnn _ _ rfl (by omega)
  have t16 : (iz ((o + 16 : Nat) : Int)).toNatClampNeg = o + 16 := tnn _ _ rfl (by omega)
  have e15 : gi (si m 535 wi 1) 531 (o + 15) = gi m 531 (o + 15) := by rw [gi_si_if, if_neg (by omega)]
  have e16 : gi (si (si m 535 wi 1) 531 (o + 15) (gi m 531 (o + 15) + 1)) 531 (o + 16) = gi m 531 (o + 16) := by rw [gi_si_if, if_neg (by omega), gi_si_if, if_neg (by omega)]
  have ea : gi (si (si m 535 wi 1) 531 (o + 15) (gi m 531 (o + 15) + 1)) 534 wi = iz am := by rw [gi_si_if, if_neg (by omega), gi_si_if, if_neg (by omega)]; exact ha
  have h201 : ∀ s : Int32, F_X10_goes_201 Z0.1 N 510 (iz r) (iz wi) (iz o) wy X Y x7 531 (iz ((o + 16 : Nat) : Int)) (gi m 531 (o + 16)) s (si (si m 535 wi 1) 531 (o + 15) (gi m 531 (o + 15) + 1)) = if x7 = 0 then F_X10_goes_246 Z0.1 N 510 (iz r) (iz wi) (iz o) X Y x7 (mvD m wi o s) else if am = 0 then (F_X10_passDoor Z0.1 N 510 (iz r) (if gi m 536 wi ≤ X then gi m 536 wi else X) wy (mvD m wi o s)).bind fun u1 => F_X10_goes_246 Z0.1 N 510 (iz r) (iz wi) (iz o) X Y x7 u1 else F_X10_goes_246 Z0.1 N 510 (iz r) (iz wi) (iz o) X Y x7 (mvD m wi o s) := fun s => by
    have ea2 : gi (mvD m wi o s) 534 wi = iz am := by
      unfold mvD
      rw [gi_si_if, if_neg (by omega)]; exact ea
    have e36 : gi (mvD m wi o s) 536 wi = gi m 536 wi := by
      unfold mvD
      rw [gi_si_if, if_neg (by omega), gi_si_if, if_neg (by omega), gi_si_if, if_neg (by omega)]
    rw [F_X10_goes_201_s, if_pos j16, bd_eq, t16]
    show (if x7 = 0 then F_X10_goes_246 Z0.1 N 510 (iz r) (iz wi) (iz o) X Y x7 (mvD m wi o s) else if ib (iz (wi : Int)) 12 then (if gi (mvD m wi o s) (gr Z0.1 510 43) (iz (wi : Int)).toNatClampNeg = 0 then if ib (iz (wi : Int)) 12 then (if gi (mvD m wi o s) (gr Z0.1 510 48) (iz (wi : Int)).toNatClampNeg ≤ X then if ib (iz (wi : Int)) 12 then F_X10_goes_241 Z0.1 N (F_X10_goes_246 Z0.1 N) 510 (iz r) (iz wi) (iz o) wy X Y x7 510 (iz r) (gi (mvD m wi o s) (gr Z0.1 510 48) (iz (wi : Int)).toNatClampNeg) (mvD m wi o s) else none else F_X10_goes_241 Z0.1 N (F_X10_goes_246 Z0.1 N) 510 (iz r) (iz wi) (iz o) wy X Y x7 510 (iz r) X (mvD m wi o s)) else none else F_X10_goes_246 Z0.1 N 510 (iz r) (iz wi) (iz o) X Y x7 (mvD m wi o s)) else none) = _
    rw [if_pos ii, if_pos ii, if_pos ii, r_510_43, r_510_48, tt, ea2, e36, F_X10_goes_241_s, F_X10_goes_241_s]
    by_cases q7 : x7 = 0
    · rw [if_pos q7, if_pos q7]
    · rw [if_neg q7, if_neg q7]
      by_cases q0 : am = 0
      · rw [if_pos (show iz (am : Int) = 0 from by rw [q0]; rfl), if_pos q0]
        by_cases q : gi m 536 wi ≤ X
        · rw [if_pos q, if_pos q]
        · rw [if_neg q, if_neg q]
      · rw [if_neg (show ¬ iz (am : Int) = 0 from iz_nei (b := 0) (by omega)), if_neg q0]
  rw [F_X10_goes_157_s, if_pos ii, bd_eq, b15, if_pos j15, if_pos j15, bd_eq, b16, if_pos j16, if_pos ii, r_510_39, r_510_43, r_510_44, tt, t15, t16, e15, ea, e16, h201, h201]
  by_cases q0 : am = 0
  · rw [if_pos (show iz (am : Int) = 0 from by rw [q0]; rfl)]
    by_cases q7 : x7 = 0
    · rw [if_pos q7, if_pos q7, if_pos q0]
    · rw [if_neg q7, if_neg q7, if_pos q0, if_pos q0]
  · rw [if_neg (show ¬ iz (am : Int) = 0 from iz_nei (b := 0) (by omega))]
    by_cases q7 : x7 = 0
    · rw [if_pos q7, if_pos q7, if_neg q0]
    · rw [if_neg q7, if_neg q7, if_neg q0, if_neg q0]
