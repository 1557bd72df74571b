/-! two: the reference goes through all lots -/
theorem SR_dance {c m : DY} {w r L W : Nat} (h : SR c m w r L W) : gi m 531 (720 * r + 8) = gi c w 6 := by
  obtain ⟨hG, hw, r14, hR, _, hA⟩ := h
  obtain ⟨_, _, _, _, d5⟩ := cv_dj hG
  have := hR.2.2.2.2.2.2.1.2.2.2.2.1
  rw [mix_c _ _ _ _ (by omega), mix_m _ _ _ _ (by omega), gi_si_if, if_neg (by omega)] at this
  exact this.symm
def CK : Nat → Nat
  | 0 => 1
  | k + 1 => 4 * (1 + CK k) + 1
theorem CK_s (k : Nat) : CK (k + 1) = 4 * (1 + CK k) + 1 := rfl
def FRD (d : Nat) (m m' : DY) : Prop := ∀ x k : Nat, (x < 510 ∨ (x = 510 ∧ k ≠ 42 ∧ k ≠ 46 ∧ k ≠ 47 ∧ k ≠ 53) ∨ (510 < x ∧ x < 531) ∨ (x = 531 ∧ ¬ (720 * (5 + d + 1) ≤ k ∧ k < 10080)) ∨ ((x = 538 ∨ x = 539) ∧ k < d) ∨ (x = 540 ∧ k ≤ d) ∨ 542 ≤ x) → gi m' x k = gi m x k
theorem FRD_tr {d : Nat} {a b c : DY} (h : FRD d a b) (k : FRD d b c) : FRD d a c := fun x y q => (k x y q).trans (h x y q)
theorem ez1 (d : Nat) : iz (d : Int) + (-1 : Int32) = iz ((d : Int) - 1) := by
  rw [show (-1 : Int32) = iz (-1) from rfl, iz_add]
  exact congrArg iz (by omega)
theorem sh_us : ∀ a b : Nat, a ≤ 1 → b ≤ 1 → (1 : Int32) <<< (iz ((a + b : Nat) : Int) &&& 31) = iz ((2 ^ (a + b) : Nat) : Int) := by
  have B : ∀ u v : Fin 2, (1 : Int32) <<< (iz ((u.1 + v.1 : Nat) : Int) &&& 31) = iz ((2 ^ (u.1 + v.1) : Nat) : Int) := by decide +kernel
  exact fun a b ha hb => B ⟨a, by omega⟩ ⟨b, by omega⟩
theorem dfs_leaf {N n L W : Nat} (hN : 900 ≤ N) (hn : n ≤ 8) (m c : DY) (w p b0 e F : Nat) (D : Nat → Nat) (hS : SR c m w (5 + n) L W) (h40 : gi m 540 n = iz p) (h53 : gi m 510 53 = iz b0) (h41 : ∀ q : Nat, q < 9 → gi m 541 q = iz (D q : Nat)) (he : gi m 531 (720 * (5 + n) + 8) = iz e) (hen : e ≤ n) : ∃ m' : DY, F_X10_findTwo_54 Z0.1 N (F + 1) 510 (iz n) (iz n) m = F_X10_findTwo_54 Z0.1 N F 510 (iz n) (iz ((n : Int) - 1)) m' ∧ gi m' 510 53 = iz ((b0 + p * TT N (5 + n) 0 m 0 : Nat) : Int) ∧ (∀ q : Nat, q < 9 → gi m' 541 q = iz ((D q + p * (if e ≤ q then TT N (5 + n) 0 m (1 + q - e) else 0) : Nat) : Int)) ∧ FRD n m m' := by
  have a5 : (5 : Int32) + iz (n : Int) = iz ((5 + n : Nat) : Int) := iz_add 5 n
  have m6 : (720 : Int32) * iz ((5 + n : Nat) : Int) + (6 : Int32) = iz ((720 * (5 + n) + 6 : Nat) : Int) := m_row (5 + n) 6
  have m0 : (720 : Int32) * iz ((5 + n : Nat) : Int) + (8 : Int32) = iz ((720 * (5 + n) + 8 : Nat) : Int) := m_row (5 + n) 8
  have aw := AWn_le c w 2
  obtain ⟨v, hv, hv2⟩ : ∃ v : Nat, v = p * TT N (5 + n) 0 m 0 ∧ (AWn c w 2 = 2 ∧ v = p ∨ AWn c w 2 ≠ 2 ∧ v = 0) := by
    refine ⟨_, rfl, ?_⟩
    rw [TT_0, if_pos rfl, SR_arr hS]
    by_cases z : AWn c w 2 = 2
    · rw [z, if_pos (show iz ((2 : Nat) : Int) = 2 from rfl)]
      exact Or.inl ⟨rfl, Nat.mul_one p⟩
    · rw [if_neg (show ¬ iz (AWn c w 2 : Nat) = 2 from iz_nei (b := 2) (by omega))]
      exact Or.inr ⟨z, Nat.mul_zero p⟩
  have F99 : ∀ y : Int32, y = iz (v : Nat) → F_X10_findTwo_99 Z0.1 N (F_X10_findTwo_54 Z0.1 N F) 510 (iz n) (iz n) ((720 : Int32) * iz ((5 + n : Nat) : Int)) 510 (iz b0) y m = F_X10_findTwo_54 Z0.1 N F 510 (iz n) (iz ((n : Int) - 1)) (si (si m 510 53 (iz ((b0 + v : Nat) : Int))) 541 e (iz ((D e + p : Nat) : Int))) := fun y hy => by
    rw [F_X10_findTwo_99_s, bd_eq, hy, show iz (b0 : Int) + iz (v : Int) = iz ((b0 + v : Nat) : Int) from iz_add _ _, m0, if_pos (ibr (720 * (5 + n) + 8) (by omega)), r_510_39, tnn _ (720 * (5 + n) + 8) rfl (by omega), show gi (si m 510 53 (iz ((b0 + v : Nat) : Int))) 531 (720 * (5 + n) + 8) = iz e from by rw [gi_si_if, if_neg (by omega)]; exact he, if_pos (show ib (iz (e : Int)) 9 from iz_ib (by omega)), if_pos (show ib (iz (n : Int)) 9 from iz_ib (by omega)), if_pos (show ib (iz (e : Int)) 9 from iz_ib (by omega)), bd_eq, r_510_54, r_510_52, tnn _ e rfl (by omega), tnn _ n rfl (by omega), show gi (si m 510 53 (iz ((b0 + v : Nat) : Int))) 541 e = iz (D e : Nat) from by rw [gi_si_if, if_neg (by omega)]; exact h41 e (by omega), show gi (si m 510 53 (iz ((b0 + v : Nat) : Int))) 540 n = iz p from by rw [gi_si_if, if_neg (by omega)]; exact h40, show iz (D e : Nat) + iz (p : Int) = iz ((D e + p : Nat) : Int) from iz_add _ _, ez1]
  refine ⟨si (si m 510 53 (iz ((b0 + v : Nat) : Int))) 541 e (iz ((D e + p : Nat) : Int)), ?_, ?_, fun q hq => ?_, fun x y q => ?_⟩
  · rw [F_X10_findTwo_54_s, if_neg (show ¬ iz (n : Int) < 0 from iz_nlt (b := 0) (by omega)), if_pos rfl, a5, m6, if_pos (ibr (720 * (5 + n) + 6) (by omega)), r_510_39, tnn _ (720 * (5 + n) + 6) rfl (by omega), SR_arr hS, h53, if_pos (show ib (iz (n : Int)) 9 from iz_ib (by omega)), r_510_52, tnn _ n rfl (by omega), h40]
    rcases hv2 with ⟨z, hvp⟩ | ⟨z, hvp⟩
    · rw [z, if_pos (show iz ((2 : Nat) : Int) = 2 from rfl)]
      exact F99 _ (by rw [hvp])
    · rw [if_neg (show ¬ iz (AWn c w 2 : Nat) = 2 from iz_nei (b := 2) (by omega))]
      exact F99 _ (by rw [hvp]; rfl)
  · rw [gi_si_if, if_neg (by omega), gi_si_if, if_pos ⟨rfl, rfl⟩, hv]
  · rw [gi_si_if]
    by_cases z : q = e
    · rw [if_pos ⟨rfl, z⟩, z, if_pos (Nat.le_refl e), TT_0, if_neg (by omega), if_pos (by omega), Nat.mul_one]
    · rw [if_neg (fun y => z y.2), gi_si_if, if_neg (by omega), h41 q hq]
      by_cases y : e ≤ q
      · rw [if_pos y, TT_0, if_neg (by omega), if_neg (by omega), Nat.mul_zero, Nat.add_zero]
      · rw [if_neg y, Nat.mul_zero, Nat.add_zero]
  · rw [gi_si_if, if_neg (by omega), gi_si_if, if_neg (by omega)]
theorem dfs_ok {N n L W : Nat} (hN : 900 ≤ N) (hn : n ≤ 8) : ∀ (k d : Nat) (m c : DY) (w p b0 e F : Nat) (D : Nat → Nat), d + k = n → SR c m w (5 + d) L W → p ≤ 4 ^ d → (d < n → gi m 538 d = 0 ∧ gi m 539 d = 1) → gi m 540 d = iz p → gi m 510 53 = iz b0 → (∀ q : Nat, q < 9 → gi m 541 q = iz (D q : Nat)) → gi m 531 (720 * (5 + d) + 8) = iz e → e ≤ d → CK k ≤ F → ∃ (m' : DY) (F' : Nat), F ≤ F' + CK k ∧ F_X10_findTwo_54 Z0.1 N F 510 (iz n) (iz d) m = F_X10_findTwo_54 Z0.1 N F' 510 (iz n) (iz ((d : Int) - 1)) m' ∧ gi m' 510 53 = iz ((b0 + p * TT N (5 + d) k m 0 : Nat) : Int) ∧ (∀ q : Nat, q < 9 → gi m' 541 q = iz ((D q + p * (if e ≤ q then TT N (5 + d) k m (1 + q - e) else 0) : Nat) : Int)) ∧ FRD d m m' := by
  intro k
  induction k with
  | zero =>
    intro d m c w p b0 e F D hd hS hp h3 h40 h53 h41 he hed hF
    obtain rfl : d = n := by omega
    obtain ⟨F, rfl⟩ : ∃ i, F = i + 1 := ⟨F - 1, by have : CK 0 = 1 := rfl; omega⟩
    obtain ⟨m', q1, q2, q3, q4⟩ := dfs_leaf hN hn m c w p b0 e F D hS h40 h53 h41 he hed
    exact ⟨m', F, by have : CK 0 = 1 := rfl; omega, q1, q2, q3, q4⟩
  | succ k ih =>
    intro d m0 c w p b0 e F D hd hS hp h3 h40 h53 h41 he hed hF
    obtain ⟨R, p0, p1, x0, x1, o0, o1, wy, hT⟩ := SR_TLD N (by omega) hS
    obtain ⟨⟨t1, R16⟩, hWh, ⟨t2, t3, t4, t5⟩, ⟨d0, d1⟩, ⟨z0, z1, z05, z15, ez0, ez1'⟩, ⟨y1, y2, y3⟩, hw⟩ := id hT
    obtain ⟨h38, h39⟩ := h3 (by omega)
    have nn0 := ndT_1 x0 p0
    have nn1 := ndT_1 x1 p1
    have U4 := pow_le4 nn0 nn1
    have U1 : 1 ≤ 2 ^ (ndT x0 p0 + ndT x1 p1) := Nat.one_le_two_pow
    have p8 : p ≤ 65536 := Nat.le_trans hp (by
      have : 4 ^ d ≤ 4 ^ 8 := Nat.pow_le_pow_right (by omega) (by omega)
      omega)
    -- a told tenth, in any row
    have told := fun (cd : Nat) (hcd : cd < 4) (r : Nat) (m : DY) (h : SR c m w r L W) => told_of N cd (by omega) h t1 R16 hWh t2 t3 t4 t5 d0 d1 z0 z1 z05 z15 ez0 ez1' hcd (si (si c (w + 8) 0 (aimT x0 p0 (cd % 2))) (w + 8) 1 (aimT x1 p1 (cd / 2 ^ ndT x0 p0 % 2))) (fun x k _ _ h8 _ => by rw [gi_si_if, if_neg (by omega), gi_si_if, if_neg (by omega)]) (by rw [gi_si_if, if_neg (by omega), gi_si_if, if_pos ⟨rfl, rfl⟩]) (by rw [gi_si_if, if_pos ⟨rfl, rfl⟩]) o0 o1 y1 y2 y3 wy hw
    have us : usT N (5 + d) m0 = ndT x0 p0 + ndT x1 p1 := by
      obtain ⟨s, a', ma', _, _, _, _, _, _, A1, A2, A3, A4, _⟩ := told 0 (by omega) (5 + d) m0 hS
      unfold usT
      rw [A2, A4, tnn _ (ndT x0 p0 + ndT x1 p1) rfl (by omega)]
    have hTT : ∀ j : Nat, TT N (5 + d) (k + 1) m0 j = S1 (fun cd => 4 / 2 ^ (ndT x0 p0 + ndT x1 p1) * shT (TT N (5 + d) k (stT N (5 + d) m0 cd)) (dnT N (5 + d) m0 cd) j) (2 ^ (ndT x0 p0 + ndT x1 p1)) := fun j => by
      rw [TT_s, us]
      rfl
    -- the lots
    have loop : ∀ (q j : Nat) (m : DY) (F : Nat), j + q = 2 ^ (ndT x0 p0 + ndT x1 p1) → q * (1 + CK k) + 1 ≤ F → gi m 538 d = iz j → gi m 539 d = (if j = 0 then 1 else iz ((2 ^ (ndT x0 p0 + ndT x1 p1) : Nat) : Int)) → FRD d m0 m → gi m 510 53 = iz ((b0 + p * S1 (fun cd => 4 / 2 ^ (ndT x0 p0 + ndT x1 p1) * shT (TT N (5 + d) k (stT N (5 + d) m0 cd)) (dnT N (5 + d) m0 cd) 0) j : Nat) : Int) → (∀ y : Nat, y < 9 → gi m 541 y = iz ((D y + p * (if e ≤ y then S1 (fun cd => 4 / 2 ^ (ndT x0 p0 + ndT x1 p1) * shT (TT N (5 + d) k (stT N (5 + d) m0 cd)) (dnT N (5 + d) m0 cd) (1 + y - e)) j else 0) : Nat) : Int)) → ∃ (m' : DY) (F' : Nat), F ≤ F' + (q * (1 + CK k) + 1) ∧ F_X10_findTwo_54 Z0.1 N F 510 (iz n) (iz d) m = F_X10_findTwo_54 Z0.1 N F' 510 (iz n) (iz ((d : Int) - 1)) m' ∧ gi m' 510 53 = iz ((b0 + p * TT N (5 + d) (k + 1) m0 0 : Nat) : Int) ∧ (∀ y : Nat, y < 9 → gi m' 541 y = iz ((D y + p * (if e ≤ y then TT N (5 + d) (k + 1) m0 (1 + y - e) else 0) : Nat) : Int)) ∧ FRD d m0 m' := by
      have d9 : ib (iz (d : Int)) 9 := iz_ib (by omega)
      have td : (iz (d : Int)).toNatClampNeg = d := tnn _ d rfl (by omega)
      have dn' : ¬ iz (d : Int) = iz (n : Int) := iz_nei (by omega)
      intro q
      induction q with
      | zero =>
        intro j m F hj hF g38 g39 fr g53 g41
        obtain ⟨F, rfl⟩ : ∃ i, F = i + 1 := ⟨F - 1, by omega⟩
        obtain rfl : j = 2 ^ (ndT x0 p0 + ndT x1 p1) := by omega
        rw [if_neg (by omega)] at g39
        refine ⟨m, F, by omega, ?_, by rw [hTT]; exact g53, fun y hy => by rw [hTT]; exact g41 y hy, fr⟩
        rw [F_X10_findTwo_54_s, if_neg (show ¬ iz (d : Int) < 0 from iz_nlt (b := 0) (by omega)), if_neg dn', if_pos d9, if_pos d9, r_510_50, r_510_51, td, g38, g39, if_pos rfl, ez1]
      | succ q ihq =>
        intro j m F hj hF g38 g39 fr g53 g41
        have hF' : q * (1 + CK k) + (1 + CK k) + 1 ≤ F := by
          rw [Nat.succ_mul] at hF
          exact hF
        obtain ⟨F, rfl⟩ : ∃ i, F = i + 1 := ⟨F - 1, by omega⟩
        have jU : j < 2 ^ (ndT x0 p0 + ndT x1 p1) := by omega
        -- the copied row
        obtain ⟨m1, v1, v2, v3, v4⟩ := m_over N (5 + d) (by omega) 720 0 N m (by omega) (by omega)
        have g45 : gi m1 510 45 = 1 := by rw [v3 510 45 (by omega), fr 510 45 (by omega)]; exact hS.2.2.2.2.1
        have S1' : SR c m1 w (5 + d + 1) L W := SR_row hS (by omega) (fun i hi => by rw [v2 i (by omega) hi, fr 531 _ (by omega)]) g45
        obtain ⟨s, c3, m3, _, _, _, _, _, _, A1, A2, A3, A4, A5, A6, A7, A8, A9, A10, A11, A12, A13, A14, A15, A16, A17, A18⟩ := told j (by omega) (5 + d + 1) m1 S1'
        obtain ⟨s', c3', m3', _, _, _, _, _, _, B1, B2, B3, B4, B5, B6, B7, B8, B9, B10, B11, B12, B13, B14, B15, B16, _, _⟩ := told j (by omega) (5 + d) m0 hS
        have ec : c3' = c3 := (Prod.mk.inj (Option.some.inj (B1.symm.trans A1))).2
        subst ec
        have dnl := dCN_le c3' 95 w
        -- what is set
        obtain ⟨m4, hm4⟩ : ∃ m4 : DY, m4 = si m3 539 d (iz ((2 ^ (ndT x0 p0 + ndT x1 p1) : Nat) : Int)) := ⟨_, rfl⟩
        obtain ⟨m5, hm5⟩ : ∃ m5 : DY, m5 = si m4 538 d (iz ((j + 1 : Nat) : Int)) := ⟨_, rfl⟩
        obtain ⟨m6, hm6⟩ : ∃ m6 : DY, m6 = si (si (si m5 540 (d + 1) (iz ((p * (4 / 2 ^ (ndT x0 p0 + ndT x1 p1)) : Nat) : Int))) 538 (d + 1) 0) 539 (d + 1) 1 := ⟨_, rfl⟩
        have o3 : ∀ x y : Nat, ¬ (x = 510 ∧ (y = 42 ∨ y = 46 ∨ y = 47)) → (x < 531 ∨ 537 < x) → gi m3 x y = gi m x y := fun x y q1 q2 => by
          rw [A17 x y q1 (by omega) (by omega), v3 x y (by omega)]
        have o3r : ∀ y : Nat, ¬ (720 * (5 + d + 1) ≤ y ∧ y < 720 * (5 + d + 1) + 720) → gi m3 531 y = gi m 531 y := fun y q1 => by
          rw [A17 531 y (by omega) (by omega) (by omega), v3 531 y (by omega)]
        have o6 : ∀ x y : Nat, ¬ ((x = 538 ∨ x = 539) ∧ (y = d ∨ y = d + 1)) → ¬ (x = 540 ∧ y = d + 1) → gi m6 x y = gi m3 x y := fun x y q1 q2 => by
          rw [hm6, gi_si_if, if_neg (by omega), gi_si_if, if_neg (by omega), gi_si_if, if_neg (by omega), hm5, gi_si_if, if_neg (by omega), hm4, gi_si_if, if_neg (by omega)]
        have g40 : gi m 540 d = iz p := (fr 540 d (by omega)).trans h40
        have st : F_X10_findTwo_54 Z0.1 N (F + 1) 510 (iz n) (iz d) m = F_X10_findTwo_54 Z0.1 N F 510 (iz n) (iz ((d + 1 : Nat) : Int)) m6 := by
          have a5 : (5 : Int32) + iz (d : Int) = iz ((5 + d : Nat) : Int) := iz_add 5 d
          have a6 : iz ((5 + d : Nat) : Int) + (1 : Int32) = iz ((5 + d + 1 : Nat) : Int) := iz_add _ 1
          have ad : iz (d : Int) + (1 : Int32) = iz ((d + 1 : Nat) : Int) := iz_add d 1
          have d19 : ib (iz ((d + 1 : Nat) : Int)) 9 := iz_ib (by omega)
          have ne : ¬ gi m 538 d = gi m 539 d := by
            rw [g38, g39]
            by_cases z : j = 0
            · rw [if_pos z, z]; decide
            · rw [if_neg z]; exact iz_nei (by omega)
          have ov : F_X10_layOver Z0.1 N 510 (iz ((5 + d : Nat) : Int)) (iz ((5 + d + 1 : Nat) : Int)) m = some m1 := (F_X10_layOver_s Z0.1 N 510 _ _ m).trans v1
          have j38 : gi m1 538 d = iz j := (v3 538 d (by omega)).trans g38
          have e39 : gi m5 539 d = iz ((2 ^ (ndT x0 p0 + ndT x1 p1) : Nat) : Int) := by rw [hm5, gi_si_if, if_neg (by omega), hm4, gi_si_if, if_pos ⟨rfl, rfl⟩]
          have e38 : gi m4 538 d = iz j := by rw [hm4, gi_si_if, if_neg (by omega), o3 538 d (by omega) (by omega)]; exact g38
          have e40 : gi m5 540 d = iz p := by rw [hm5, gi_si_if, if_neg (by omega), hm4, gi_si_if, if_neg (by omega), o3 540 d (by omega) (by omega)]; exact g40
          rw [F_X10_findTwo_54_s, if_neg (show ¬ iz (d : Int) < 0 from iz_nlt (b := 0) (by omega)), if_neg dn', if_pos d9, if_pos d9, r_510_50, r_510_51, td, if_neg ne, a5, a6, ov, sb_eq, if_pos d9, bd_eq, j38, A18, sb_eq, if_pos d9, bd_eq, A4, sh_us _ _ nn0 nn1, ← hm4, if_pos d9, if_pos d9, bd_eq, e38, show iz (j : Int) + (1 : Int32) = iz ((j + 1 : Nat) : Int) from iz_add j 1, ← hm5, if_pos d9, if_pos d9, e39, if_neg (show ¬ iz ((2 ^ (ndT x0 p0 + ndT x1 p1) : Nat) : Int) = 0 from iz_nei (b := 0) (by omega)), ad, if_pos d19, bd_eq, r_510_52, tnn _ (d + 1) rfl (by omega), e40, p4U p _ _ p8 nn0 nn1, if_pos d19, bd_eq, if_pos d19, bd_eq, ← hm6]
        -- below
        have S6 : SR c3' m6 w (5 + (d + 1)) L W := by
          refine SR_row (r := 5 + d + 1) A3 (by omega) (fun i hi => ?_) ?_
          · rw [o6 531 _ (by omega) (by omega), show 5 + (d + 1) = 5 + d + 1 by omega]
          · rw [o6 510 45 (by omega) (by omega)]; exact A3.2.2.2.2.1
        have eD : gi m6 531 (720 * (5 + (d + 1)) + 8) = iz ((e + dCN c3' 95 w 2 : Nat) : Int) := by
          rw [SR_dance S6, A13, ← SR_dance hS, he]
          exact iz_add _ _
        have pw : p * (4 / 2 ^ (ndT x0 p0 + ndT x1 p1)) ≤ 4 ^ (d + 1) := by
          have : 4 / 2 ^ (ndT x0 p0 + ndT x1 p1) ≤ 4 := Nat.div_le_self _ _
          rw [Nat.pow_succ]
          exact Nat.mul_le_mul hp this
        have k53 : gi m6 510 53 = gi m 510 53 := by rw [o6 510 53 (by omega) (by omega), o3 510 53 (by omega) (by omega)]
        have k41 : ∀ y : Nat, gi m6 541 y = gi m 541 y := fun y => by rw [o6 541 y (by omega) (by omega), o3 541 y (by omega) (by omega)]
        obtain ⟨m7, F1, w1, w2, w3, w4, w5⟩ := ih (d + 1) m6 c3' w (p * (4 / 2 ^ (ndT x0 p0 + ndT x1 p1))) _ (e + dCN c3' 95 w 2) F _ (by omega) S6 pw (fun _ => ⟨by rw [hm6, gi_si_if, if_neg (by omega), gi_si_if, if_pos ⟨rfl, rfl⟩], by rw [hm6, gi_si_if, if_pos ⟨rfl, rfl⟩]⟩) (by rw [hm6, gi_si_if, if_neg (by omega), gi_si_if, if_neg (by omega), gi_si_if, if_pos ⟨rfl, rfl⟩]) (k53.trans g53) (fun y hy => (k41 y).trans (g41 y hy)) eD (by omega) (by omega)
        rw [show (((d + 1 : Nat) : Int) - 1) = (d : Int) by omega] at w2
        -- the same as from here
        have same : ∀ y : Nat, TT N (5 + (d + 1)) k m6 y = TT N (5 + d) k (stT N (5 + d) m0 j) y := fun y => by
          rw [B2]
          exact bisim N (by omega) 4 L W (by omega) k c3' m3' c3' m6 w (5 + d) w (5 + (d + 1)) B3 S6 ⟨by omega, fun i hi => by have := (SR_hand B3 i hi).2.2; omega⟩ (KQ_self 4 w c3') y
        have dn : dnT N (5 + d) m0 j = dCN c3' 95 w 2 := B16
        have fr7 : FRD d m0 m7 := fun x y h => by
          rw [w5 x y (by omega)]
          by_cases z : x = 531
          · rw [z, o6 531 y (by omega) (by omega), o3r y (by omega), fr 531 y (by omega)]
          · rw [o6 x y (by omega) (by omega), o3 x y (by omega) (by omega), fr x y h]
        obtain ⟨m', F', u1, u2, u3, u4, u5⟩ := ihq (j + 1) m7 F1 (by omega) (by omega) (by rw [w5 538 d (by omega), hm6, gi_si_if, if_neg (by omega), gi_si_if, if_neg (by omega), gi_si_if, if_neg (by omega), hm5, gi_si_if, if_pos ⟨rfl, rfl⟩]) (by rw [if_neg (by omega), w5 539 d (by omega), hm6, gi_si_if, if_neg (by omega), gi_si_if, if_neg (by omega), gi_si_if, if_neg (by omega), hm5, gi_si_if, if_neg (by omega), hm4, gi_si_if, if_pos ⟨rfl, rfl⟩]) fr7 (by
          rw [w3, same]
          refine congrArg (fun z : Nat => iz (z : Int)) ?_
          show b0 + p * S1 _ j + p * (4 / 2 ^ (ndT x0 p0 + ndT x1 p1)) * TT N (5 + d) k (stT N (5 + d) m0 j) 0 = b0 + p * (S1 _ j + 4 / 2 ^ (ndT x0 p0 + ndT x1 p1) * shT (TT N (5 + d) k (stT N (5 + d) m0 j)) (dnT N (5 + d) m0 j) 0)
          rw [show shT (TT N (5 + d) k (stT N (5 + d) m0 j)) (dnT N (5 + d) m0 j) 0 = TT N (5 + d) k (stT N (5 + d) m0 j) 0 from if_pos rfl, Nat.mul_add, Nat.mul_assoc, Nat.add_assoc]) (fun y hy => by
          rw [w4 y hy]
          refine congrArg (fun z : Nat => iz (z : Int)) ?_
          by_cases ey : e ≤ y
          · rw [if_pos ey, if_pos ey]
            show _ = D y + p * (S1 _ j + 4 / 2 ^ (ndT x0 p0 + ndT x1 p1) * shT (TT N (5 + d) k (stT N (5 + d) m0 j)) (dnT N (5 + d) m0 j) (1 + y - e))
            have sv : shT (TT N (5 + d) k (stT N (5 + d) m0 j)) (dnT N (5 + d) m0 j) (1 + y - e) = if e + dCN c3' 95 w 2 ≤ y then TT N (5 + (d + 1)) k m6 (1 + y - (e + dCN c3' 95 w 2)) else 0 := by
              unfold shT
              rw [if_neg (by omega), dn]
              by_cases z : e + dCN c3' 95 w 2 ≤ y
              · rw [if_pos z, if_pos (by omega), same, show 1 + y - e - dCN c3' 95 w 2 = 1 + y - (e + dCN c3' 95 w 2) by omega]
              · rw [if_neg z, if_neg (by omega)]
            rw [sv, Nat.mul_add, Nat.mul_assoc, Nat.add_assoc]
          · rw [if_neg ey, if_neg ey, if_neg (by omega), Nat.mul_zero, Nat.mul_zero, Nat.add_zero])
        refine ⟨m', F', ?_, st.trans (w2.trans u2), u3, u4, u5⟩
        rw [Nat.succ_mul]
        omega
    have ck := CK_s k
    have U4' : 2 ^ (ndT x0 p0 + ndT x1 p1) * (1 + CK k) ≤ 4 * (1 + CK k) := Nat.mul_le_mul_right _ U4
    obtain ⟨m', F', u1, u2, u3, u4, u5⟩ := loop (2 ^ (ndT x0 p0 + ndT x1 p1)) 0 m0 F (by omega) (by omega) h38 (by rw [if_pos rfl]; exact h39) (fun _ _ _ => rfl) (by
      show _ = iz ((b0 + p * 0 : Nat) : Int)
      rw [Nat.mul_zero, Nat.add_zero]
      exact h53) (fun y hy => by
      show _ = iz ((D y + p * (if e ≤ y then 0 else 0) : Nat) : Int)
      rw [show (if e ≤ y then 0 else 0) = 0 by by_cases z : e ≤ y <;> simp [z], Nat.mul_zero, Nat.add_zero]
      exact h41 y hy)
    exact ⟨m', F', by omega, u2, u3, u4, u5⟩
