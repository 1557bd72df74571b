/-! a tenth, all the aims -/
def frCA (w : Nat) (c c' : DY) : Prop := (∀ x k : Nat, ¬ (x = w ∧ (k = 3 ∨ k = 4 ∨ k = 8)) → x ≠ w + 8 → x ≠ w + 10 → gi c' x k = gi c x k) ∧ ∀ x k : Nat, gl c' x k = gl c x k
def frMA (r : Nat) (m m' : DY) : Prop := (∀ x k : Nat, ¬ (x = 510 ∧ (k = 42 ∨ k = 47)) → (x < 532 ∨ 537 < x) → ¬ (x = 531 ∧ (k = 720 * r + 4 ∨ k = 720 * r + 5)) → gi m' x k = gi m x k) ∧ ∀ x k : Nat, gl m' x k = gl m x k
/-- the aims of the walkers below k -/
def AIMS (c m : DY) (g w : Nat) (ι : Nat → Nat) (k : Nat) : Prop := ∀ o : Nat, o < k → aimR (gi c (w + 8) o) (gi m 534 (ι o)) (gi c (g + 8) o) ∧ (gi c (w + 1) o = -1 → gi c (w + 8) o = 5)
/-- where the reference's walkers below k stand now -/
def NOWS (m : DY) (r k : Nat) : Prop := ∀ o : Nat, o < k → gi m 535 o = 0 ∧ gi m 536 o = gi m 531 (720 * r + 16 + 20 * o) ∧ gi m 537 o = gi m 531 (720 * r + 16 + 20 * o + 4)
theorem m_s23 (N k r M mi : Nat) (m m' : DY) (am : Int32) (x2 : Int32) (r14 : r < 14) (hM : M ≤ 12) (hmi : mi < M) (ha : F_X10_aimBy Z0.1 N 510 (iz r) (iz mi) m = some (am, m')) : F_X10_step_23 Z0.1 N (k + 1) 510 (iz r) x2 (iz M) (iz mi) m = F_X10_step_23 Z0.1 N k 510 (iz r) x2 (iz M) (iz ((mi + 1 : Nat) : Int)) (si (si (si (si m' 534 mi am) 535 mi 0) 536 mi (gi m' 531 (720 * r + 16 + 20 * mi))) 537 mi (gi m' 531 (720 * r + 16 + 20 * mi + 4))) := by
  have ii : ib (iz (mi : Int)) 12 := iz_ib (by omega)
  have tt : (iz (mi : Int)).toNatClampNeg = mi := tnn _ _ rfl (by omega)
  have a4 : iz ((720 * r + 16 + 20 * mi : Nat) : Int) + (4 : Int32) = iz ((720 * r + 16 + 20 * mi + 4 : Nat) : Int) := iz_add _ 4
  have e1 : gi (si (si m' 534 mi am) 535 mi 0) 531 (720 * r + 16 + 20 * mi) = gi m' 531 (720 * r + 16 + 20 * mi) := by
    rw [gi_si_if, if_neg (by omega), gi_si_if, if_neg (by omega)]
  have e2 : gi (si (si (si m' 534 mi am) 535 mi 0) 536 mi (gi m' 531 (720 * r + 16 + 20 * mi))) 531 (720 * r + 16 + 20 * mi + 4) = gi m' 531 (720 * r + 16 + 20 * mi + 4) := by
    rw [gi_si_if, if_neg (by omega), gi_si_if, if_neg (by omega), gi_si_if, if_neg (by omega)]
  rw [F_X10_step_23_s, if_neg (show ¬ iz (M : Int) ≤ iz (mi : Int) from iz_nle (by omega)), show iz (mi : Int) + (1 : Int32) = iz ((mi + 1 : Nat) : Int) from iz_add mi 1]
  refine bnd ha ?_
  rw [if_pos ii, bd_eq, if_pos ii, bd_eq, r_510_43, r_510_44, tt]
  refine bnd (m_at _ _ r mi _) ?_
  show (if ib (iz ((720 * r + 16 + 20 * mi : Nat) : Int)) 10080 then _ else _) = _
  rw [if_pos (ibr _ (by omega)), if_pos ii, bd_eq, r_510_39, r_510_48, tnn _ (720 * r + 16 + 20 * mi) rfl (by omega)]
  show (F_X10_at Z0.1 N (iz r) (iz mi) (si (si (si m' 534 mi am) 535 mi 0) 536 mi (gi (si (si m' 534 mi am) 535 mi 0) 531 (720 * r + 16 + 20 * mi)))).bind _ = _
  rw [e1]
  refine bnd (m_at _ _ r mi _) ?_
  show (if ib (iz ((720 * r + 16 + 20 * mi : Nat) : Int) + (4 : Int32)) 10080 then _ else _) = _
  rw [a4, if_pos (ibr _ (by omega)), if_pos ii, bd_eq, r_510_49, tnn _ (720 * r + 16 + 20 * mi + 4) rfl (by omega)]
  show F_X10_step_23 Z0.1 N k 510 (iz r) x2 (iz M) (iz ((mi + 1 : Nat) : Int)) (si (si (si (si m' 534 mi am) 535 mi 0) 536 mi (gi m' 531 (720 * r + 16 + 20 * mi))) 537 mi (gi (si (si (si m' 534 mi am) 535 mi 0) 536 mi (gi m' 531 (720 * r + 16 + 20 * mi))) 531 (720 * r + 16 + 20 * mi + 4))) = _
  rw [e2]
theorem NOWS_st {m m' : DY} {r mi : Nat} {am : Int32} (h : NOWS m r mi) (hf : ∀ x k : Nat, (x = 531 ∧ (720 * r + 16 ≤ k)) ∨ x = 535 ∨ x = 536 ∨ x = 537 → gi m' x k = gi m x k) : NOWS (si (si (si (si m' 534 mi am) 535 mi 0) 536 mi (gi m' 531 (720 * r + 16 + 20 * mi))) 537 mi (gi m' 531 (720 * r + 16 + 20 * mi + 4))) r (mi + 1) := by
  intro o ho
  have t531 : ∀ k : Nat, gi (si (si (si (si m' 534 mi am) 535 mi 0) 536 mi (gi m' 531 (720 * r + 16 + 20 * mi))) 537 mi (gi m' 531 (720 * r + 16 + 20 * mi + 4))) 531 k = gi m' 531 k := fun k => by
    rw [gi_si_if, if_neg (by omega), gi_si_if, if_neg (by omega), gi_si_if, if_neg (by omega), gi_si_if, if_neg (by omega)]
  rw [t531, t531]
  by_cases q : o = mi
  · rw [q]
    refine ⟨?_, ?_, ?_⟩
    · rw [gi_si_if, if_neg (by omega), gi_si_if, if_neg (by omega), gi_si_if, if_pos ⟨rfl, rfl⟩]
    · rw [gi_si_if, if_neg (by omega), gi_si_if, if_pos ⟨rfl, rfl⟩]
    · rw [gi_si_if, if_pos ⟨rfl, rfl⟩]
  · obtain ⟨h1, h2, h3⟩ := h o (by omega)
    refine ⟨?_, ?_, ?_⟩
    · rw [gi_si_if, if_neg (by omega), gi_si_if, if_neg (by omega), gi_si_if, if_neg (by omega), gi_si_if, if_neg (by omega), hf _ _ (by omega)]; exact h1
    · rw [gi_si_if, if_neg (by omega), gi_si_if, if_neg (by omega), gi_si_if, if_neg (by omega), gi_si_if, if_neg (by omega), hf _ _ (by omega), hf _ _ (by omega)]; exact h2
    · rw [gi_si_if, if_neg (by omega), gi_si_if, if_neg (by omega), gi_si_if, if_neg (by omega), gi_si_if, if_neg (by omega), hf _ _ (by omega), hf _ _ (by omega)]; exact h3
theorem aims_all (N r g l w : Nat) (ι : Nat → Nat) (L W n M : Nat) (x2 : Int32) (hN : 40 ≤ N) (hG : CVg g l w) (r14 : r < 14) (n12 : n ≤ 12) (M12 : M ≤ 12) (hι : ∀ i : Nat, i < n → ι i < M) (hmono : ∀ i j : Nat, i < j → j < n → ι i < ι j) : ∀ (q mi ci kC kM : Nat) (c m : DY), mi + q = M → q < kM → n - ci < kC → ci ≤ n → (∀ o : Nat, o < ci → ι o < mi) → (∀ o : Nat, ci ≤ o → o < n → mi ≤ ι o) → RRx (mixD c m) g l w r ι L W n M → gi m 510 45 = 0 → AIMS c m g w ι ci → NOWS m r mi → ∃ cA mA : DY, F_X8_pass_2 Z0.1 N kC w (iz ci) c = (F_X8_move Z0.1 N w cA).bind (fun u2 => some (u2.1, u2.2)) ∧ F_X10_step_23 Z0.1 N kM 510 (iz r) x2 (iz M) (iz mi) m = F_X10_step_99 Z0.1 N N 510 (iz r) x2 (iz M) 9 mA ∧ RRx (mixD cA mA) g l w r ι L W n M ∧ AIMS cA mA g w ι n ∧ NOWS mA r M ∧ frCA w c cA ∧ frMA r m mA := by
  obtain ⟨dj, dj2⟩ := cv_dj hG
  intro q
  induction q with
  | zero =>
    intro mi ci kC kM c m hq hkM hkC hci h1 h2 hR h45 hA hNo
    obtain ⟨kM, rfl⟩ : ∃ j, kM = j + 1 := ⟨kM - 1, by omega⟩
    obtain ⟨kC, rfl⟩ : ∃ j, kC = j + 1 := ⟨kC - 1, by omega⟩
    have cn : ci = n := by
      rcases Nat.lt_or_ge ci n with z | z
      · have y1 := h2 ci (Nat.le_refl ci) z
        have y2 := hι ci z
        omega
      · omega
    subst cn
    have e3 := (RRx_CV hG hR).2.2.1.2.2
    have g3 : gi c g 3 = iz ci := by rw [← mix_c c m g 3 (by omega)]; exact e3
    refine ⟨c, m, ?_, ?_, hR, hA, by rw [show M = mi by omega]; exact hNo, ⟨fun _ _ _ _ _ => rfl, fun _ _ => rfl⟩, ⟨fun _ _ _ _ _ => rfl, fun _ _ => rfl⟩⟩
    · rw [F_X8_pass_2_s, cv_r0 hG, g3, if_pos (Int32.le_refl _)]
    · rw [F_X10_step_23_s, if_pos (show iz (M : Int) ≤ iz (mi : Int) from iz_lei (by omega))]
  | succ q ih =>
    intro mi ci kC kM c m hq hkM hkC hci h1 h2 hR h45 hA hNo
    obtain ⟨kM, rfl⟩ : ∃ j, kM = j + 1 := ⟨kM - 1, by omega⟩
    by_cases img : ci < n ∧ ι ci = mi
    · obtain ⟨hcn, hcm⟩ := img
      obtain ⟨kC, rfl⟩ : ∃ j, kC = j + 1 := ⟨kC - 1, by omega⟩
      obtain ⟨c', m', am, p1, p2, p3, p4, p5, p6, p7⟩ := aim_one N kC r g l w ι L W n M ci c m hN hG r14 hR hcn h45
      rw [hcm] at p2
      have st := m_s23 N kM r M mi m m' am x2 r14 M12 (by omega) p2
      have hR2 : RRx (mixD c' (si (si (si (si m' 534 mi am) 535 mi 0) 536 mi (gi m' 531 (720 * r + 16 + 20 * mi))) 537 mi (gi m' 531 (720 * r + 16 + 20 * mi + 4)))) g l w r ι L W n M := by
        have t531 : ∀ k : Nat, gi (si (si (si (si m' 534 mi am) 535 mi 0) 536 mi (gi m' 531 (720 * r + 16 + 20 * mi))) 537 mi (gi m' 531 (720 * r + 16 + 20 * mi + 4))) 531 k = gi m' 531 k := fun k => by
          rw [gi_si_if, if_neg (by omega), gi_si_if, if_neg (by omega), gi_si_if, if_neg (by omega), gi_si_if, if_neg (by omega)]
        have k7 := p5.2.2.2.2.2.2.1
        refine RRx_seed hG p5 (fun x k x1 _ _ _ => by rw [mix_c _ _ _ _ x1, mix_c _ _ _ _ x1]) (fun i _ _ _ => by rw [mix_m _ _ _ _ (by omega), mix_m _ _ _ _ (by omega), t531]) ?_ ?_
        · have := k7.2.1
          rw [mix_c _ _ _ _ (by omega), mix_m _ _ _ _ (by omega)] at this
          rw [mix_c _ _ _ _ (by omega), mix_m _ _ _ _ (by omega), t531]
          exact this
        · have := k7.2.2.1
          rw [mix_c _ _ _ _ (by omega), mix_m _ _ _ _ (by omega)] at this
          rw [mix_c _ _ _ _ (by omega), mix_m _ _ _ _ (by omega), t531]
          exact this
      have A2 : AIMS c' (si (si (si (si m' 534 mi am) 535 mi 0) 536 mi (gi m' 531 (720 * r + 16 + 20 * mi))) 537 mi (gi m' 531 (720 * r + 16 + 20 * mi + 4))) g w ι (ci + 1) := fun o ho => by
        have t534 : ∀ k : Nat, gi (si (si (si (si m' 534 mi am) 535 mi 0) 536 mi (gi m' 531 (720 * r + 16 + 20 * mi))) 537 mi (gi m' 531 (720 * r + 16 + 20 * mi + 4))) 534 k = if k = mi then am else gi m' 534 k := fun k => by
          rw [gi_si_if, if_neg (by omega), gi_si_if, if_neg (by omega), gi_si_if, if_neg (by omega), gi_si_if]
          by_cases z : k = mi
          · rw [if_pos ⟨rfl, z⟩, if_pos z]
          · rw [if_neg (fun y => z y.2), if_neg z]
        rw [t534, p6.1 (g + 8) o (by omega) (by omega) (by omega), p6.1 (w + 1) o (by omega) (by omega) (by omega)]
        by_cases z : o = ci
        · rw [z, if_pos hcm]
          refine ⟨p3, fun y => p4 ?_⟩
          unfold cx
          rw [Nat.mul_zero, Nat.zero_add, mix_c _ _ _ _ (by omega), y]
          rfl
        · have : ι o ≠ mi := by
            have := hmono o ci (by omega) hcn
            omega
          rw [if_neg this, p7.1 534 _ (by omega) (by omega) (by omega) (by omega), p6.1 (w + 8) o (by omega) (by omega) (by omega)]
          exact hA o (by omega)
      obtain ⟨cA, mA, u1, u2, u3, u4, u5, u6, u7⟩ := ih (mi + 1) (ci + 1) kC kM c' _ (by omega) (by omega) (by omega) (by omega) (fun o ho => by
        rcases Nat.lt_or_ge o ci with z | z
        · have := h1 o z; omega
        · rw [show o = ci by omega]; omega) (fun o ho hon => by
        have := hmono ci o (by omega) hon
        omega) hR2 (by
        rw [gi_si_if, if_neg (by omega), gi_si_if, if_neg (by omega), gi_si_if, if_neg (by omega), gi_si_if, if_neg (by omega), p7.1 510 45 (by omega) (by omega) (by omega) (by omega)]; exact h45) A2 (NOWS_st hNo (fun x k hx => p7.1 x k (by omega) (by omega) (by omega) (by omega)))
      refine ⟨cA, mA, p1.trans u1, st.trans u2, u3, u4, u5, ⟨fun x k y1 y2 y3 => ?_, fun x k => (u6.2 x k).trans (p6.2 x k)⟩, ⟨fun x k y1 y2 y3 => ?_, fun x k => (u7.2 x k).trans (p7.2 x k)⟩⟩
      · rw [u6.1 x k y1 y2 y3]
        exact p6.1 x k y1 (fun z => y2 z.1) y3
      · rw [u7.1 x k y1 y2 y3, gi_si_if, if_neg (by omega), gi_si_if, if_neg (by omega), gi_si_if, if_neg (by omega), gi_si_if, if_neg (by omega)]
        exact p7.1 x k y1 (by omega) (by omega) y3
    · have nim : ∀ j : Nat, j < n → ι j ≠ mi := fun j hj z => by
        rcases Nat.lt_trichotomy j ci with y | y | y
        · have := h1 j y; omega
        · exact img ⟨by omega, by rw [← y]; exact z⟩
        · have y1 := hmono ci j y hj
          have y2 := h2 ci (Nat.le_refl ci) (by omega)
          omega
      have hMV := RRx_MV hG r14 hR
      have aw := (hMV.2.2.2.2.1 mi (by omega) nim 0 (by omega)).1
      rw [Nat.add_zero, mix_m _ _ _ _ (by omega)] at aw
      have th : F_X10_isThere Z0.1 N 510 (iz r) (iz mi) m = some (0, m) := by
        rw [F_X10_isThere_s]
        refine bnd (m_at _ _ r mi m) ?_
        show (if ib (iz ((720 * r + 16 + 20 * mi : Nat) : Int)) 10080 then _ else _) = _
        rw [if_pos (ibr _ (by omega)), r_510_39, tnn _ (720 * r + 16 + 20 * mi) rfl (by omega)]
        show (if gi m 531 (720 * r + 16 + 20 * mi) = -1 then _ else _) = _
        rw [aw, if_pos rfl]
      have am5 : F_X10_aimBy Z0.1 N 510 (iz r) (iz mi) m = some (5, m) := by
        rw [F_X10_aimBy_s]
        exact bnd th rfl
      have st := m_s23 N kM r M mi m m 5 x2 r14 M12 (by omega) am5
      have t531 : ∀ k : Nat, gi (si (si (si (si m 534 mi 5) 535 mi 0) 536 mi (gi m 531 (720 * r + 16 + 20 * mi))) 537 mi (gi m 531 (720 * r + 16 + 20 * mi + 4))) 531 k = gi m 531 k := fun k => by
        rw [gi_si_if, if_neg (by omega), gi_si_if, if_neg (by omega), gi_si_if, if_neg (by omega), gi_si_if, if_neg (by omega)]
      have hR2 : RRx (mixD c (si (si (si (si m 534 mi 5) 535 mi 0) 536 mi (gi m 531 (720 * r + 16 + 20 * mi))) 537 mi (gi m 531 (720 * r + 16 + 20 * mi + 4)))) g l w r ι L W n M := by
        have k7 := hR.2.2.2.2.2.2.1
        refine RRx_seed hG hR (fun x k x1 _ _ _ => by rw [mix_c _ _ _ _ x1, mix_c _ _ _ _ x1]) (fun i _ _ _ => by rw [mix_m _ _ _ _ (by omega), mix_m _ _ _ _ (by omega), t531]) ?_ ?_
        · have := k7.2.1
          rw [mix_c _ _ _ _ (by omega), mix_m _ _ _ _ (by omega)] at this
          rw [mix_c _ _ _ _ (by omega), mix_m _ _ _ _ (by omega), t531]
          exact this
        · have := k7.2.2.1
          rw [mix_c _ _ _ _ (by omega), mix_m _ _ _ _ (by omega)] at this
          rw [mix_c _ _ _ _ (by omega), mix_m _ _ _ _ (by omega), t531]
          exact this
      have A2 : AIMS c (si (si (si (si m 534 mi 5) 535 mi 0) 536 mi (gi m 531 (720 * r + 16 + 20 * mi))) 537 mi (gi m 531 (720 * r + 16 + 20 * mi + 4))) g w ι ci := fun o ho => by
        have : ι o ≠ mi := nim o (by omega)
        rw [gi_si_if, if_neg (by omega), gi_si_if, if_neg (by omega), gi_si_if, if_neg (by omega), gi_si_if, if_neg (by omega)]
        exact hA o ho
      obtain ⟨cA, mA, u1, u2, u3, u4, u5, u6, u7⟩ := ih (mi + 1) ci kC kM c _ (by omega) (by omega) (by omega) hci (fun o ho => by have := h1 o ho; omega) (fun o ho hon => by
        have y1 := h2 o ho hon
        have y2 := nim o hon
        omega) hR2 (by
        rw [gi_si_if, if_neg (by omega), gi_si_if, if_neg (by omega), gi_si_if, if_neg (by omega), gi_si_if, if_neg (by omega)]; exact h45) A2 (NOWS_st hNo (fun x k hx => rfl))
      refine ⟨cA, mA, u1, st.trans u2, u3, u4, u5, u6, ⟨fun x k y1 y2 y3 => ?_, fun x k => (u7.2 x k).trans rfl⟩⟩
      rw [u7.1 x k y1 y2 y3, gi_si_if, if_neg (by omega), gi_si_if, if_neg (by omega), gi_si_if, if_neg (by omega), gi_si_if, if_neg (by omega)]
