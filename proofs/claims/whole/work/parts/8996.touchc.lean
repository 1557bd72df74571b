/-! touch, the loop -/
def frT1 (c c' : DY) : Prop := (∀ x k : Nat, (x < 112 ∨ 123 < x) → gi c' x k = gi c x k) ∧ ∀ x k : Nat, gl c' x k = gl c x k
def frT2 (m m' : DY) : Prop := (∀ x k : Nat, x ≠ 510 → (x < 532 ∨ 537 < x) → ¬ (x = 531 ∧ 2880 ≤ k ∧ k < 3600) → gi m' x k = gi m x k) ∧ ∀ x k : Nat, gl m' x k = gl m x k
theorem try_one (N : Nat) (L W n : Nat) (ι : Nat → Nat) (M : Nat) (c m : DY) (hN : 400 ≤ N) (hR : RRx (mixD c m) 95 105 112 4 ι L W n M) : ∃ (s : Int32) (c' m' : DY), F_X8_pass Z0.1 N 112 c = some (s, c') ∧ F_X10_tryOn Z0.1 N 510 1 m = some m' ∧ RRx (mixD c' m') 95 105 112 4 ι L W n M ∧ frT1 c c' ∧ frT2 m m' := by
  obtain ⟨s, c', m', u1, u2, u3, u4, u5⟩ := tenth_both N c (si m 510 45 0) (by omega) cvg_try (by omega) (RRx_cells cvg_try hR (fun x k hx => by
    by_cases z : x < 510
    · rw [mix_c _ _ _ _ z, mix_c _ _ _ _ z]
    · rw [mix_m _ _ _ _ (by omega), mix_m _ _ _ _ (by omega), gi_si_if, if_neg (by omega)])) (by rw [gi_si_if, if_pos ⟨rfl, rfl⟩])
  obtain ⟨N', rfl⟩ : ∃ j, N = j + 2 := ⟨N - 2, by omega⟩
  refine ⟨iz s, c', m', u1, ?_, u3, ⟨fun x k hx => u4.1 x k (by omega) (by omega), u4.2⟩, ⟨fun x k h1 h2 h3 => ?_, fun x k => u5.2 x k⟩⟩
  · rw [F_X10_tryOn_s, bd_eq, F_X10_tryOn_7_s, if_neg (by decide)]
    refine bnd u2 ?_
    show F_X10_tryOn_7 Z0.1 (N' + 2) (N' + 1) 510 1 (0 + 1) m' = _
    rw [F_X10_tryOn_7_s, if_pos (by decide)]
  · rw [u5.1 x k (by omega) h2 (by omega), gi_si_if, if_neg (by omega)]
theorem touch_loop (N n0 L W n a b : Nat) (hN : 400 ≤ N) (h2 : n0 ≤ 200) (ha : a < n) (hb : b < n) : ∀ (q t kC kM : Nat) (c m : DY), t + q = n0 → q < kC → q < kM → RRx (mixD c m) 95 105 112 4 id L W n n → ∃ (r : Int32) (c' m' : DY), F_X9_touch_66 Z0.1 N kC 1 (iz n0) (iz a) (iz b) (iz t) c = some (r, c') ∧ F_X10_touch_76 Z0.1 N kM 510 (iz n0) (iz a) (iz b) (iz t) m = some (r, m') ∧ frT1 c c' ∧ frT2 m m' := by
  have l1 : (1 : Int32) = iz 1 := rfl
  intro q
  induction q with
  | zero =>
    intro t kC kM c m hq hC hM hR
    obtain ⟨kC, rfl⟩ : ∃ j, kC = j + 1 := ⟨kC - 1, by omega⟩
    obtain ⟨kM, rfl⟩ : ∃ j, kM = j + 1 := ⟨kM - 1, by omega⟩
    obtain rfl : t = n0 := by omega
    refine ⟨-1, c, m, ?_, ?_, ⟨fun _ _ _ => rfl, fun _ _ => rfl⟩, ⟨fun _ _ _ _ _ => rfl, fun _ _ => rfl⟩⟩
    · rw [F_X9_touch_66_s, if_pos (Int32.le_refl _)]
    · rw [F_X10_touch_76_s, if_pos (Int32.le_refl _)]
  | succ q ih =>
    intro t kC kM c m hq hC hM hR
    obtain ⟨kC, rfl⟩ : ∃ j, kC = j + 1 := ⟨kC - 1, by omega⟩
    obtain ⟨kM, rfl⟩ : ∃ j, kM = j + 1 := ⟨kM - 1, by omega⟩
    have nt : ¬ iz (n0 : Int) ≤ iz (t : Int) := iz_nle (by omega)
    have t1 : iz (t : Int) + (1 : Int32) = iz ((t + 1 : Nat) : Int) := iz_add t 1
    have hv := CV_cells (e := c) (RRx_CV cvg_try hR) (fun x k hx => (mix_c c m x k hx).symm)
    have hV := RRx_MV cvg_try (by omega) hR
    have ct := c_touches N c 95 105 112 L W n a b hv ha hb
    have mt := m_beside N (mixD c m) m 95 112 L W n n a b hV (fun k => (mix_m c m 531 k (by omega)).symm) ha hb
    have te : tch (mixD c m) 112 a b = tch c 112 a b := by
      unfold tch cx cy
      rw [mix_c _ _ _ _ (by omega), mix_c _ _ _ _ (by omega), mix_c _ _ _ _ (by omega), mix_c _ _ _ _ (by omega)]
    rw [te] at mt
    by_cases z : tch c 112 a b = 0
    · obtain ⟨s, c1, m1, u1, u2, u3, u4, u5⟩ := try_one N L W n id n c m hN hR
      obtain ⟨r, c', m', v1, v2, v3, v4⟩ := ih (t + 1) kC kM c1 m1 (by omega) (by omega) (by omega) u3
      refine ⟨r, c', m', ?_, ?_, ⟨fun x k h => (v3.1 x k h).trans (u4.1 x k h), fun x k => (v3.2 x k).trans (u4.2 x k)⟩, ⟨fun x k h1 h2 h3 => (v4.1 x k h1 h2 h3).trans (u5.1 x k h1 h2 h3), fun x k => (v4.2 x k).trans (u5.2 x k)⟩⟩
      · rw [F_X9_touch_66_s, if_neg nt, r_1_6]
        refine bnd ct ?_
        refine (if_pos z).trans ?_
        refine bnd u1 ?_
        rw [t1]
        exact v1
      · rw [F_X10_touch_76_s, if_neg nt]
        refine bnd mt ?_
        refine (if_pos z).trans ?_
        refine bnd u2 ?_
        rw [t1]
        exact v2
    · refine ⟨iz t, c, m, ?_, ?_, ⟨fun _ _ _ => rfl, fun _ _ => rfl⟩, ⟨fun _ _ _ _ _ => rfl, fun _ _ => rfl⟩⟩
      · rw [F_X9_touch_66_s, if_neg nt, r_1_6]
        exact bnd ct (if_neg z)
      · rw [F_X10_touch_76_s, if_neg nt]
        exact bnd mt (if_neg z)
