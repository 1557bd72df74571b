/-! cost -/
theorem gi_w1 (d : DY) (y w x : Nat) (v : Int32) : gi (si d y w v) x (w + 1) = gi d x (w + 1) := by rw [gi_si_if, if_neg (by omega)]
def sh1 (d : DY) (w : Nat) : DY := si (si (si (si (si (si (si (si d 97 w (gi d 97 (w + 1))) 98 w (gi d 98 (w + 1))) 99 w (gi d 99 (w + 1))) 100 w (gi d 100 (w + 1))) 101 w (gi d 101 (w + 1))) 102 w (gi d 102 (w + 1))) 103 w (gi d 103 (w + 1))) 104 w (gi d 104 (w + 1))
theorem gi_sh1 (d : DY) (w x i : Nat) : gi (sh1 d w) x i = if (97 ≤ x ∧ x ≤ 104) ∧ i = w then gi d x (w + 1) else gi d x i := by
  unfold sh1
  by_cases z : (97 ≤ x ∧ x ≤ 104) ∧ i = w
  · rw [if_pos z]
    obtain ⟨z1, rfl⟩ := z
    have : x = 97 ∨ x = 98 ∨ x = 99 ∨ x = 100 ∨ x = 101 ∨ x = 102 ∨ x = 103 ∨ x = 104 := by omega
    rcases this with rfl | rfl | rfl | rfl | rfl | rfl | rfl | rfl <;> simp [gi_si_if]
  · rw [if_neg z, gi_si_if, if_neg (by omega), gi_si_if, if_neg (by omega), gi_si_if, if_neg (by omega), gi_si_if, if_neg (by omega), gi_si_if, if_neg (by omega), gi_si_if, if_neg (by omega), gi_si_if, if_neg (by omega), gi_si_if, if_neg (by omega)]
theorem c_dr16 (N n u : Nat) (n12 : n ≤ 12) : ∀ (q w k : Nat) (d : DY), w + 1 + q = n → q < k → gi d 95 3 = iz n → ∃ e : DY, F_X4_drop_16 Z0.1 N k 95 (iz u) (iz w) d = F_X4_drop_156 Z0.1 N N 95 (iz u) 0 e ∧ gi e 95 3 = iz ((n - 1 : Nat) : Int) ∧ (∀ x i : Nat, ¬ (x = 95 ∧ i = 3) → (x < 97 ∨ 104 < x) → gi e x i = gi d x i) ∧ (∀ x i : Nat, 97 ≤ x → x ≤ 104 → i + 1 < n → gi e x i = if w ≤ i then gi d x (i + 1) else gi d x i) ∧ ∀ x i : Nat, gl e x i = gl d x i := by
  intro q
  induction q with
  | zero =>
    intro w k d hq hk g3
    obtain ⟨k, rfl⟩ : ∃ j, k = j + 1 := ⟨k - 1, by omega⟩
    refine ⟨si d 95 3 (iz n - 1), ?_, ?_, fun x i h1 h2 => ?_, fun x i h1 h2 h3 => ?_, fun _ _ => rfl⟩
    · rw [F_X4_drop_16_s, g3, show iz (w : Int) + (1 : Int32) = iz ((w + 1 : Nat) : Int) from iz_add w 1, if_pos (show iz (n : Int) ≤ iz ((w + 1 : Nat) : Int) from iz_lei (by omega)), bd_eq]
    · rw [gi_si_if, if_pos ⟨rfl, rfl⟩, show iz (n : Int) - (1 : Int32) = iz ((n : Int) - 1) from iz_sub n 1]
      exact congrArg iz (by omega)
    · rw [gi_si_if, if_neg h1]
    · rw [gi_si_if, if_neg (by omega), if_neg (by omega)]
  | succ q ih =>
    intro w k d hq hk g3
    obtain ⟨k, rfl⟩ : ∃ j, k = j + 1 := ⟨k - 1, by omega⟩
    obtain ⟨e, u1, u2, u3, u4, u5⟩ := ih (w + 1) k (sh1 d w) (by omega) (by omega) (by rw [gi_sh1, if_neg (by omega)]; exact g3)
    have iw : ib (iz (w : Int)) 12 := iz_ib (by omega)
    have iw1 : ib (iz ((w + 1 : Nat) : Int)) 12 := iz_ib (by omega)
    refine ⟨e, ?_, u2, fun x i h1 h2 => ?_, fun x i h1 h2 h3 => ?_, fun x i => u5 x i⟩
    · rw [F_X4_drop_16_s, g3, show iz (w : Int) + (1 : Int32) = iz ((w + 1 : Nat) : Int) from iz_add w 1, if_neg (show ¬ iz (n : Int) ≤ iz ((w + 1 : Nat) : Int) from iz_nle (by omega))]
      simp only [if_pos iw, if_pos iw1, bd_eq, cv_g2 cvg_try, cv_g3 cvg_try, cv_g4 cvg_try, cv_g5 cvg_try, cv_g6 cvg_try, cv_g7 cvg_try, cv_g8 cvg_try, cv_g9 cvg_try, tnn _ w rfl (by omega), tnn _ (w + 1) rfl (by omega), gi_w1]
      exact u1
    · rw [u3 x i h1 h2, gi_sh1, if_neg (by omega)]
    · rw [u4 x i h1 h2 h3, gi_sh1, gi_sh1]
      by_cases z : w + 1 ≤ i
      · rw [if_pos z, if_neg (by omega), if_pos (by omega)]
      · rw [if_neg z]
        by_cases y : i = w
        · rw [if_pos (by omega), if_pos (by omega), y]
        · rw [if_neg (by omega), if_neg (by omega)]
def adjI (u : Nat) (v : Int) : Int := if (u : Int) < v then v - 1 else v
theorem c_d156 (N n1 u : Nat) (n12 : n1 ≤ 11) (u12 : u < 12) (fr : Nat → Int) (hfr : ∀ i : Nat, i < n1 → -1 ≤ fr i ∧ fr i ≤ 12) : ∀ (q w k : Nat) (d : DY), w + q = n1 → q < k → gi d 95 3 = iz n1 → (∀ i : Nat, w ≤ i → i < n1 → gi d 104 i = iz (fr i)) → ∃ e : DY, F_X4_drop_156 Z0.1 N k 95 (iz u) (iz w) d = some e ∧ (∀ x i : Nat, ¬ (x = 104 ∧ w ≤ i) → gi e x i = gi d x i) ∧ (∀ i : Nat, w ≤ i → i < n1 → gi e 104 i = iz (adjI u (fr i))) ∧ ∀ x i : Nat, gl e x i = gl d x i := by
  intro q
  induction q with
  | zero =>
    intro w k d hq hk g3 hf
    obtain ⟨k, rfl⟩ : ∃ j, k = j + 1 := ⟨k - 1, by omega⟩
    refine ⟨d, ?_, fun _ _ _ => rfl, fun i h1 h2 => absurd h2 (by omega), fun _ _ => rfl⟩
    rw [F_X4_drop_156_s, g3, if_pos (show iz (n1 : Int) ≤ iz (w : Int) from iz_lei (by omega))]
  | succ q ih =>
    intro w k d hq hk g3 hf
    obtain ⟨k, rfl⟩ : ∃ j, k = j + 1 := ⟨k - 1, by omega⟩
    have iw : ib (iz (w : Int)) 12 := iz_ib (by omega)
    have w1 : iz (w : Int) + (1 : Int32) = iz ((w + 1 : Nat) : Int) := iz_add w 1
    have fw := hf w (by omega) (by omega)
    have bw := hfr w (by omega)
    have st : ∀ R, (if iz (fr w) ≤ iz (u : Int) then F_X4_drop_156 Z0.1 N k 95 (iz u) (iz ((w + 1 : Nat) : Int)) d else F_X4_drop_156 Z0.1 N k 95 (iz u) (iz ((w + 1 : Nat) : Int)) (si d 104 w (iz (fr w - 1)))) = R → F_X4_drop_156 Z0.1 N (k + 1) 95 (iz u) (iz w) d = R := fun R hR => by
      rw [F_X4_drop_156_s, g3, if_neg (show ¬ iz (n1 : Int) ≤ iz (w : Int) from iz_nle (by omega)), if_pos iw, cv_g9 cvg_try, tnn _ w rfl (by omega), show (95 + 9 : Nat) = 104 from rfl, fw, w1, if_pos iw, if_pos iw, bd_eq, show iz (fr w) - (1 : Int32) = iz (fr w - 1) from iz_sub _ 1]
      exact hR
    by_cases z : (u : Int) < fr w
    · obtain ⟨e, u1, u2, u3, u4⟩ := ih (w + 1) k (si d 104 w (iz (fr w - 1))) (by omega) (by omega) (by rw [gi_si_if, if_neg (by omega)]; exact g3) (fun i h1 h2 => by rw [gi_si_if, if_neg (by omega)]; exact hf i (by omega) h2)
      refine ⟨e, st _ (by rw [if_neg (show ¬ iz (fr w) ≤ iz (u : Int) from iz_nle (by omega))]; exact u1), fun x i h => ?_, fun i h1 h2 => ?_, fun x i => u4 x i⟩
      · rw [u2 x i (by omega), gi_si_if, if_neg (by omega)]
      · by_cases y : i = w
        · rw [y, u2 104 w (by omega), gi_si_if, if_pos ⟨rfl, rfl⟩]
          unfold adjI
          rw [if_pos z]
        · exact u3 i (by omega) h2
    · obtain ⟨e, u1, u2, u3, u4⟩ := ih (w + 1) k d (by omega) (by omega) g3 (fun i h1 h2 => hf i (by omega) h2)
      refine ⟨e, st _ (by rw [if_pos (show iz (fr w) ≤ iz (u : Int) from iz_lei (by omega))]; exact u1), fun x i h => u2 x i (by omega), fun i h1 h2 => ?_, u4⟩
      by_cases y : i = w
      · rw [y, u2 104 w (by omega), fw]
        unfold adjI
        rw [if_neg z]
      · exact u3 i (by omega) h2
def skp (u i : Nat) : Nat := if i < u then i else i + 1
theorem skp_ne (u i : Nat) : skp u i ≠ u := by
  unfold skp
  by_cases z : i < u
  · rw [if_pos z]; omega
  · rw [if_neg z]; omega
theorem skp_lt {u n i : Nat} (hu : u < n) (hi : i < n - 1) : skp u i < n := by
  unfold skp
  by_cases z : i < u
  · rw [if_pos z]; omega
  · rw [if_neg z]; omega
theorem skp_mono {u i j : Nat} (h : i < j) : skp u i < skp u j := by
  unfold skp
  by_cases z : i < u
  · rw [if_pos z]
    by_cases y : j < u
    · rw [if_pos y]; omega
    · rw [if_neg y]; omega
  · rw [if_neg z, if_neg (by omega)]; omega
theorem skp_ex {u n a : Nat} (ha : a < n) (hu : a ≠ u) (hun : u < n) : ∃ i : Nat, i < n - 1 ∧ skp u i = a := by
  unfold skp
  by_cases z : a < u
  · exact ⟨a, by omega, if_pos z⟩
  · exact ⟨a - 1, by omega, by rw [if_neg (by omega)]; omega⟩
/-- the friend of i when u's friend has lost him -/
def losI (fr : Nat → Int) (u i : Nat) : Int := if fr u = i then -1 else fr i
theorem c_drop (N : Nat) (d : DY) (n u : Nat) (hN : 20 ≤ N) (n12 : n ≤ 12) (hu : u < n) (g3 : gi d 95 3 = iz n) (fr : Nat → Int) (hfr : ∀ i : Nat, i < n → gi d 104 i = iz (fr i) ∧ (fr i = -1 ∨ 0 ≤ fr i ∧ fr i < n)) : ∃ e : DY, F_X4_drop Z0.1 N 95 (iz u) d = some e ∧ gi e 95 3 = iz ((n - 1 : Nat) : Int) ∧ (∀ x i : Nat, ¬ (x = 95 ∧ i = 3) → (x < 97 ∨ 104 < x) → gi e x i = gi d x i) ∧ (∀ x i : Nat, 97 ≤ x → x ≤ 103 → i < n - 1 → gi e x i = gi d x (skp u i)) ∧ (∀ i : Nat, i < n - 1 → gi e 104 i = iz (adjI u (losI fr u (skp u i)))) ∧ ∀ x i : Nat, gl e x i = gl d x i := by
  have iu : ib (iz (u : Int)) 12 := iz_ib (by omega)
  obtain ⟨fu, bu⟩ := hfr u hu
  have hs := c_hasG Z0.1 N 95 (u : Int) n d (by omega) (by omega) g3 n12
  rw [if_pos (by omega)] at hs
  have hs2 := c_hasG Z0.1 N 95 (fr u) n d (by omega) (by omega) g3 n12
  have unf : ∃ e : DY, F_X4_unfriend Z0.1 N 95 (iz u) d = some e ∧ (∀ x i : Nat, x ≠ 104 → gi e x i = gi d x i) ∧ (∀ i : Nat, i < n → gi e 104 i = iz (losI fr u i)) ∧ ∀ x i : Nat, gl e x i = gl d x i := by
    have U := F_X4_unfriend_s Z0.1 N 95 (iz u) d
    rw [if_pos iu, cv_g9 cvg_try, tnn _ u rfl (by omega), show (95 + 9 : Nat) = 104 from rfl, fu, hs2, sb_eq] at U
    rcases bu with z | z
    · rw [if_neg (show ¬ (0 ≤ fr u ∧ fr u < (n : Int)) by omega), if_pos rfl] at U
      refine ⟨d, U, fun _ _ _ => rfl, fun i hi => ?_, fun _ _ => rfl⟩
      unfold losI
      rw [if_neg (by omega)]
      exact (hfr i hi).1
    · have t : (iz (fr u)).toNatClampNeg = (fr u).toNat := tnn _ _ (by omega) (by omega)
      rw [if_pos (show 0 ≤ fr u ∧ fr u < (n : Int) from z), if_neg (show ¬ (1 : Int32) = 0 by decide), if_pos (show ib (iz (fr u)) 12 from iz_ib (by omega)), bd_eq, t] at U
      refine ⟨_, U, fun x i h => by rw [gi_si_if, if_neg (by omega)], fun i hi => ?_, fun _ _ => rfl⟩
      rw [gi_si_if]
      unfold losI
      by_cases y : fr u = i
      · rw [if_pos (by omega), if_pos y]; rfl
      · rw [if_neg (by omega), if_neg y]
        exact (hfr i hi).1
  obtain ⟨d1, U1, U2, U3, U4⟩ := unf
  obtain ⟨d2, V1, V2, V3, V4, V5⟩ := c_dr16 N n u n12 (n - 1 - u) u N d1 (by omega) (by omega) (by rw [U2 _ _ (by omega)]; exact g3)
  have f2 : ∀ i : Nat, i < n - 1 → gi d2 104 i = iz (losI fr u (skp u i)) := fun i hi => by
    rw [V4 104 i (by omega) (by omega) (by omega)]
    unfold skp
    by_cases z : i < u
    · rw [if_neg (by omega), if_pos z]
      exact U3 i (by omega)
    · rw [if_pos (by omega), if_neg z]
      exact U3 (i + 1) (by omega)
  have bl : ∀ i : Nat, i < n → -1 ≤ losI fr u i ∧ losI fr u i ≤ 12 := fun i hi => by
    have := (hfr i hi).2
    unfold losI
    by_cases z : fr u = i
    · rw [if_pos z]; omega
    · rw [if_neg z]; omega
  obtain ⟨e, W1, W2, W3, W4⟩ := c_d156 N (n - 1) u (by omega) (by omega) (fun i => losI fr u (skp u i)) (fun i hi => bl _ (skp_lt hu hi)) (n - 1) 0 N d2 (by omega) (by omega) V2 (fun i _ hi => f2 i hi)
  refine ⟨e, ?_, ?_, fun x i h1 h2 => ?_, fun x i h1 h2 h3 => ?_, fun i hi => W3 i (by omega) hi, fun x i => (W4 x i).trans ((V5 x i).trans (U4 x i))⟩
  · rw [F_X4_drop_s]
    refine bnd hs ?_
    refine (if_neg (show ¬ (1 : Int32) = 0 by decide)).trans ?_
    exact bnd U1 (V1.trans W1)
  · rw [W2 _ _ (by omega)]
    exact V2
  · rw [W2 x i (by omega), V3 x i h1 h2, U2 x i (by omega)]
  · rw [W2 x i (by omega), V4 x i h1 (by omega) (by omega), U2 x _ (by omega), U2 x _ (by omega)]
    unfold skp
    by_cases z : i < u
    · rw [if_neg (by omega), if_pos z]
    · rw [if_pos (by omega), if_neg z]
theorem iz_m1n (j : Nat) (h : j < 1000) : iz (-1) ≠ iz (j : Int) := iz_nei (by omega)
theorem PREP_drop {c e m : DY} {k j L W n u : Nat} (hP : PREP (mixD c m) k j id L W n n) (hu : u < n) (fr : Nat → Int) (hfr : ∀ i : Nat, i < n → gi c 104 i = iz (fr i) ∧ (fr i = -1 ∨ 0 ≤ fr i ∧ fr i < n) ∧ ∀ j : Nat, j < n → fr i = j → fr j = i) (h3 : gi e 95 3 = iz ((n - 1 : Nat) : Int)) (ho : ∀ x i : Nat, ¬ (x = 95 ∧ i = 3) → (x < 97 ∨ 104 < x) → gi e x i = gi c x i) (hs : ∀ x i : Nat, 97 ≤ x → x ≤ 103 → i < n - 1 → gi e x i = gi c x (skp u i)) (h4 : ∀ i : Nat, i < n - 1 → gi e 104 i = iz (adjI u (losI fr u (skp u i)))) : PREP (mixD e m) k j (skp u) L W (n - 1) n := by
  obtain ⟨⟨⟨k1, k1', k1'', k1m⟩, k2, k3, ⟨_, k5'⟩, k6, _, k7⟩, hL⟩ := hP
  have o : ∀ x i : Nat, ¬ (x = 95 ∧ i = 3) → (x < 97 ∨ 104 < x) → gi (mixD e m) x i = gi (mixD c m) x i := fun x i h h2 => by
    by_cases z : x < 510
    · rw [mix_c _ _ _ _ z, mix_c _ _ _ _ z, ho x i h h2]
    · rw [mix_m _ _ _ _ (by omega), mix_m _ _ _ _ (by omega)]
  have s : ∀ x i : Nat, 2 ≤ x → x ≤ 8 → i < n - 1 → gi (mixD e m) (95 + x) i = gi (mixD c m) (95 + x) (skp u i) := fun x i h1 h2 h3 => by
    rw [mix_c _ _ _ _ (by omega), mix_c _ _ _ _ (by omega), hs _ _ (by omega) (by omega) h3]
  refine ⟨⟨⟨k1, k1', by omega, k1m⟩, ?_, ?_, ⟨?_, ?_⟩, fun i hi => ?_, ⟨fun i hi => skp_lt hu hi, fun i j h _ => skp_mono h⟩, fun i hi => ?_⟩, LR_of hL ⟨fun f hf => o _ _ (by omega) (by omega), fun p hp i _ => o _ _ (by omega) (by have := lC_le p hp; omega)⟩ (o 523 _ (by omega) (by omega)) (fun i _ => o 524 _ (by omega) (by omega))⟩
  · rw [o 95 0 (by omega) (by omega), o 516 _ (by omega) (by omega)]; exact k2
  · rw [o 95 1 (by omega) (by omega), o 517 _ (by omega) (by omega)]; exact k3
  · rw [mix_c _ _ _ _ (by omega)]; exact h3
  · rw [o 518 _ (by omega) (by omega)]; exact k5'
  · rw [o (95 + 1) i (by omega) (by omega), o 520 _ (by omega) (by omega)]; exact k6 i hi
  · obtain ⟨a1, a2, a3, a4⟩ := k7 (skp u i) (skp_lt hu hi)
    refine ⟨?_, ?_, ?_, ?_⟩
    · rw [s 2 i (by omega) (by omega) hi, o 521 _ (by omega) (by omega)]; exact a1
    · rw [s 3 i (by omega) (by omega) hi, o 521 _ (by omega) (by omega)]; exact a2
    · unfold TW at a3 ⊢
      rw [s 4 i (by omega) (by omega) hi, s 5 i (by omega) (by omega) hi, s 6 i (by omega) (by omega) hi, s 7 i (by omega) (by omega) hi, s 8 i (by omega) (by omega) hi, o 521 _ (by omega) (by omega), o 521 _ (by omega) (by omega), o 521 _ (by omega) (by omega), o 521 _ (by omega) (by omega), o 521 _ (by omega) (by omega)]
      exact a3
    · have ha := skp_lt hu hi
      have hne := skp_ne u i
      have nb : n - 1 ≤ 1000 := by omega
      generalize hA : skp u i = a at *
      obtain ⟨f1, f2, f3⟩ := hfr a ha
      unfold FRG at a4 ⊢
      have e9 : gi (mixD e m) (95 + 9) i = iz (adjI u (losI fr u a)) := by
        rw [mix_c _ _ _ _ (by omega), ← hA]
        exact h4 i hi
      have c9 : gi (mixD c m) (95 + 9) a = iz (fr a) := by
        rw [mix_c _ _ _ _ (by omega)]
        exact f1
      have r7 : gi (mixD e m) 521 (8 * (12 * k + a) + 7) = gi (mixD c m) 521 (8 * (12 * k + a) + 7) := o 521 _ (by omega) (by omega)
      have a4 : (∃ j : Nat, j < n ∧ gi (mixD c m) (95 + 9) a = iz j ∧ gi (mixD c m) 521 (8 * (12 * k + a) + 7) = iz j) ∨ ((∀ j : Nat, j < n → gi (mixD c m) (95 + 9) a ≠ iz j) ∧ (gi (mixD c m) 521 (8 * (12 * k + a) + 7) = -1 ∨ ∃ b : Nat, b < n ∧ gi (mixD c m) 521 (8 * (12 * k + a) + 7) = iz b ∧ ∀ j : Nat, j < n → j ≠ b)) := a4
      rw [c9] at a4
      rw [hA, e9, r7]
      have none1 : losI fr u a = -1 → ∀ j : Nat, j < n - 1 → iz (adjI u (losI fr u a)) ≠ iz j := fun z j hj => by
        unfold adjI
        rw [z, if_neg (by omega)]
        exact iz_m1n j (Nat.lt_of_lt_of_le hj nb)
      rcases f2 with z | z
      · have lo : losI fr u a = -1 := by
          unfold losI
          rw [z]
          by_cases y : fr u = a
          · rw [if_pos y]
          · rw [if_neg y]
        refine Or.inr ⟨none1 lo, Or.inl ?_⟩
        rcases a4 with ⟨j, j1, j2, _⟩ | ⟨_, b | ⟨b, b1, _, b3⟩⟩
        · rw [z, iz_inj (by omega) (by omega) (by omega) (by omega)] at j2
          omega
        · exact b
        · exact absurd rfl (b3 b b1)
      · have ref : gi (mixD c m) 521 (8 * (12 * k + a) + 7) = iz (fr a) := by
          rcases a4 with ⟨j, j1, j2, j3⟩ | ⟨b0, _⟩
          · rw [j3, j2]
          · exact absurd (show iz (fr a) = iz ((fr a).toNat : Int) from congrArg iz (by omega)) (b0 (fr a).toNat (by omega))
        rw [ref]
        by_cases y : fr a = u
        · have sym := f3 u hu y
          have lo : losI fr u a = -1 := by
            unfold losI
            rw [if_pos sym]
          exact Or.inr ⟨none1 lo, Or.inr ⟨u, hu, congrArg iz y, fun i' _ => skp_ne u i'⟩⟩
        · have lo : losI fr u a = fr a := by
            unfold losI
            rw [if_neg (fun q => y ((hfr u hu).2.2 a ha q))]
          obtain ⟨i', i1, i2⟩ := skp_ex (u := u) (n := n) (a := (fr a).toNat) (by omega) (by omega) hu
          refine Or.inl ⟨i', i1, ?_, ?_⟩
          · rw [lo]
            unfold adjI
            unfold skp at i2
            by_cases q : i' < u
            · rw [if_pos q] at i2
              rw [if_neg (by omega)]
              exact congrArg iz (by omega)
            · rw [if_neg q] at i2
              rw [if_pos (by omega)]
              exact congrArg iz (by omega)
          · rw [i2]
            exact congrArg iz (by omega)
theorem fr_of {dy c : DY} {k j n : Nat} (h : Inv dy) (k3 : k < 3) (hC : CPD k j dy c) (n12 : n ≤ 12) (hn : gi c 95 3 = iz n) : ∃ fr : Nat → Int, ∀ i : Nat, i < n → gi c 104 i = iz (fr i) ∧ (fr i = -1 ∨ 0 ≤ fr i ∧ fr i < n) ∧ ∀ j : Nat, j < n → fr i = j → fr j = i := by
  obtain ⟨_, _, _, _, _, _, _, hPR, _⟩ := id h.1
  have hp := hPR k k3
  rw [show 2 + 39 + 17 * k = 41 + 17 * k by omega] at hp
  obtain ⟨L', W', n', ⟨_, _, b3⟩, _, _, _, ⟨k5, _⟩, _, k7, k8, _⟩ := hp
  have f3 : gi c 95 3 = gi dy (41 + 17 * k) 3 := hC.1.1 3 (pF_in 3 (by omega))
  have en : n = n' := by
    have := hn.symm.trans (f3.trans k5)
    rw [iz_inj (by omega) (by omega) (by omega) (by omega)] at this
    omega
  subst en
  have c9 : ∀ i : Nat, i < n → gi c 104 i = gi dy (41 + 17 * k + 9) i := fun i hi => hC.1.2 (9, 12) (pC_in 9 (by omega) (by omega)) i (by omega)
  refine ⟨fun i => (gi c 104 i).toInt, fun i hi => ⟨(iz_self _).symm, ?_, fun j hj hij => ?_⟩⟩
  · show (gi c 104 i).toInt = -1 ∨ 0 ≤ (gi c 104 i).toInt ∧ (gi c 104 i).toInt < n
    rw [c9 i hi]
    rcases (k7 i hi).2.2.2.2 with z | ⟨j, j1, j2⟩
    · rw [z]; exact Or.inl rfl
    · rw [j2, iz_toInt (by omega) (by omega)]; omega
  · have hij : (gi c 104 i).toInt = j := hij
    show (gi c 104 j).toInt = i
    have := k8 i j hi hj (by rw [← c9 i hi, ← hij, iz_self])
    rw [c9 j hj, this, iz_toInt (by omega) (by omega)]
/-- tenths till one arrives -/
def vlT (t : Int32) (n0 : Nat) : Nat := if t = -1 then n0 else t.toNatClampNeg + 1
theorem S1_s (f : Nat → Nat) (n : Nat) : S1 f (n + 1) = S1 f n + f n := rfl
theorem c_ten13 (N n0 n : Nat) (one : Int32) (c : DY) (n12 : n ≤ 12) (hn0 : n0 ≤ 200) (g3 : gi c 95 3 = iz n) (hT : ∀ i : Nat, i < n → gi c 115 i = -1 ∨ ∃ v : Nat, v < n0 ∧ gi c 115 i = iz v) : ∀ q w k : Nat, w + q = n → q < k → F_X9_tenthsOfOthers_13 Z0.1 N k 1 (iz n0) one (iz ((S1 (fun i => if iz (i : Int) = one then 0 else vlT (gi c 115 i) n0) w : Nat) : Int)) (iz w) c = some (iz ((S1 (fun i => if iz (i : Int) = one then 0 else vlT (gi c 115 i) n0) n : Nat) : Int), c) := by
  intro q
  induction q with
  | zero =>
    intro w k hq hk
    obtain ⟨k, rfl⟩ : ∃ j, k = j + 1 := ⟨k - 1, by omega⟩
    obtain rfl : w = n := by omega
    rw [F_X9_tenthsOfOthers_13_s, r_1_4, g3, if_pos (Int32.le_refl _)]
  | succ q ih =>
    intro w k hq hk
    obtain ⟨k, rfl⟩ : ∃ j, k = j + 1 := ⟨k - 1, by omega⟩
    have iw : ib (iz (w : Int)) 12 := iz_ib (by omega)
    have w1 : iz (w : Int) + (1 : Int32) = iz ((w + 1 : Nat) : Int) := iz_add w 1
    have nx := ih (w + 1) k (by omega) (by omega)
    rw [S1_s] at nx
    rw [F_X9_tenthsOfOthers_13_s, r_1_4, g3, if_neg (show ¬ iz (n : Int) ≤ iz (w : Int) from iz_nle (by omega)), w1, r_1_6, show gr Z0.1 112 11 = 115 from cv_w3 cvg_try, tnn _ w rfl (by omega)]
    by_cases z : iz (w : Int) = one
    · rw [if_pos z, Nat.add_zero] at nx
      rw [if_pos z]
      exact nx
    · rw [if_neg z] at nx
      rw [if_neg z, if_pos iw, if_pos iw]
      unfold vlT at nx
      rcases hT w (by omega) with y | ⟨v, v1, v2⟩
      · rw [if_pos y] at nx
        rw [if_pos y, iz_add]
        exact nx
      · have nv : ¬ gi c 115 w = -1 := by rw [v2, l_m1]; exact iz_nei (by omega)
        rw [if_neg nv, v2, tnn _ v rfl (by omega)] at nx
        rw [if_neg nv, v2, show iz (v : Int) + (1 : Int32) = iz ((v + 1 : Nat) : Int) from iz_add v 1, iz_add]
        exact nx
theorem m_ten5 (N n0 M : Nat) (but : Int32) (m : DY) (n12 : M ≤ 12) (hn0 : n0 ≤ 200) (g2 : gi m 531 2882 = iz M) (hT : ∀ i : Nat, i < M → iz (i : Int) ≠ but → gi m 531 (720 * 4 + 16 + 20 * i + 14) = -1 ∨ ∃ v : Nat, v < n0 ∧ gi m 531 (720 * 4 + 16 + 20 * i + 14) = iz v) : ∀ q w k : Nat, w + q = M → q < k → F_X10_tenths_5 Z0.1 N k 510 (iz n0) but (iz ((S1 (fun i => if iz (i : Int) = but then 0 else vlT (gi m 531 (720 * 4 + 16 + 20 * i + 14)) n0) w : Nat) : Int)) (iz w) m = some (iz ((S1 (fun i => if iz (i : Int) = but then 0 else vlT (gi m 531 (720 * 4 + 16 + 20 * i + 14)) n0) M : Nat) : Int), m) := by
  have i2882 : ib (2882 : Int32) 10080 := by decide
  intro q
  induction q with
  | zero =>
    intro w k hq hk
    obtain ⟨k, rfl⟩ : ∃ j, k = j + 1 := ⟨k - 1, by omega⟩
    obtain rfl : w = M := by omega
    rw [F_X10_tenths_5_s, if_pos i2882, r_510_39, show (2882 : Int32).toNatClampNeg = 2882 from rfl, g2, if_pos (Int32.le_refl _)]
  | succ q ih =>
    intro w k hq hk
    obtain ⟨k, rfl⟩ : ∃ j, k = j + 1 := ⟨k - 1, by omega⟩
    have w1 : iz (w : Int) + (1 : Int32) = iz ((w + 1 : Nat) : Int) := iz_add w 1
    have nx := ih (w + 1) k (by omega) (by omega)
    rw [S1_s] at nx
    rw [F_X10_tenths_5_s, if_pos i2882, r_510_39, show (2882 : Int32).toNatClampNeg = 2882 from rfl, g2, if_neg (show ¬ iz (M : Int) ≤ iz (w : Int) from iz_nle (by omega)), w1]
    refine bnd (m_at _ _ 4 w m) ?_
    show (if ib (iz ((720 * 4 + 16 + 20 * w : Nat) : Int) + (14 : Int32)) 10080 then _ else _) = _
    rw [show iz ((720 * 4 + 16 + 20 * w : Nat) : Int) + (14 : Int32) = iz ((720 * 4 + 16 + 20 * w + 14 : Nat) : Int) from iz_add _ 14, if_pos (ibr _ (by omega)), tnn _ (720 * 4 + 16 + 20 * w + 14) rfl (by omega)]
    by_cases z : iz (w : Int) = but
    · rw [if_pos z, Nat.add_zero] at nx
      rw [if_pos z, Int32.add_zero]
      exact nx
    · rw [if_neg z] at nx
      rw [if_neg z]
      unfold vlT at nx
      rcases hT w (by omega) z with y | ⟨v, v1, v2⟩
      · rw [if_pos y] at nx
        rw [if_pos y, iz_add]
        exact nx
      · have nv : ¬ gi m 531 (720 * 4 + 16 + 20 * w + 14) = -1 := by rw [v2, l_m1]; exact iz_nei (by omega)
        rw [if_neg nv, v2, tnn _ v rfl (by omega)] at nx
        rw [if_neg nv, v2, show iz (v : Int) + (1 : Int32) = iz ((v + 1 : Nat) : Int) from iz_add v 1, iz_add]
        exact nx
theorem awy_one {u n : Nat} (h12 : n ≤ 12) (hu : u < n) : ∀ a : Nat, a < n → (awy 12 (iz u) a ↔ ∀ i : Nat, i < n - 1 → skp u i ≠ a) := fun a ha => by
  constructor
  · intro z i hi y
    rcases z with z | z
    · exact iz_nle (a := 12) (b := a) (by omega) z
    · rw [iz_inj (by omega) (by omega) (by omega) (by omega)] at z
      have := skp_ne u i
      omega
  · intro z
    by_cases y : a = u
    · exact Or.inr (congrArg iz (by omega))
    · obtain ⟨i, i1, i2⟩ := skp_ex ha y hu
      exact absurd i2 (z i i1)
theorem eq_cost (N : Nat) (pa la s na wa : Int32) (dy : DY) (hN : 900 ≤ N) (h : Inv dy) : ∃ r dy1 dy2, F_X9_cost Z0.1 N 1 pa la s na wa dy = some (r, dy1) ∧ F_X10_cost Z0.1 N 510 pa la s na wa dy1 = some (r, dy2) ∧ Inv dy2 := by
  obtain ⟨u, rfl, u1, u2⟩ := iz_ex wa
  have n1 : ¬ (1 : Int32) = 0 := by decide
  refine wrap_trial N 200 pa la na (-100000) dy (by omega) h (fun d => (F_X4_has Z0.1 N (gr Z0.1 1 4) (iz u) d).bind fun u6 => (if u6.1 = 0 then some ((-100000 : Int32), u6.2) else (F_X9_tenthsOfOthers Z0.1 N 1 s na (iz u) u6.2).bind fun u8 => (F_X4_drop Z0.1 N (gr Z0.1 1 4) (iz u) u8.2).bind fun u11 => (F_X9_tenthsOfOthers Z0.1 N 1 s na (-1 : Int32) u11).bind fun u13 => some ((u8.1 - u13.1), u13.2))) (fun d => if ib pa 12 then (F_X10_in Z0.1 N (iz u) (0 : Int32) ((gi d (gr Z0.1 510 8) pa.toNatClampNeg) - (1 : Int32)) d).bind fun u5 => (if u5.1 = 0 then some ((-100000 : Int32), u5.2) else (F_X10_lay Z0.1 N 510 (4 : Int32) pa la s (12 : Int32) (-1 : Int32) u5.2).bind fun u7 => (F_X10_tryOn Z0.1 N 510 na u7).bind fun u9 => (F_X10_tenths Z0.1 N 510 na (iz u) u9).bind fun u11 => (F_X10_lay Z0.1 N 510 (4 : Int32) pa la s (12 : Int32) (iz u) u11.2).bind fun u13 => (F_X10_tryOn Z0.1 N 510 na u13).bind fun u15 => (F_X10_tenths Z0.1 N 510 na (iz u) u15).bind fun u17 => some ((u11.1 - u17.1), u17.2)) else none) (fun k j n0 L W n c hpa hla hna k3 j3 n01 n02 hC m518 hP => ?_)
  subst hpa hla hna
  have n12 : n ≤ 12 := hP.1.1.2.2.1
  have g3 : gi c 95 3 = iz n := (GRD_of hP).2.1.2.2
  have cd : ∀ x i : Nat, 511 ≤ x → gi c x i = gi dy x i := fun x i hx => hC.2.2.1 x i (by omega)
  have i12 : ib (iz (k : Int)) 12 := iz_ib (by omega)
  by_cases hu : 0 ≤ u ∧ u < n
  · obtain ⟨w, rfl⟩ : ∃ w : Nat, u = w := ⟨u.toNat, by omega⟩
    have wn : w < n := by omega
    obtain ⟨fr, hfr⟩ := fr_of h k3 hC n12 g3
    obtain ⟨A, T, _, T1, a3, a4⟩ := spec_lay N n0 s 12 (-1) c dy hN (by omega) k3 j3 hP (awy_none n12)
    obtain ⟨c1, b1, b2, b3⟩ := a3 c (fun _ _ _ _ => rfl)
    have cc1 : ∀ x i : Nat, 95 ≤ x → x ≤ 111 → gi c1 x i = gi c x i := fun x i q1 q2 => b3.1 x i (by omega)
    have g31 : gi c1 95 3 = iz n := (cc1 95 3 (by omega) (by omega)).trans g3
    obtain ⟨c2, d1, d2, d3, d4, d5, d6⟩ := c_drop N c1 n w (by omega) n12 wn g31 fr (fun i hi => ⟨(cc1 104 i (by omega) (by omega)).trans (hfr i hi).1, (hfr i hi).2.1⟩)
    have hP2 : PREP (mixD c2 dy) k j (skp w) L W (n - 1) n := PREP_drop (PREP_mix hP cc1 (fun _ _ _ _ => rfl)) wn fr (fun i hi => ⟨(cc1 104 i (by omega) (by omega)).trans (hfr i hi).1, (hfr i hi).2⟩) d2 d3 d4 d5
    obtain ⟨A2, T2, _, T21, e3, e4⟩ := spec_lay N n0 s 12 (iz w) c2 dy hN (by omega) k3 j3 hP2 (awy_one n12 wn)
    obtain ⟨c3, f1, f2, f3⟩ := e3 c2 (fun _ _ _ _ => rfl)
    have g32 : gi c3 95 3 = iz ((n - 1 : Nat) : Int) := (f3.1 95 3 (by omega)).trans d2
    have t1 := c_ten13 N n0 n (iz w) c1 n12 (by omega) g31 (fun i hi => by rw [b2 i hi]; exact T1 i hi) n 0 N (by omega) (by omega)
    have t2 := c_ten13 N n0 (n - 1) (-1) c3 (by omega) (by omega) g32 (fun i hi => by rw [f2 i hi]; exact T21 i hi) (n - 1) 0 N (by omega) (by omega)
    have c2f : ∀ x i : Nat, ¬ (94 ≤ x ∧ x ≤ 239) → gi c2 x i = gi c x i := fun x i hx => by rw [d3 x i (by omega) (by omega), b3.1 x i (by omega)]
    have c3f : gfr c c3 := fun x i hx => (f3.1 x i (by omega)).trans (c2f x i hx)
    have sM : sameM dy (si c3 510 0 0) := fun x i q1 q2 => by rw [gi_si_if, if_neg (by omega), c3f x i (by omega), cd x i q1]
    obtain ⟨m1, m2, g1, g2, _, ⟨g4, g5⟩, g6⟩ := a4 _ sM
    obtain ⟨m3, m4, h1, h2, _, ⟨h4, h5⟩, h6⟩ := e4 m2 (sameM_tr sM g6)
    have t3 := m_ten5 N n0 n (iz w) m2 n12 (by omega) g4 (fun i hi _ => by
      have := g5 i hi
      rw [show 720 * 4 + 16 + 20 * i + 14 = 720 * 4 + 16 + 20 * id i + 14 from rfl, this]
      exact T1 i hi) n 0 N (by omega) (by omega)
    have t4 := m_ten5 N n0 n (iz w) m4 n12 (by omega) h4 (fun i hi hne => by
      obtain ⟨i', i1, i2⟩ := skp_ex hi (fun y => hne (congrArg iz (by omega))) wn
      rw [← i2, h5 i' i1]
      exact T21 i' i1) n 0 N (by omega) (by omega)
    have s1 : S1 (fun i => if iz (i : Int) = iz (w : Int) then 0 else vlT (gi c1 115 i) n0) n = S1 (fun i => if iz (i : Int) = iz (w : Int) then 0 else vlT (gi m2 531 (720 * 4 + 16 + 20 * i + 14)) n0) n := S1_same n (fun i hi => by
      have e : gi m2 531 (720 * 4 + 16 + 20 * i + 14) = gi c1 115 i := (g5 i hi).trans (b2 i hi).symm
      rw [e])
    have s2 : S1 (fun i => if iz (i : Int) = -1 then 0 else vlT (gi c3 115 i) n0) (n - 1) = S1 (fun i => if iz (i : Int) = iz (w : Int) then 0 else vlT (gi m4 531 (720 * 4 + 16 + 20 * i + 14)) n0) n := by
      rw [S1_map (fun i => if iz (i : Int) = iz (w : Int) then 0 else vlT (gi m4 531 (720 * 4 + 16 + 20 * i + 14)) n0) (skp w) n (n - 1) (fun i hi => skp_lt wn hi) (fun i j hij _ => skp_mono hij) (fun a ha hno => by
        by_cases y : a = w
        · exact if_pos (congrArg iz (by omega))
        · obtain ⟨i, i1, i2⟩ := skp_ex ha y wn
          exact absurd i2 (hno i i1))]
      refine S1_same (n - 1) (fun i hi => ?_)
      have e : gi m4 531 (720 * 4 + 16 + 20 * skp w i + 14) = gi c3 115 i := (h5 i hi).trans (f2 i hi).symm
      rw [e, if_neg (show ¬ iz (i : Int) = -1 by rw [l_m1]; exact iz_nei (by omega)), if_neg (show ¬ iz (skp w i : Int) = iz (w : Int) from fun y => by
        have k1 := skp_lt wn hi
        have k2 := skp_ne w i
        rw [iz_inj (by omega) (by omega) (by omega) (by omega)] at y
        omega)]
    rw [s1] at t1
    rw [s2] at t2
    refine ⟨iz ((S1 (fun i => if iz (i : Int) = iz (w : Int) then 0 else vlT (gi m2 531 (720 * 4 + 16 + 20 * i + 14)) n0) n : Nat) : Int) - iz ((S1 (fun i => if iz (i : Int) = iz (w : Int) then 0 else vlT (gi m4 531 (720 * 4 + 16 + 20 * i + 14)) n0) n : Nat) : Int), c3, m4, ?_, c3f, ?_, fun x i q1 q2 q3 => by rw [rfr_of h6 x i q1 q2 q3, rfr_of g6 x i q1 q2 q3, gi_si_if, if_neg (by omega)]⟩
    · rw [r_1_4, c_hasG _ _ 95 _ n c u1 u2 g3 n12, sb_eq, if_pos hu, if_neg n1]
      have x1 : F_X9_tenthsOfOthers Z0.1 N 1 s (iz n0) (iz (w : Int)) c = some (iz ((S1 (fun i => if iz (i : Int) = iz (w : Int) then 0 else vlT (gi m2 531 (720 * 4 + 16 + 20 * i + 14)) n0) n : Nat) : Int), c1) := by
        rw [F_X9_tenthsOfOthers_s]
        exact bnd b1 t1
      have x2 : F_X9_tenthsOfOthers Z0.1 N 1 s (iz n0) (-1) c2 = some (iz ((S1 (fun i => if iz (i : Int) = iz (w : Int) then 0 else vlT (gi m4 531 (720 * 4 + 16 + 20 * i + 14)) n0) n : Nat) : Int), c3) := by
        rw [F_X9_tenthsOfOthers_s]
        exact bnd f1 t2
      exact bnd x1 (bnd d1 (bnd x2 rfl))
    · rw [if_pos i12, r_510_8, tnn _ k rfl (by omega), (sM 518 k (by omega) (by omega)).trans m518, has_two _ _ n _ _ n12 u1 u2, sb_eq, if_pos hu, if_neg n1]
      exact bnd g1 (bnd g2 (bnd t3 (bnd h1 (bnd h2 (bnd t4 rfl)))))
  · refine ⟨-100000, c, si c 510 0 0, ?_, gfr_re _, ?_, fun x i q1 q2 q3 => by rw [gi_si_if, if_neg (by omega)]⟩
    · rw [r_1_4, c_hasG _ _ 95 _ n c u1 u2 g3 n12, sb_eq, if_neg hu, if_pos rfl]
    · rw [if_pos i12, r_510_8, tnn _ k rfl (by omega), show gi (si c 510 0 0) 518 k = iz n from by rw [gi_si_if, if_neg (by omega), cd _ _ (by omega), m518], has_two _ _ n u _ n12 u1 u2, sb_eq, if_neg hu, if_pos rfl]
