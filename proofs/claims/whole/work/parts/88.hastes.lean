/-! all hastes -/
theorem RRx_hs {d : DY} {g l w r : Nat} {ι : Nat → Nat} {L W n M : Nat} (h : RRx d g l w r ι L W n M) (i : Nat) (hi : i < n) : 0 ≤ hsI d g i ∧ hsI d g i ≤ 9 := by
  obtain ⟨_, _, _, _, _, _, _, _, _, h10, _⟩ := h
  obtain ⟨_, ⟨_, _, _, ⟨p, p1, p2, _⟩, _⟩, _⟩ := h10 i hi
  unfold hsI
  rw [p2, iz_toInt (by omega) (by omega)]
  omega
theorem hastes (N : Nat) (D : DY) (g l w r : Nat) (ι : Nat → Nat) (L W n M : Nat) (od : Nat → Nat) (x2 : Int32) (hN : 20 ≤ N) (hG : CVg g l w) (r14 : r < 14) (hR : RRx D g l w r ι L W n M) (hAi : AIMS D D g w ι n) (o1 : ∀ p : Nat, p < n → od p < n ∧ gi D (w + 9) p = iz (od p : Nat)) (o2 : ∀ p q : Nat, p < q → q < n → bef D g (od p) (od q)) (o3 : ∀ i : Nat, i < n → ∃ p : Nat, p < n ∧ od p = i) : ∀ (q kH p kC mvd : Nat) (c m : DY), q ≤ 10 → q < kH → n - p < kC → p ≤ n → GS D c m w r → (∀ o : Nat, o < n → GW D c m g w r ι L W o (Pr D g ι ((q : Int) - 1) 0 o)) → GA m ι n M → GDo c m w r → (∀ o : Nat, o < n → (Pr D g ι ((q : Int) - 1) 0 o ↔ ∃ x : Nat, x < p ∧ od x = o)) → mvd = SMn m ι n → ∃ (kC' : Nat) (c' m' : DY), 0 < kC' ∧ F_X8_move_36 Z0.1 N kC w (iz mvd) (iz p) c = F_X8_move_36 Z0.1 N kC' w (iz (SMn m' ι n : Nat)) (iz n) c' ∧ F_X10_step_99 Z0.1 N kH 510 (iz r) x2 (iz M) (iz ((q : Int) - 1)) m = F_X10_step_167 Z0.1 N N 510 (iz r) x2 (iz M) 0 0 m' ∧ GS D c' m' w r ∧ (∀ o : Nat, o < n → GW D c' m' g w r ι L W o True) ∧ GA m' ι n M ∧ GDo c' m' w r ∧ (∀ x k : Nat, (x < w ∨ w + 11 < x) → gi c' x k = gi c x k) ∧ (∀ x k : Nat, gl c' x k = gl c x k) ∧ (∀ x k : Nat, (x < 535 ∨ 537 < x) → ¬ (x = 531 ∧ 720 * r ≤ k ∧ k < 720 * r + 720) → gi m' x k = gi m x k) ∧ (∀ x k : Nat, gl m' x k = gl m x k) ∧ ATn c c' w n := by
  have hM := RRx_MV hG r14 hR
  obtain ⟨⟨_, _, _, _, M12⟩, _, _, ⟨hι, hmono⟩, _⟩ := id hM
  intro q
  induction q with
  | zero =>
    intro kH p kC mvd c m hq hkH hkC hp hS hW hA hD hP hmvd
    obtain ⟨kH, rfl⟩ : ∃ j, kH = j + 1 := ⟨kH - 1, by omega⟩
    have all : ∀ o : Nat, o < n → Pr D g ι (((0 : Nat) : Int) - 1) 0 o := fun o ho => Or.inl (by have := (RRx_hs hR o ho).1; omega)
    have pn : p = n := by
      rcases Nat.lt_or_ge p n with z | z
      · exfalso
        obtain ⟨x, hx, hxo⟩ := (hP (od p) (o1 p z).1).mp (all _ (o1 p z).1)
        have hb := o2 x p hx z
        rw [hxo] at hb
        unfold bef at hb
        omega
      · omega
    subst pn
    refine ⟨kC, c, m, by omega, by rw [hmvd], ?_, hS, fun o ho => GW_iff ⟨fun _ => trivial, fun _ => all o ho⟩ (hW o ho), hA, hD, fun _ _ _ => rfl, fun _ _ => rfl, fun _ _ _ _ => rfl, fun _ _ => rfl, ATn_same (fun _ _ => ⟨rfl, rfl⟩) rfl rfl⟩
    rw [F_X10_step_99_s, if_pos (show iz (((0 : Nat) : Int) - 1) < 0 by decide)]
  | succ q ih =>
    intro kH p kC mvd c m hq hkH hkC hp hS hW hA hD hP hmvd
    obtain ⟨kH, rfl⟩ : ∃ j, kH = j + 1 := ⟨kH - 1, by omega⟩
    have e1 : (((q + 1 : Nat) : Int) - 1) = (q : Int) := by omega
    rw [e1] at hW hP ⊢
    have sw : ∀ o : Nat, o < n → (Pr D g ι (q : Int) M o ↔ Pr D g ι ((q : Int) - 1) 0 o) := fun o ho => by
      have := hι o ho
      unfold Pr
      omega
    obtain ⟨p', kC', c', m', u1, u2, u3, u4, u5, u6, u7, u8, u9, v1, v2, v3, v4, v5⟩ := going N D g l w r ι L W n M od x2 (F_X10_step_99 Z0.1 N kH) hN hG r14 hR hAi o1 o2 o3 (q : Int) ⟨by omega, by omega⟩ M 0 p kC N mvd c m (by omega) (by omega) hkC hp hS hW hA hD hP hmvd
    obtain ⟨kC'', c'', m'', y1, y2, y3, y4, y5, y6, y7, y8, y9, z1, z2, z3⟩ := ih kH p' kC' (SMn m' ι n) c' m' (by omega) (by omega) u1 u2 u5 (fun o ho => GW_iff (sw o ho) (u6 o ho)) u7 u8 (fun o ho => by rw [← sw o ho]; exact u9 o ho) rfl
    refine ⟨kC'', c'', m'', y1, u3.trans y2, ?_, y4, y5, y6, y7, fun x k hx => (y8 x k hx).trans (v1 x k hx), fun x k => (y9 x k).trans (v2 x k), fun x k h1 h2 => (z1 x k h1 h2).trans (v3 x k h1 h2), fun x k => (z2 x k).trans (v4 x k), ATn_trans v5 z3⟩
    rw [F_X10_step_99_s, if_neg (show ¬ iz (q : Int) < 0 from iz_nlt0 ⟨by omega, by omega⟩)]
    exact u4.trans y3
