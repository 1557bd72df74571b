/-! what the reference finds -/
def mι (ι : Nat → Nat) (m : Int) : Int := if m = -1 then -1 else (ι m.toNat : Nat)
theorem m_f34run {dS : DY} (N : Nat) (d0 : DY) (g w r : Nat) (ι : Nat → Nat) (L W n M i : Nat) (dx dy x0 y0 : Int) (x5 : Int32) (hN : 20 ≤ N) (hv : MV d0 g w r ι L W n M) (hi : i < n) (hd : dirs dx dy) (hp : inS L W x0 y0) : ∀ (k f : Nat) (d : DY), k ≤ 15 → lkM d0 dS d → SEEN d0 d g w i ι n M → gi d 510 42 = -1 → (∀ j : Nat, 1 ≤ j → j ≤ k → inS L W (x0 + (j : Int) * dx) (y0 + (j : Int) * dy) ∧ ¬ wlP d0 g (x0 + (j : Int) * dx) (y0 + (j : Int) * dy) ∧ ∀ o : Nat, o < n → ¬ occ d0 g w i o (x0 + (j : Int) * dx) (y0 + (j : Int) * dy)) → ∃ e : DY, lkM d0 dS e ∧ SEEN d0 e g w i ι n M ∧ gi e 510 42 = -1 ∧ F_X10_freeOn_34 Z0.1 N (f + k) 510 (iz r) (iz (ι i : Nat)) (iz dx) (iz dy) x5 (iz (x0 + ((0 : Nat) : Int) * dx)) (iz (y0 + ((0 : Nat) : Int) * dy)) (iz ((0 : Nat) : Int)) d = F_X10_freeOn_34 Z0.1 N f 510 (iz r) (iz (ι i : Nat)) (iz dx) (iz dy) x5 (iz (x0 + (k : Int) * dx)) (iz (y0 + (k : Int) * dy)) (iz k) e := by
  intro k
  induction k with
  | zero => exact fun f d _ h1 h2 h3 _ => ⟨d, h1, h2, h3, rfl⟩
  | succ k ih =>
    intro f d hk h1 h2 h3 h4
    obtain ⟨e, k1, k2, k3, k4⟩ := ih (f + 1) d (by omega) h1 h2 h3 (fun j j1 j2 => h4 j j1 (by omega))
    obtain ⟨u1, u2, u3⟩ := h4 (k + 1) (by omega) (by omega)
    have st := m_f34 N d0 e g w r ι L W n M i k f dx dy x0 y0 x5 hN hv hi k1 k2 hd hp (by omega) u1 u2 u3
    refine ⟨si e 510 42 (-1), lkM_510 k1 _ _, SEEN_510 k2 _ _, by rw [gi_si_if, if_pos ⟨rfl, rfl⟩], ?_⟩
    rw [show f + (k + 1) = f + 1 + k by omega]
    exact k4.trans st
theorem m_free {dS : DY} (N : Nat) (d0 d : DY) (g w r : Nat) (ι : Nat → Nat) (L W n M i : Nat) (dx dy a m : Int) (hN : 40 ≤ N) (hv : MV d0 g w r ι L W n M) (hi : i < n) (hk : lkM d0 dS d) (hs : SEEN d0 d g w i ι n M) (hd : dirs dx dy) (hp : inS L W (cx d0 w 0 i) (cy d0 w 0 i)) (hF : FSt d0 g w L W n i dx dy a m) (x5 : Int) (h5 : dy = 0 ∧ x5 = 9 ∨ dy ≠ 0 ∧ x5 = -1) : ∃ e : DY, lkM d0 dS e ∧ SEEN d0 e g w i ι n M ∧ gi e 510 42 = iz (mι ι m) ∧ F_X10_freeOn Z0.1 N 510 (iz r) (iz (ι i : Nat)) (iz dx) (iz dy) (iz x5) d = some (iz a, e) := by
  have hv' := hv
  obtain ⟨⟨r14, L16, W6, n12, M12⟩, _, _, ⟨hι, hmono⟩, _, hpos, hwk⟩ := hv'
  obtain ⟨_, _, _, la3⟩ := hwk i hi
  have hιi := hι i hi
  obtain ⟨p1, p2, _⟩ := hpos 0 i (by omega) hi
  rw [Nat.add_zero] at p1 p2
  obtain ⟨s, V, ⟨s1, s2, s3⟩, s16, ⟨V1, V2⟩, hr⟩ := hF
  have hp' := hp
  unfold inS at hp'
  obtain ⟨N', rfl⟩ : ∃ j, N = j + 20 := ⟨N - 20, by omega⟩
  have c0 := lkM_510 hk 42 (-1)
  have S0 := SEEN_510 hs 42 (-1)
  have e0 : ∀ r', F_X10_freeOn_34 Z0.1 (N' + 20) (N' + 20) 510 (iz r) (iz (ι i : Nat)) (iz dx) (iz dy) (iz x5) (iz (cx d0 w 0 i + ((0 : Nat) : Int) * dx)) (iz (cy d0 w 0 i + ((0 : Nat) : Int) * dy)) (iz ((0 : Nat) : Int)) (si d 510 42 (-1)) = r' → F_X10_freeOn Z0.1 (N' + 20) 510 (iz r) (iz (ι i : Nat)) (iz dx) (iz dy) (iz x5) d = r' := fun r' h => by
    rw [F_X10_freeOn_s]
    refine bnd (m_at _ _ r (ι i) _) ?_
    show (if ib (iz ((720 * r + 16 + 20 * ι i : Nat) : Int)) 10080 then _ else _) = _
    rw [if_pos (ibr _ (by omega))]
    refine bnd (m_at _ _ r (ι i) _) ?_
    have a4 : iz ((720 * r + 16 + 20 * ι i : Nat) : Int) + (4 : Int32) = iz ((720 * r + 16 + 20 * ι i + 4 : Nat) : Int) := iz_add _ 4
    show (if ib (iz ((720 * r + 16 + 20 * ι i : Nat) : Int) + (4 : Int32)) 10080 then _ else _) = _
    rw [a4, if_pos (ibr _ (by omega)), bd_eq, r_510_39, tnn _ (720 * r + 16 + 20 * ι i) rfl (by omega), tnn _ (720 * r + 16 + 20 * ι i + 4) rfl (by omega)]
    show F_X10_freeOn_34 Z0.1 (N' + 20) (N' + 20) 510 (iz r) (iz (ι i : Nat)) (iz dx) (iz dy) (iz x5) (gi d 531 (720 * r + 16 + 20 * ι i)) (gi d 531 (720 * r + 16 + 20 * ι i + 4)) 0 (si d 510 42 (-1)) = _
    rw [hk.1 531 _ (by decide) (by decide) (by decide), hk.1 531 _ (by decide) (by decide) (by decide), p1, p2]
    rw [show cx d0 w 0 i + ((0 : Nat) : Int) * dx = cx d0 w 0 i by omega, show cy d0 w 0 i + ((0 : Nat) : Int) * dy = cy d0 w 0 i by omega] at h
    exact h
  have m42 : gi (si d 510 42 (-1)) 510 42 = -1 := rfl
  rcases hr with ⟨rfl, ha, hno⟩ | ⟨o, b, on, b1, bV, b20, rfl, ha, oo, hno, hfi⟩
  · obtain ⟨k, rfl⟩ : ∃ k, s = k + 1 := ⟨s - 1, by omega⟩
    have hVs : ((k + 1 : Nat) : Int) ≤ V := by
      by_cases q : inS L W (cx d0 w 0 i + ((k + 1 : Nat) : Int) * dx) (cy d0 w 0 i + ((k + 1 : Nat) : Int) * dy)
      · have := V1 q; omega
      · have := V2 q
        by_cases q2 : dy = 0
        · rw [if_pos q2] at this; omega
        · rw [if_neg q2] at this; omega
    obtain ⟨e, k1, k2, k3, k4⟩ := m_f34run (N' + 20) d0 g w r ι L W n M i dx dy (cx d0 w 0 i) (cy d0 w 0 i) (iz x5) (by omega) hv hi hd hp k (N' + (19 - k) + 1) (si d 510 42 (-1)) (by omega) c0 S0 m42 (fun j j1 j2 => ⟨(s2 j j1 (by omega)).1, (s2 j j1 (by omega)).2, fun o ho => hno o ho j j1 (by omega)⟩)
    obtain ⟨f1, f2, _⟩ := m_f34e (N' + 20) d0 e g w r ι L W n M i k (N' + (19 - k)) dx dy (cx d0 w 0 i) (cy d0 w 0 i) x5 (by omega) hv hi k1 k2 hd hp (by omega) k3
    rw [show N' + (19 - k) + 1 + k = N' + 20 by omega] at k4
    refine ⟨e, k1, k2, k3, e0 _ (k4.trans ?_)⟩
    by_cases q : inS L W (cx d0 w 0 i + ((k + 1 : Nat) : Int) * dx) (cy d0 w 0 i + ((k + 1 : Nat) : Int) * dy)
    · have hV := V1 q
      have hw := s3.resolve_left (fun z => z q)
      rw [f2 q hw, ha, hV, show ((k + 1 : Nat) : Int) - 1 = k by omega]
    · have hV := V2 q
      rcases h5 with ⟨q2, q3⟩ | ⟨q2, q3⟩
      · rw [if_pos q2] at hV
        rw [f1 q (Or.inr q3), ha, hV, q3]
        rfl
      · rw [if_neg q2] at hV
        rw [f1 q (Or.inl q3), ha, hV, q3, if_pos rfl, show ((k + 1 : Nat) : Int) - 1 = k by omega]
        have kb : (k : Int) < 9 := by
          rcases Nat.eq_zero_or_pos k with z | z
          · omega
          · have := (s2 k z (by omega)).1
            unfold inS at this
            rcases hd with ⟨rfl, rfl⟩ | ⟨rfl, rfl⟩ | ⟨rfl, rfl⟩ | ⟨rfl, rfl⟩ <;> omega
        unfold min9
        rw [if_pos kb]
  · obtain ⟨k, rfl⟩ : ∃ k, b = k + 1 := ⟨b - 1, by omega⟩
    obtain ⟨_, u1, u2, u3⟩ := oo
    obtain ⟨_, _, p3⟩ := hpos (lt d0 g i) o (by omega) on
    have ins : inS L W (cx d0 w 0 i + ((k + 1 : Nat) : Int) * dx) (cy d0 w 0 i + ((k + 1 : Nat) : Int) * dy) := by
      rw [← u1, ← u2]
      rcases p3 with z | z
      · exact absurd z.1 u3
      · exact z
    have bs : k + 1 < s := by
      rcases Nat.lt_or_ge (k + 1) s with z | z
      · exact z
      · exfalso
        by_cases q : inS L W (cx d0 w 0 i + (s : Int) * dx) (cy d0 w 0 i + (s : Int) * dy)
        · have := V1 q; omega
        · have q2 := q
          unfold inS at ins q2
          rcases hd with ⟨rfl, rfl⟩ | ⟨rfl, rfl⟩ | ⟨rfl, rfl⟩ | ⟨rfl, rfl⟩ <;> omega
    obtain ⟨e, k1, k2, k3, k4⟩ := m_f34run (N' + 20) d0 g w r ι L W n M i dx dy (cx d0 w 0 i) (cy d0 w 0 i) (iz x5) (by omega) hv hi hd hp k (N' + (19 - k) + 1) (si d 510 42 (-1)) (by omega) c0 S0 m42 (fun j j1 j2 => ⟨(s2 j j1 (by omega)).1, (s2 j j1 (by omega)).2, fun o ho => hno o ho j j1 (by omega)⟩)
    obtain ⟨_, _, f3⟩ := m_f34e (N' + 20) d0 e g w r ι L W n M i k (N' + (19 - k)) dx dy (cx d0 w 0 i) (cy d0 w 0 i) x5 (by omega) hv hi k1 k2 hd hp (by omega) k3
    rw [show N' + (19 - k) + 1 + k = N' + 20 by omega] at k4
    refine ⟨si e 510 42 (iz (ι o : Nat)), lkM_510 k1 _ _, SEEN_510 k2 _ _, ?_, e0 _ (k4.trans ?_)⟩
    · rw [gi_si_if, if_pos ⟨rfl, rfl⟩]
      unfold mι
      rw [if_neg (by omega), Int.toNat_natCast]
    · rw [f3 ins (s2 (k + 1) (by omega) bs).2 o on ⟨by assumption, u1, u2, u3⟩ hfi, ha, show ((k + 1 : Nat) : Int) - 1 = k by omega]
theorem m_way {dS : DY} (N : Nat) (d0 d : DY) (g w r : Nat) (ι : Nat → Nat) (L W n M o : Nat) (hv : MV d0 g w r ι L W n M) (ho : o < n) (hk : lkM d0 dS d) : F_X10_way Z0.1 N 510 (iz r) (iz (ι o : Nat)) d = some (gi d0 (g + 4) o, d) := by
  obtain ⟨⟨r14, L16, W6, n12, M12⟩, _, _, ⟨hι, hmono⟩, _, hpos, hwk⟩ := hv
  obtain ⟨h, _⟩ := hwk o ho
  have hιo := hι o ho
  have a8 : iz ((720 * r + 16 + 20 * ι o : Nat) : Int) + (8 : Int32) = iz ((720 * r + 16 + 20 * ι o + 8 : Nat) : Int) := iz_add _ 8
  rw [F_X10_way_s]
  refine bnd (m_at _ _ r (ι o) _) ?_
  show (if ib (iz ((720 * r + 16 + 20 * ι o : Nat) : Int) + (8 : Int32)) 10080 then _ else _) = _
  rw [a8, if_pos (ibr _ (by omega)), r_510_39, tnn _ (720 * r + 16 + 20 * ι o + 8) rfl (by omega)]
  show (if gi d 531 (720 * r + 16 + 20 * ι o + 8) = 1 then _ else _) = _
  rw [hk.1 531 _ (by decide) (by decide) (by decide)]
  rcases h with ⟨h1, h2⟩ | ⟨h1, h2⟩
  · rw [h1, h2, if_pos rfl]
  · rw [h1, h2, if_neg (by decide)]
theorem m_dist (N : Nat) (d0 d : DY) (g w r : Nat) (ι : Nat → Nat) (L W n M i o : Nat) (hv : MV d0 g w r ι L W n M) (hi : i < n) (ho : o < n) (hoi : o ≠ i) (hs : SEEN d0 d g w i ι n M) : F_X10_distance Z0.1 N 510 (iz (ι i : Nat)) (iz (ι o : Nat)) d = some (iz ((dsN d0 g w i o : Nat) : Int), d) := by
  obtain ⟨⟨r14, L16, W6, n12, M12⟩, _, _, ⟨hι, hmono⟩, _, hpos, hwk⟩ := hv
  obtain ⟨_, _, _, la3⟩ := hwk i hi
  obtain ⟨s1, ⟨s2, s2'⟩, s3⟩ := hs
  obtain ⟨u1, u2⟩ := s1 o ho hoi
  have hιo := hι o ho
  have hιi := hι i hi
  obtain ⟨_, _, p3⟩ := hpos (lt d0 g i) o (by omega) ho
  obtain ⟨_, _, p4⟩ := hpos 0 i (by omega) hi
  unfold inS at p3 p4
  have i1 : ib (iz (ι i : Nat)) 12 := iz_ib (by omega)
  have i2 : ib (iz (ι o : Nat)) 12 := iz_ib (by omega)
  have t1 : (iz (ι i : Nat)).toNatClampNeg = ι i := tnn _ _ rfl (by omega)
  have t2 : (iz (ι o : Nat)).toNatClampNeg = ι o := tnn _ _ rfl (by omega)
  have h39 : ∀ x y : Int, -60 ≤ x ∧ x ≤ 60 → -60 ≤ y ∧ y ≤ 60 → F_X10_distance_39 Z0.1 N (iz x) (iz y) d = some (iz (y + (x.natAbs : Int)), d) := fun x y hx hy => by
    rw [F_X10_distance_39_s]
    by_cases q : 0 ≤ x
    · rw [if_pos (show (0 : Int32) ≤ iz x from iz_lei (a := 0) (by omega)), iz_add, show y + x = y + (x.natAbs : Int) by omega]
    · rw [if_neg (show ¬ (0 : Int32) ≤ iz x from iz_nle (a := 0) (by omega)), iz_neg, iz_add, show y + -x = y + (x.natAbs : Int) by omega]
  rw [F_X10_distance_s, if_pos i1, if_pos i2, if_pos i1, if_pos i2, r_510_40, r_510_41, t1, t2, s2, s2', u1, u2, iz_sub, iz_sub]
  by_cases q : 0 ≤ cx d0 w 0 i - cx d0 w (lt d0 g i) o
  · rw [if_pos (show (0 : Int32) ≤ iz (cx d0 w 0 i - cx d0 w (lt d0 g i) o) from iz_lei (a := 0) (by omega)), h39 _ _ (by omega) (by omega)]
    refine congrArg (fun z => some (iz z, d)) ?_
    unfold dsN
    omega
  · rw [if_neg (show ¬ (0 : Int32) ≤ iz (cx d0 w 0 i - cx d0 w (lt d0 g i) o) from iz_nle (a := 0) (by omega)), iz_neg, h39 _ _ (by omega) (by omega)]
    refine congrArg (fun z => some (iz z, d)) ?_
    unfold dsN
    omega
