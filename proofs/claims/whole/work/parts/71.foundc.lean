/-! all that the reference finds -/
theorem m_pace {dS : DY} (N : Nat) (d0 d : DY) (g w r : Nat) (ι : Nat → Nat) (L W n M o : Nat) (hv : MV d0 g w r ι L W n M) (ho : o < n) (hk : lkM d0 dS d) : gi d 531 (720 * r + 16 + 20 * ι o + 9) = gi d0 (g + 5) o := by
  obtain ⟨_, _, _, _, _, _, hwk⟩ := hv
  obtain ⟨_, ⟨p, _, _, h1, h2⟩, _⟩ := hwk o ho
  rw [hk.1 531 _ (by decide) (by decide) (by decide), h1, h2]
theorem mw_dirs {d : DY} {g w r : Nat} {ι : Nat → Nat} {L W n M : Nat} (hv : MV d g w r ι L W n M) (i : Nat) (hi : i < n) : gi d (g + 4) i = iz (wyI d g i) ∧ (wyI d g i = 1 ∨ wyI d g i = -1) := by
  obtain ⟨_, _, _, _, _, _, hwk⟩ := hv
  obtain ⟨h, _⟩ := hwk i hi
  unfold wyI
  rcases h with ⟨e, _⟩ | ⟨e, _⟩
  · rw [e]; exact ⟨rfl, Or.inl rfl⟩
  · rw [e]; exact ⟨rfl, Or.inr rfl⟩
theorem m_ahead {dS : DY} (N : Nat) (d0 d : DY) (g w r : Nat) (ι : Nat → Nat) (L W n M i : Nat) (a m : Int) (hN : 40 ≤ N) (hv : MV d0 g w r ι L W n M) (hi : i < n) (hk : lkM d0 dS d) (hs : SEEN d0 d g w i ι n M) (hp : inS L W (cx d0 w 0 i) (cy d0 w 0 i)) (hF : FSt d0 g w L W n i (wyI d0 g i) 0 a m) : ∃ e : DY, lkM d0 dS e ∧ SEEN d0 e g w i ι n M ∧ gi e 510 42 = iz (mι ι m) ∧ F_X10_freeOn Z0.1 N 510 (iz r) (iz (ι i : Nat)) (gi d0 (g + 4) i) 0 9 d = some (iz a, e) := by
  obtain ⟨w1, w2⟩ := mw_dirs hv i hi
  rw [w1]
  exact m_free N d0 d g w r ι L W n M i (wyI d0 g i) 0 a m hN hv hi hk hs (by unfold dirs; omega) hp hF 9 (Or.inl ⟨rfl, rfl⟩)
theorem mι_cases {d : DY} {g w L W n i : Nat} {dx dy a m : Int} (ι : Nat → Nat) (h : FSt d g w L W n i dx dy a m) : (m = -1 ∧ mι ι m = -1) ∨ ∃ o : Nat, o < n ∧ m = o ∧ mι ι m = (ι o : Nat) := by
  rcases FSt_m h with h | ⟨o, h1, h2⟩
  · exact Or.inl ⟨h, by unfold mι; rw [if_pos h]⟩
  · refine Or.inr ⟨o, h1, h2, ?_⟩
    unfold mι
    rw [if_neg (by omega), h2, Int.toNat_natCast]
theorem m_facing {dS : DY} (N : Nat) (d0 d : DY) (g w r : Nat) (ι : Nat → Nat) (L W n M i : Nat) (a m : Int) (hN : 40 ≤ N) (hv : MV d0 g w r ι L W n M) (hi : i < n) (hk : lkM d0 dS d) (hs : SEEN d0 d g w i ι n M) (hp : inS L W (cx d0 w 0 i) (cy d0 w 0 i)) (hF : FSt d0 g w L W n i (wyI d0 g i) 0 a m) : ∃ e : DY, lkM d0 dS e ∧ SEEN d0 e g w i ι n M ∧ F_X10_isFacing Z0.1 N 510 (iz r) (iz (ι i : Nat)) d = some (facI d0 g i m, e) := by
  obtain ⟨e, k1, k2, k3, k4⟩ := m_ahead N d0 d g w r ι L W n M i a m hN hv hi hk hs hp hF
  have hM := hv.1.2.2.2.2
  refine ⟨e, k1, k2, ?_⟩
  rw [F_X10_isFacing_s]
  refine bnd (m_way N d0 d g w r ι L W n M i hv hi hk) ?_
  refine bnd k4 ?_
  show (if gi e 510 42 = -1 then _ else _) = _
  rw [k3]
  unfold facI
  rcases mι_cases ι hF with ⟨z1, z2⟩ | ⟨o, z0, z1, z2⟩
  · rw [z2, if_pos (show iz (-1) = -1 from rfl), if_pos z1]
  · have hιo := hv.2.2.2.1.1 o z0
    rw [z2, if_neg (show ¬ iz (ι o : Nat) = -1 from iz_nei (b := -1) (by omega)), if_neg (by omega)]
    refine bnd (m_way N d0 e g w r ι L W n M o hv z0 k1) ?_
    refine bnd (m_way N d0 e g w r ι L W n M i hv hi k1) ?_
    show (if gi d0 (g + 4) o = gi d0 (g + 4) i then _ else _) = _
    rw [z1, Int.toNat_natCast]
    by_cases c : gi d0 (g + 4) o = gi d0 (g + 4) i
    · rw [if_pos c, if_pos c]
    · rw [if_neg c, if_neg c]
theorem m_s91 (S : ST) (N : Nat) (x3 x4 x5 y0 : Int32) (dy : DY) : F_X10_soonBy_91 S N x3 x4 x5 y0 dy = some (if y0 ≤ 0 then 99 else if (x3 * x4 * x5) / y0 < 99 then (x3 * x4 * x5) / y0 else 99, dy) := by
  rw [F_X10_soonBy_91_s]
  by_cases c : y0 ≤ 0
  · rw [if_pos c, if_pos c, F_X10_soonBy_113_s, if_pos (by decide)]
  · rw [if_neg c, if_neg c, if_neg (fun z => c (by rw [z]; exact Int32.le_refl _)), F_X10_soonBy_113_s]
    by_cases q : (x3 * x4 * x5) / y0 < 99
    · rw [if_pos q, if_neg (Int32.not_le.mpr q)]
    · rw [if_neg q, if_pos (Int32.not_lt.mp q)]
theorem m_soon {dS : DY} (N : Nat) (d0 d : DY) (g w r : Nat) (ι : Nat → Nat) (L W n M i : Nat) (a m : Int) (hN : 40 ≤ N) (hv : MV d0 g w r ι L W n M) (hi : i < n) (hk : lkM d0 dS d) (hs : SEEN d0 d g w i ι n M) (hp : inS L W (cx d0 w 0 i) (cy d0 w 0 i)) (hF : FSt d0 g w L W n i (wyI d0 g i) 0 a m) : ∃ e : DY, lkM d0 dS e ∧ SEEN d0 e g w i ι n M ∧ F_X10_soonBy Z0.1 N 510 (iz r) (iz (ι i : Nat)) d = some (sooI d0 g i a m, e) := by
  obtain ⟨e, k1, k2, k3, k4⟩ := m_ahead N d0 d g w r ι L W n M i a m hN hv hi hk hs hp hF
  have hb := hv.1
  have hιi := hv.2.2.2.1.1 i hi
  refine ⟨e, k1, k2, ?_⟩
  rw [F_X10_soonBy_s]
  refine bnd (m_way N d0 d g w r ι L W n M i hv hi hk) ?_
  refine bnd k4 ?_
  show (if gi e 510 42 = -1 then _ else _) = _
  rw [k3]
  unfold sooI
  rcases mι_cases ι hF with ⟨z1, z2⟩ | ⟨o, z0, z1, z2⟩
  · rw [z2, if_pos (show iz (-1) = -1 from rfl), if_pos z1]
  · have hιo := hv.2.2.2.1.1 o z0
    have pi := m_pace N d0 e g w r ι L W n M i hv hi k1
    have po := m_pace N d0 e g w r ι L W n M o hv z0 k1
    have b1 : iz ((720 * r + 16 + 20 * ι i : Nat) : Int) + (9 : Int32) = iz ((720 * r + 16 + 20 * ι i + 9 : Nat) : Int) := iz_add _ 9
    have b2 : iz ((720 * r + 16 + 20 * ι o : Nat) : Int) + (9 : Int32) = iz ((720 * r + 16 + 20 * ι o + 9 : Nat) : Int) := iz_add _ 9
    have j1 := ibr (720 * r + 16 + 20 * ι i + 9) (by omega)
    have j2 := ibr (720 * r + 16 + 20 * ι o + 9) (by omega)
    have t1 : (iz ((720 * r + 16 + 20 * ι i + 9 : Nat) : Int)).toNatClampNeg = 720 * r + 16 + 20 * ι i + 9 := tnn _ _ rfl (by omega)
    have t2 : (iz ((720 * r + 16 + 20 * ι o + 9 : Nat) : Int)).toNatClampNeg = 720 * r + 16 + 20 * ι o + 9 := tnn _ _ rfl (by omega)
    have e42 : gi e 510 42 = iz (ι o : Nat) := by rw [k3, z2]
    rw [z2, if_neg (show ¬ iz (ι o : Nat) = -1 from iz_nei (b := -1) (by omega)), if_neg (show ¬ m = -1 by omega), r_510_39]
    refine bnd (m_at _ _ r (ι i) e) ?_
    show (if ib (iz ((720 * r + 16 + 20 * ι i : Nat) : Int) + (9 : Int32)) 10080 then _ else _) = _
    rw [b1, if_pos j1, t1]
    refine bnd (show F_X10_at Z0.1 N (iz r) (gi e 510 42) e = _ from by rw [e42]; exact m_at _ _ r (ι o) e) ?_
    show (if ib (iz ((720 * r + 16 + 20 * ι o : Nat) : Int) + (9 : Int32)) 10080 then _ else _) = _
    rw [b2, if_pos j2, t2]
    refine bnd (m_way N d0 e g w r ι L W n M i hv hi k1) ?_
    refine bnd (show F_X10_way Z0.1 N 510 (iz r) (gi e 510 42) e = _ from by rw [e42]; exact m_way N d0 e g w r ι L W n M o hv z0 k1) ?_
    show (if gi d0 (g + 4) i = gi d0 (g + 4) o then _ else _) = _
    have tm : m.toNat = o := by rw [z1, Int.toNat_natCast]
    rw [tm]
    show (if gi d0 (g + 4) i = gi d0 (g + 4) o then F_X10_soonBy_91 Z0.1 N (iz a) (gi e 531 (720 * r + 16 + 20 * ι i + 9)) (gi e 531 (720 * r + 16 + 20 * ι o + 9)) (gi e 531 (720 * r + 16 + 20 * ι o + 9) - gi e 531 (720 * r + 16 + 20 * ι i + 9)) e else F_X10_soonBy_91 Z0.1 N (iz a) (gi e 531 (720 * r + 16 + 20 * ι i + 9)) (gi e 531 (720 * r + 16 + 20 * ι o + 9)) (gi e 531 (720 * r + 16 + 20 * ι i + 9) + gi e 531 (720 * r + 16 + 20 * ι o + 9)) e) = _
    rw [pi, po, m_s91, m_s91]
    unfold soonI
    have fc : facI d0 g i m = if gi d0 (g + 4) o = gi d0 (g + 4) i then 0 else 1 := by
      unfold facI
      rw [if_neg (by omega), tm]
    by_cases c : gi d0 (g + 4) i = gi d0 (g + 4) o
    · have fz : facI d0 g i m = 0 := by rw [fc, if_pos c.symm]
      rw [if_pos c, fz, if_pos rfl]
    · have fz : facI d0 g i m = 1 := by rw [fc, if_neg (fun z => c z.symm)]
      rw [if_neg c, fz, if_neg (show ¬ (1 : Int32) = 0 from by decide)]
theorem m_found {dS : DY} (N : Nat) (d0 d : DY) (g w r : Nat) (ι : Nat → Nat) (L W n M i : Nat) (v : Nat → Int32) (hN : 40 ≤ N) (hv : MV d0 g w r ι L W n M) (hi : i < n) (hk : lkM d0 dS d) (hs : SEEN d0 d g w i ι n M) (hp : inS L W (cx d0 w 0 i) (cy d0 w 0 i)) (hf : FRI d0 g r ι n M i) (h18 : gi d0 531 (720 * r + 16 + 20 * ι i + 18) = gi d0 (w + 7) i) (h11 : gi d0 531 (720 * r + 16 + 20 * ι i + 11) = gi d0 (g + 7) i) (hS : SGT d0 g w L W n i v) (wh : Nat) (hw : wh ≤ 10) : ∃ e : DY, lkM d0 dS e ∧ SEEN d0 e g w i ι n M ∧ F_X10_found Z0.1 N 510 (iz r) (iz (ι i : Nat)) (iz wh) d = some (v wh, e) := by
  obtain ⟨a, m, ar, mr, al, ml, f1, f2, f3, v0, v1, v2, v3, v4, v5, v6, v7, v8, v9, v10⟩ := hS
  have hb := hv.1
  have hιi := hv.2.2.2.1.1 i hi
  obtain ⟨w1, w2⟩ := mw_dirs hv i hi
  have ne : ∀ x y : Nat, x ≤ 10 → y ≤ 10 → x ≠ y → ¬ iz (x : Int) = iz (y : Int) := fun x y _ _ _ => iz_nei (by omega)
  have W0 : wh = 0 ∨ wh = 1 ∨ wh = 2 ∨ wh = 3 ∨ wh = 4 ∨ wh = 5 ∨ wh = 6 ∨ wh = 7 ∨ wh = 8 ∨ wh = 9 ∨ wh = 10 := by omega
  have hwy := m_way N d0 d g w r ι L W n M i hv hi hk
  have hat := m_at Z0.1 N r (ι i) d
  have d1 : dirs 0 (wyI d0 g i) := by unfold dirs; omega
  have d2 : dirs 0 (-(wyI d0 g i)) := by unfold dirs; omega
  rcases W0 with rfl | rfl | rfl | rfl | rfl | rfl | rfl | rfl | rfl | rfl | rfl
  · obtain ⟨e, k1, k2, k3, k4⟩ := m_ahead N d0 d g w r ι L W n M i a m hN hv hi hk hs hp f1
    refine ⟨e, k1, k2, ?_⟩
    rw [F_X10_found_s, v0]
    refine bnd hat ?_
    rw [if_pos (by decide)]
    refine bnd hwy ?_
    refine bnd k4 rfl
  · obtain ⟨e, k1, k2, k3⟩ := m_soon N d0 d g w r ι L W n M i a m hN hv hi hk hs hp f1
    refine ⟨e, k1, k2, ?_⟩
    rw [F_X10_found_s, v1]
    refine bnd hat ?_
    rw [if_neg (by decide), if_pos (by decide)]
    refine bnd k3 rfl
  · refine ⟨d, hk, hs, ?_⟩
    rw [F_X10_found_s, v2]
    refine bnd hat ?_
    rw [if_neg (by decide), if_neg (by decide), if_pos (by decide)]
    refine bnd (m_nearBy N d0 d g w r ι L W n M i 0 (by omega) hv hi hk hs) ?_
    rw [if_pos rfl]
  · obtain ⟨e, k1, k2, k3, k4⟩ := m_free N d0 d g w r ι L W n M i 0 (wyI d0 g i) ar mr hN hv hi hk hs d1 hp f2 (-1) (Or.inr ⟨by omega, rfl⟩)
    refine ⟨e, k1, k2, ?_⟩
    rw [F_X10_found_s, v3]
    refine bnd hat ?_
    rw [if_neg (by decide), if_neg (by decide), if_neg (by decide), if_pos (by decide)]
    refine bnd hwy ?_
    rw [← w1] at k4
    refine bnd k4 rfl
  · obtain ⟨e, k1, k2, k3, k4⟩ := m_free N d0 d g w r ι L W n M i 0 (-(wyI d0 g i)) al ml hN hv hi hk hs d2 hp f3 (-1) (Or.inr ⟨by omega, rfl⟩)
    refine ⟨e, k1, k2, ?_⟩
    rw [F_X10_found_s, v4]
    refine bnd hat ?_
    rw [if_neg (by decide), if_neg (by decide), if_neg (by decide), if_neg (by decide), if_pos (by decide)]
    refine bnd hwy ?_
    rw [← iz_neg, ← w1] at k4
    refine bnd k4 rfl
  · refine ⟨d, hk, hs, ?_⟩
    rw [F_X10_found_s, v5]
    refine bnd hat ?_
    have b1 : iz ((720 * r + 16 + 20 * ι i : Nat) : Int) + (18 : Int32) = iz ((720 * r + 16 + 20 * ι i + 18 : Nat) : Int) := iz_add _ 18
    rw [if_neg (by decide), if_neg (by decide), if_neg (by decide), if_neg (by decide), if_neg (by decide), if_pos (by decide)]
    show (if ib (iz ((720 * r + 16 + 20 * ι i : Nat) : Int) + (18 : Int32)) 10080 then some (gi d (gr Z0.1 510 39) (iz ((720 * r + 16 + 20 * ι i : Nat) : Int) + (18 : Int32)).toNatClampNeg, d) else none) = _
    rw [b1, if_pos (ibr _ (by omega)), r_510_39, tnn _ (720 * r + 16 + 20 * ι i + 18) rfl (by omega), hk.1 531 _ (by decide) (by decide) (by decide), h18]
  · refine ⟨d, hk, hs, ?_⟩
    rw [F_X10_found_s, v6]
    refine bnd hat ?_
    have b1 : iz ((720 * r + 16 + 20 * ι i : Nat) : Int) + (11 : Int32) = iz ((720 * r + 16 + 20 * ι i + 11 : Nat) : Int) := iz_add _ 11
    rw [if_neg (by decide), if_neg (by decide), if_neg (by decide), if_neg (by decide), if_neg (by decide), if_neg (by decide), if_pos (by decide)]
    show (if ib (iz ((720 * r + 16 + 20 * ι i : Nat) : Int) + (11 : Int32)) 10080 then some (gi d (gr Z0.1 510 39) (iz ((720 * r + 16 + 20 * ι i : Nat) : Int) + (11 : Int32)).toNatClampNeg, d) else none) = _
    rw [b1, if_pos (ibr _ (by omega)), r_510_39, tnn _ (720 * r + 16 + 20 * ι i + 11) rfl (by omega), hk.1 531 _ (by decide) (by decide) (by decide), h11]
  · refine ⟨d, hk, hs, ?_⟩
    rw [F_X10_found_s, v7]
    refine bnd hat ?_
    rw [if_neg (by decide), if_neg (by decide), if_neg (by decide), if_neg (by decide), if_neg (by decide), if_neg (by decide), if_neg (by decide), if_pos (by decide)]
    refine bnd (m_nearBy N d0 d g w r ι L W n M i 1 (by omega) hv hi hk hs) ?_
    rw [if_neg (by decide)]
  · obtain ⟨e, k1, k2, k3, k4⟩ := m_ahead N d0 d g w r ι L W n M i a m hN hv hi hk hs hp f1
    have ha := FSt_a f1
    refine ⟨e, k1, k2, ?_⟩
    rw [F_X10_found_s, v8]
    refine bnd hat ?_
    rw [if_neg (by decide), if_neg (by decide), if_neg (by decide), if_neg (by decide), if_neg (by decide), if_neg (by decide), if_neg (by decide), if_neg (by decide), if_pos (by decide)]
    refine bnd hwy ?_
    refine bnd k4 ?_
    show (if iz a = 0 then _ else _) = _
    by_cases q : a = 0
    · rw [if_pos (show iz a = 0 from by rw [q]; rfl), if_pos q]
    · rw [if_neg (show ¬ iz a = 0 from iz_nei (b := 0) (by omega)), if_neg q]
  · obtain ⟨e, k1, k2, k3⟩ := m_facing N d0 d g w r ι L W n M i a m hN hv hi hk hs hp f1
    refine ⟨e, k1, k2, ?_⟩
    rw [F_X10_found_s, v9]
    refine bnd hat ?_
    rw [if_neg (by decide), if_neg (by decide), if_neg (by decide), if_neg (by decide), if_neg (by decide), if_neg (by decide), if_neg (by decide), if_neg (by decide), if_neg (by decide), if_pos (by decide)]
    refine bnd k3 ?_
    show (if facI d0 g i m = 0 then _ else _) = _
    by_cases q : facI d0 g i m = 0
    · rw [if_pos q, q]
    · have q1 : facI d0 g i m = 1 := by
        unfold facI at q ⊢
        by_cases z : m = -1
        · rw [if_pos z] at q; exact absurd rfl q
        · rw [if_neg z] at q ⊢
          by_cases z2 : gi d0 (g + 4) m.toNat = gi d0 (g + 4) i
          · rw [if_pos z2] at q; exact absurd rfl q
          · rw [if_neg z2]
      rw [if_neg q, q1]
  · obtain ⟨u, u1, u2⟩ := m_parted N d0 d g w r ι L W n M i hv hi hk hs hf
    have uv : u = v 10 := by
      rcases u2 with ⟨x1, x2⟩ | ⟨x1, x2⟩
      · rcases v10 with ⟨y1, y2⟩ | ⟨y1, y2⟩
        · rw [x1, y1]
        · obtain ⟨q, q1, q2⟩ := x2
          exact absurd q2 (y2 q q1)
      · rcases v10 with ⟨y1, q, q1, q2⟩ | ⟨y1, y2⟩
        · exact absurd q2 (x2 q q1)
        · rw [x1, y1]
    refine ⟨d, hk, hs, ?_⟩
    rw [F_X10_found_s]
    refine bnd hat ?_
    rw [if_neg (by decide), if_neg (by decide), if_neg (by decide), if_neg (by decide), if_neg (by decide), if_neg (by decide), if_neg (by decide), if_neg (by decide), if_neg (by decide), if_neg (by decide)]
    refine bnd u1 ?_
    show (if u = 0 then _ else _) = _
    rw [← uv]
    rcases u2 with ⟨x1, _⟩ | ⟨x1, _⟩
    · rw [x1, if_neg (by decide)]
    · rw [x1, if_pos rfl]
