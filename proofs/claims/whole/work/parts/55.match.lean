/-! match, worth, track -/
theorem fa_eq (dy : DY) (h : filmR dy 35 0) (f a b : Nat) (hf : f < 7) (ha : a < 6) (hb : b < 6) : faM dy f a b = faC dy f a b := by
  have e : ∀ x : Nat, x < 48 → gi dy 37 x = gi dy 526 x ∧ gi dy 38 x = gi dy 527 x := fun x hx => by
    have := h.2 x hx
    rw [Nat.mul_zero, Nat.zero_add] at this
    exact this
  unfold faM faC farI
  rw [(e (6 * f + a) (by omega)).1, (e (6 * f + a) (by omega)).2, (e (6 * (f + 1) + b) (by omega)).1, (e (6 * (f + 1) + b) (by omega)).2]
theorem filmR_of (d e : DY) (h : filmR d 35 0) (s : ∀ x k : Nat, x = 36 ∨ x = 37 ∨ x = 38 ∨ x = 525 ∨ x = 526 ∨ x = 527 → gi e x k = gi d x k) : filmR e 35 0 :=
  ⟨fun x hx => (s 36 x (by decide)).trans ((h.1 x hx).trans (s 525 _ (by decide)).symm), fun x hx => ⟨(s 37 x (by decide)).trans ((h.2 x hx).1.trans (s 526 _ (by decide)).symm), (s 38 x (by decide)).trans ((h.2 x hx).2.trans (s 527 _ (by decide)).symm)⟩⟩
/-- what stays over a match of both sides -/
def stM (d e : DY) : Prop := (∀ x k : Nat, ¬ (x = 510 ∧ (k = 0 ∨ k = 58)) → x ≠ 39 → x ≠ 40 → x ≠ 543 → x ≠ 544 → gi e x k = gi d x k) ∧ ∀ x k : Nat, gl e x k = gl d x k
theorem stM_of (d e1 e2 : DY) (h1 : st40 d e1) (h2 : st43 (si e1 510 0 0) e2) : stM d e2 :=
  ⟨fun x k h0 h3 h4 h5 h6 => by
    rw [h2.1 x k (fun q => h0 ⟨q.1, Or.inr q.2⟩) h5 h6, gi_si_if, if_neg (fun q => h0 ⟨q.1, Or.inl q.2⟩)]
    exact h1.1 x k h3 h4, fun x k => by rw [h2.2, gl_si_eq]; exact h1.2 x k⟩
theorem stM_0 (d : DY) : stM d (si d 510 0 0) :=
  ⟨fun x k h0 _ _ _ _ => by rw [gi_si_if, if_neg (fun q => h0 ⟨q.1, Or.inl q.2⟩)], fun x k => gl_si_eq _ _ _ _ _ _⟩
theorem c_frz (S : ST) (N : Nat) (x b : Int) (dy : DY) (x1 : -2147483648 ≤ x) (x2 : x < 2147483648) (b1 : -2147483648 ≤ b) (b2 : b < 2147483648) : F_X9_isFrame S N (iz x) (iz b) dy = some (if 0 ≤ x ∧ x < b then 1 else 0, dy) := by
  rw [c_frame]
  by_cases h0 : x < 0
  · rw [if_pos (iz_lt0 (by omega)), if_neg (show ¬ (0 ≤ x ∧ x < b) by omega)]
  · rw [if_neg (iz_nlt0 (by omega))]
    by_cases h1 : b ≤ x
    · rw [if_pos (iz_lei (by omega)), if_neg (show ¬ (0 ≤ x ∧ x < b) by omega)]
    · rw [if_neg (iz_nle (by omega)), if_pos (show (0 ≤ x ∧ x < b) by omega)]
theorem c_fr7 (S : ST) (N : Nat) (x : Int) (dy : DY) (x1 : -2147483648 ≤ x) (x2 : x < 2147483648) : F_X9_isFrame S N (iz x) 7 dy = some (if 0 ≤ x ∧ x < 7 then 1 else 0, dy) := c_frz S N x 7 dy x1 x2 (by omega) (by omega)
theorem c_fr8 (S : ST) (N : Nat) (x : Int) (dy : DY) (x1 : -2147483648 ≤ x) (x2 : x < 2147483648) : F_X9_isFrame S N (iz x) 8 dy = some (if 0 ≤ x ∧ x < 8 then 1 else 0, dy) := c_frz S N x 8 dy x1 x2 (by omega) (by omega)
theorem c_price (S : ST) (N : Nat) (x : Int) (dy : DY) (x1 : -2147483648 ≤ x) (x2 : x < 2147483648) : F_X9_isPrice S N (iz x) dy = some (if 0 ≤ x ∧ x ≤ 99 then 1 else 0, dy) := by
  rw [F_X9_isPrice_s]
  by_cases h0 : x < 0
  · rw [if_pos (iz_lt0 (by omega)), if_neg (show ¬ (0 ≤ x ∧ x ≤ 99) by omega)]
  · rw [if_neg (iz_nlt0 (by omega))]
    by_cases h1 : 99 < x
    · rw [if_pos (show (99 : Int32) < iz x from iz_lti (a := 99) (by omega)), if_neg (show ¬ (0 ≤ x ∧ x ≤ 99) by omega)]
    · rw [if_neg (show ¬ (99 : Int32) < iz x from iz_nlt (a := 99) (by omega)), if_pos (show (0 ≤ x ∧ x ≤ 99) by omega)]
theorem m_in06 (S : ST) (N : Nat) (x : Int) (dy : DY) (x1 : -2147483648 ≤ x) (x2 : x < 2147483648) : F_X10_in S N (iz x) 0 6 dy = some (if 0 ≤ x ∧ x ≤ 6 then 1 else 0, dy) := m_inz S N x 0 6 dy x1 x2 (by omega) (by omega) (by omega) (by omega)
theorem m_in099 (S : ST) (N : Nat) (x : Int) (dy : DY) (x1 : -2147483648 ≤ x) (x2 : x < 2147483648) : F_X10_in S N (iz x) 0 99 dy = some (if 0 ≤ x ∧ x ≤ 99 then 1 else 0, dy) := m_inz S N x 0 99 dy x1 x2 (by omega) (by omega) (by omega) (by omega)
theorem m_isMatch (S : ST) (N : Nat) (x y : Int) (dy : DY) (x1 : -2147483648 ≤ x) (x2 : x < 2147483648) (y1 : -2147483648 ≤ y) (y2 : y < 2147483648) : F_X10_isMatch S N (iz x) (iz y) dy = some (if (0 ≤ x ∧ x ≤ 6) ∧ (0 ≤ y ∧ y ≤ 99) then 1 else 0, dy) := by
  rw [F_X10_isMatch_s, m_in06 S N x dy x1 x2, sb_eq]
  by_cases h0 : 0 ≤ x ∧ x ≤ 6
  · rw [if_pos h0, if_neg (by decide : ¬ (1 : Int32) = 0), m_in099 S N y _ y1 y2, sb_eq]
    by_cases h1 : 0 ≤ y ∧ y ≤ 99
    · rw [if_pos h1, if_neg (by decide : ¬ (1 : Int32) = 0), if_pos ⟨h0, h1⟩]
    · rw [if_neg h1, if_pos rfl, if_neg (fun q => h1 q.2)]
  · rw [if_neg h0, if_pos rfl, if_neg (fun q => h0 q.1)]
theorem c_hasF (N f n : Nat) (z : Int) (dy : DY) (hf : f < 8) (hn : gi dy 36 f = iz n) (hn6 : n ≤ 6) (z1 : -2147483648 ≤ z) (z2 : z < 2147483648) : F_X1_has Z0.1 N 35 (iz f) (iz z) dy = some (if 0 ≤ z ∧ z < n then 1 else 0, dy) := by
  rw [F_X1_has_s, if_neg (iz_nlt0 (by omega)), if_neg (show ¬ (8 : Int32) ≤ iz f from iz_nle (a := 8) (by omega))]
  by_cases h0 : z < 0
  · rw [if_pos (iz_lt0 (by omega)), if_neg (show ¬ (0 ≤ z ∧ z < n) by omega)]
  · rw [if_neg (iz_nlt0 (by omega)), if_pos (iz_ib (by omega)), r_35_0, tnn _ f rfl (by omega), hn]
    by_cases h1 : n ≤ z
    · rw [if_pos (iz_lei (by omega)), if_neg (show ¬ (0 ≤ z ∧ z < n) by omega)]
    · rw [if_neg (iz_nle (by omega)), if_pos (show (0 ≤ z ∧ z < n) by omega)]
/-- a match on both sides, from the same film -/
theorem eq_pair (N f n m : Nat) (g : Int32) (dy : DY) (hN : 65 ≤ N) (h1 : filmR dy 35 0) (hf : f < 7) (hn6 : n ≤ 6) (hm : m < 7) (hn : gi dy 36 f = iz n) (hm' : gi dy 36 (f + 1) = iz m) : ∃ v e1 e2, F_X1_pair Z0.1 N 35 (iz f) g dy = some (v, e1) ∧ F_X10_findMatch Z0.1 N 510 (iz f) g (si e1 510 0 0) = some e2 ∧ gi e2 510 58 = v ∧ (∀ h, h < n → gi e2 544 h = gi e1 39 h) ∧ st40 dy e1 ∧ st43 (si e1 510 0 0) e2 := by
  obtain ⟨e1, s1, u1, F1⟩ := c_pair N f n m g dy hN hf hn6 hm hn hm'
  have fx : ∀ x k : Nat, x = 36 ∨ x = 37 ∨ x = 38 ∨ x = 525 ∨ x = 526 ∨ x = 527 → gi (si e1 510 0 0) x k = gi dy x k := fun x k q => by
    rw [gi_si_if, if_neg (by omega)]
    exact s1.1 x k (by omega) (by omega)
  have hR := filmR_of dy (si e1 510 0 0) h1 fx
  have g0 : gi (si e1 510 0 0) 525 f = iz n := by
    have := hR.1 f (by omega)
    rw [Nat.mul_zero, Nat.zero_add] at this
    rw [← this]
    exact (fx 36 f (by decide)).trans hn
  have g1 : gi (si e1 510 0 0) 525 (f + 1) = iz m := by
    have := hR.1 (f + 1) (by omega)
    rw [Nat.mul_zero, Nat.zero_add] at this
    rw [← this]
    exact (fx 36 (f + 1) (by decide)).trans hm'
  obtain ⟨e2, s2, c2, u2, F2⟩ := m_findMatch N f n m g (faC dy f) (si e1 510 0 0) hN hf hn6 hm g0 g1 (fun a b ha hb => by
    rw [fa_eq _ hR f a b hf ha hb]
    unfold faC farI
    rw [fx 37 _ (by decide), fx 37 _ (by decide), fx 38 _ (by decide), fx 38 _ (by decide)])
  exact ⟨_, e1, e2, F1, F2, c2, fun h hh => (u2 h hh).trans (u1 h hh).symm, s1, s2⟩
theorem eq_worth (N : Nat) (a b : Int32) (dy : DY) (hN : 65 ≤ N) (h1 : filmR dy 35 0) (h2 : filmOk dy 35) : ∃ r dy1 dy2, F_X9_worth Z0.1 N 1 a b dy = some (r, dy1) ∧ F_X10_worth Z0.1 N 510 a b dy1 = some (r, dy2) ∧ stM dy dy2 := by
  obtain ⟨za, rfl, a1, a2⟩ := iz_ex a
  obtain ⟨zb, rfl, b1, b2⟩ := iz_ex b
  have n1 : ¬ (1 : Int32) = 0 := by decide
  have hc := F_X9_worth_s Z0.1 N 1 (iz za) (iz zb) dy
  rw [c_fr7 _ _ za dy a1 a2, sb_eq] at hc
  have hM : ∀ d : DY, F_X10_worth Z0.1 N 510 (iz za) (iz zb) d = _ := fun d => by
    rw [F_X10_worth_s, bd_eq, m_isMatch _ _ za zb _ a1 a2 b1 b2, sb_eq]
  by_cases ok : (0 ≤ za ∧ za ≤ 6) ∧ (0 ≤ zb ∧ zb ≤ 99)
  · obtain ⟨f, rfl⟩ : ∃ f : Nat, za = f := ⟨za.toNat, by omega⟩
    obtain ⟨n, hn, hn6⟩ := h2 f (by omega)
    obtain ⟨m, hm, hm6⟩ := h2 (f + 1) (by omega)
    obtain ⟨v, e1, e2, F1, F2, c2, _, s1, s2⟩ := eq_pair N f n m (iz zb) dy hN h1 (by omega) hn6 (by omega) hn hm
    rw [if_pos (show 0 ≤ (f : Int) ∧ (f : Int) < 7 by omega), if_neg n1, c_price _ _ zb _ b1 b2, if_pos ok.2, sb_eq, if_neg n1, r_1_0, r_2_12] at hc
    refine ⟨v, e1, e2, ?_, ?_, stM_of dy e1 e2 s1 s2⟩
    · rw [hc]
      show (F_X1_pair Z0.1 N 35 (iz f) (iz zb) dy).bind _ = _
      rw [F1]
      rfl
    · rw [hM, if_pos ok, if_neg n1]
      show (F_X10_findMatch Z0.1 N 510 (iz f) (iz zb) (si e1 510 0 0)).bind _ = _
      rw [F2, sb_eq, c2]
  · refine ⟨-1, dy, si dy 510 0 0, ?_, ?_, stM_0 dy⟩
    · by_cases k1 : 0 ≤ za ∧ za < 7
      · rw [if_pos k1, if_neg n1, c_price _ _ zb _ b1 b2, if_neg (show ¬ (0 ≤ zb ∧ zb ≤ 99) by omega), sb_eq, if_pos rfl] at hc
        exact hc
      · rw [if_neg k1, if_pos rfl] at hc
        exact hc
    · rw [hM, if_neg ok, if_pos rfl]
theorem eq_match (N : Nat) (a b c : Int32) (dy : DY) (hN : 65 ≤ N) (h1 : filmR dy 35 0) (h2 : filmOk dy 35) : ∃ r dy1 dy2, F_X9_match Z0.1 N 1 a b c dy = some (r, dy1) ∧ F_X10_match Z0.1 N 510 a b c dy1 = some (r, dy2) ∧ stM dy dy2 := by
  obtain ⟨za, rfl, a1, a2⟩ := iz_ex a
  obtain ⟨zb, rfl, b1, b2⟩ := iz_ex b
  obtain ⟨zc, rfl, c1, c2⟩ := iz_ex c
  have n1 : ¬ (1 : Int32) = 0 := by decide
  have hc := F_X9_match_s Z0.1 N 1 (iz za) (iz zb) (iz zc) dy
  rw [c_fr7 _ _ za dy a1 a2, sb_eq] at hc
  have hM : ∀ d : DY, F_X10_match Z0.1 N 510 (iz za) (iz zb) (iz zc) d = _ := fun d => by
    rw [F_X10_match_s, bd_eq, m_isMatch _ _ za zb _ a1 a2 b1 b2, sb_eq]
  by_cases ok : (0 ≤ za ∧ za ≤ 6) ∧ (0 ≤ zb ∧ zb ≤ 99)
  · obtain ⟨f, rfl⟩ : ∃ f : Nat, za = f := ⟨za.toNat, by omega⟩
    obtain ⟨n, hn, hn6⟩ := h2 f (by omega)
    obtain ⟨m, hm, hm6⟩ := h2 (f + 1) (by omega)
    have hn' : gi dy 36 f = iz n := hn
    have e0 : gi dy 525 f = iz n := by
      have := h1.1 f (by omega)
      rw [Nat.mul_zero, Nat.zero_add] at this
      rw [← this]; exact hn
    have mi : ∀ d : DY, gi d 525 f = iz n → F_X10_in Z0.1 N (iz zc) 0 (gi d (gr Z0.1 510 15) (iz (f : Int)).toNatClampNeg - 1) d = some (if 0 ≤ zc ∧ zc ≤ (n : Int) - 1 then 1 else 0, d) := fun d q => by
      rw [r_510_15, tnn _ f rfl (by omega), q, show iz n - (1 : Int32) = iz ((n : Int) - 1) from iz_sub n 1]
      exact m_in0 _ _ _ _ _ c1 c2 (by omega) (by omega)
    rw [if_pos (show 0 ≤ (f : Int) ∧ (f : Int) < 7 by omega), if_neg n1, c_price _ _ zb _ b1 b2, if_pos ok.2, sb_eq, if_neg n1, r_1_0, r_2_12, c_hasF N f n zc _ (by omega) hn' hn6 c1 c2, sb_eq] at hc
    by_cases k : 0 ≤ zc ∧ zc < n
    · obtain ⟨h, rfl⟩ : ∃ h : Nat, zc = h := ⟨zc.toNat, by omega⟩
      obtain ⟨v, e1, e2, F1, F2, _, p2, s1, s2⟩ := eq_pair N f n m (iz zb) dy hN h1 (by omega) hn6 (by omega) hn hm
      rw [if_pos k, if_neg n1] at hc
      refine ⟨gi e1 39 h, e1, e2, ?_, ?_, stM_of dy e1 e2 s1 s2⟩
      · rw [hc]
        show (F_X1_pair Z0.1 N 35 (iz f) (iz zb) dy).bind _ = _
        rw [F1, sb_eq, if_pos (iz_ib (by omega)), r_35_3, tnn _ h rfl (by omega)]
      · rw [hM, if_pos ok, if_neg n1, if_pos (iz_ib (by omega)), mi _ (by
          show gi (si e1 510 0 0) 525 f = iz n
          rw [gi_si_if, if_neg (fun q => absurd q.1 (by decide)), s1.1 525 f (by decide) (by decide)]; exact e0), sb_eq, if_pos (show 0 ≤ (h : Int) ∧ (h : Int) ≤ (n : Int) - 1 by omega), if_neg n1]
        show (F_X10_findMatch Z0.1 N 510 (iz f) (iz zb) (si e1 510 0 0)).bind _ = _
        rw [F2, sb_eq, if_pos (iz_ib (by omega)), r_510_57, tnn _ h rfl (by omega), p2 h (by omega)]
    · rw [if_neg k, if_pos rfl] at hc
      refine ⟨-1, dy, si dy 510 0 0, hc, ?_, stM_0 dy⟩
      rw [hM, if_pos ok, if_neg n1, if_pos (iz_ib (by omega)), mi _ (by
          show gi (si dy 510 0 0) 525 f = iz n
          rw [gi_si_if, if_neg (fun q => absurd q.1 (by decide))]; exact e0), sb_eq, if_neg (show ¬ (0 ≤ zc ∧ zc ≤ (n : Int) - 1) by omega), if_pos rfl]
  · refine ⟨-1, dy, si dy 510 0 0, ?_, ?_, stM_0 dy⟩
    · by_cases k1 : 0 ≤ za ∧ za < 7
      · rw [if_pos k1, if_neg n1, c_price _ _ zb _ b1 b2, if_neg (show ¬ (0 ≤ zb ∧ zb ≤ 99) by omega), sb_eq, if_pos rfl] at hc
        exact hc
      · rw [if_neg k1, if_pos rfl] at hc
        exact hc
    · rw [hM, if_neg ok, if_pos rfl]
def hh (dy : DY) (f : Nat) : Nat := (gi dy 36 f).toNatClampNeg
/-- where a hat comes to, d frames on -/
def trk (dy : DY) (g : Int32) : Nat → Nat → Int32 → Int32
  | 0, _, h => h
  | d + 1, f, h => if h = -1 then -1 else trk dy g d (f + 1) (pp (faC dy f) g (hh dy f) (hh dy (f + 1)) h.toNatClampNeg (gw (faC dy f) g (hh dy f) (hh dy (f + 1)) h.toNatClampNeg))
theorem pp_cases (fa : Nat → Nat → Int32) (g : Int32) (n m h s : Nat) : pp fa g n m h s = -1 ∨ ∃ b : Nat, b < m ∧ pp fa g n m h s = iz b := by
  rcases lpI_cases s (fun b => fa h b + tt fa g n m (n - (h + 1)) (s ||| 2 ^ b)) (tt fa g n m (n - h) s) m m (Nat.le_refl m) with e | ⟨b, hb, _, e⟩
  · exact Or.inl e
  · exact Or.inr ⟨b, hb, e⟩
theorem hh_eq (dy : DY) (h2 : filmOk dy 35) (f : Nat) (hf : f < 8) : gi dy 36 f = iz (hh dy f : Nat) ∧ hh dy f ≤ 6 := by
  obtain ⟨n, hn, hn6⟩ := h2 f hf
  have e : hh dy f = n := by
    unfold hh
    rw [show gi dy 36 f = iz n from hn]
    exact tnn _ n rfl (by omega)
  rw [e]
  exact ⟨hn, hn6⟩
theorem c_trk (N to : Nat) (g : Int32) (d0 : DY) (hN : 65 ≤ N) (ho : filmOk d0 35) (ht : to < 8) : ∀ (d k f : Nat) (dy : DY) (h : Int32), f + d = to → d < k → st40 d0 dy → (h = -1 ∨ ∃ b : Nat, b < hh d0 f ∧ h = iz b) → ∃ e : DY, st40 d0 e ∧ F_X9_track_67 Z0.1 N k 1 g (iz to) h (iz f) dy = some (trk d0 g d f h, e) := by
  intro d
  induction d with
  | zero =>
    intro k f dy h hd hk hst hv
    obtain ⟨k, rfl⟩ : ∃ j, k = j + 1 := ⟨k - 1, by omega⟩
    refine ⟨dy, hst, ?_⟩
    rw [F_X9_track_67_s, if_pos (iz_lei (by omega))]
    rfl
  | succ d ih =>
    intro k f dy h hd hk hst hv
    obtain ⟨k, rfl⟩ : ∃ j, k = j + 1 := ⟨k - 1, by omega⟩
    rw [F_X9_track_67_s, if_neg (show ¬ iz (to : Int) ≤ iz (f : Int) from iz_nle (by omega))]
    by_cases q : h = -1
    · refine ⟨dy, hst, ?_⟩
      rw [if_pos q]
      show _ = some (if h = -1 then -1 else _, dy)
      rw [if_pos q, q]
    · obtain ⟨b, hb, rfl⟩ := hv.resolve_left q
      obtain ⟨hn, hn6⟩ := hh_eq d0 ho f (by omega)
      obtain ⟨hm, hm6⟩ := hh_eq d0 ho (f + 1) (by omega)
      obtain ⟨e1, s1, u1, F1⟩ := c_pair N f (hh d0 f) (hh d0 (f + 1)) g dy hN (by omega) hn6 (by omega) ((hst.1 36 _ (by decide) (by decide)).trans hn) ((hst.1 36 _ (by decide) (by decide)).trans hm)
      have ef : faC dy f = faC d0 f := funext fun a => funext fun b => st40_far d0 dy hst f a b
      rw [ef] at u1 F1
      have s2 : st40 d0 e1 := ⟨fun x k h1 h2 => (s1.1 x k h1 h2).trans (hst.1 x k h1 h2), fun x k => (s1.2 x k).trans (hst.2 x k)⟩
      obtain ⟨e, s3, F2⟩ := ih k (f + 1) e1 (pp (faC d0 f) g (hh d0 f) (hh d0 (f + 1)) b (gw (faC d0 f) g (hh d0 f) (hh d0 (f + 1)) b)) (by omega) (by omega) s2 (pp_cases _ _ _ _ _ _)
      refine ⟨e, s3, ?_⟩
      rw [if_neg q, r_1_0, r_2_12, F1, sb_eq, if_neg (iz_nlt0 (by omega)), if_neg (show ¬ (6 : Int32) ≤ iz b from iz_nle (a := 6) (by omega)), if_pos (iz_ib (by omega)), r_35_3, tnn _ b rfl (by omega), u1 b hb, show iz f + (1 : Int32) = iz ((f + 1 : Nat) : Int) from iz_add f 1]
      show F_X9_track_67 _ _ _ _ _ _ _ _ e1 = some (if iz (b : Int) = -1 then -1 else _, e)
      rw [if_neg q, tnn _ b rfl (by omega)]
      exact F2
theorem m_trk (N to : Nat) (g : Int32) (dF d0 : DY) (hN : 65 ≤ N) (ho : filmOk dF 35) (ht : to < 8) (hh5 : ∀ f : Nat, f < 8 → gi d0 525 f = gi dF 36 f) (hfa : ∀ f a b, f < 7 → a < 6 → b < 6 → faM d0 f a b = faC dF f a b) : ∀ (d k f : Nat) (dy : DY) (h : Int32), f + d = to → d < k → st43 d0 dy → (h = -1 ∨ ∃ b : Nat, b < hh dF f ∧ h = iz b) → ∃ e : DY, st43 d0 e ∧ F_X10_track_60 Z0.1 N k 510 g (iz to) h (iz f) dy = some (trk dF g d f h, e) := by
  intro d
  induction d with
  | zero =>
    intro k f dy h hd hk hst hv
    obtain ⟨k, rfl⟩ : ∃ j, k = j + 1 := ⟨k - 1, by omega⟩
    refine ⟨dy, hst, ?_⟩
    rw [F_X10_track_60_s, if_pos (iz_lei (by omega))]
    rfl
  | succ d ih =>
    intro k f dy h hd hk hst hv
    obtain ⟨k, rfl⟩ : ∃ j, k = j + 1 := ⟨k - 1, by omega⟩
    rw [F_X10_track_60_s, if_neg (show ¬ iz (to : Int) ≤ iz (f : Int) from iz_nle (by omega))]
    by_cases q : h = -1
    · refine ⟨dy, hst, ?_⟩
      rw [if_pos q]
      show _ = some (if h = -1 then -1 else _, dy)
      rw [if_pos q, q]
    · obtain ⟨b, hb, rfl⟩ := hv.resolve_left q
      obtain ⟨hn, hn6⟩ := hh_eq dF ho f (by omega)
      obtain ⟨hm, hm6⟩ := hh_eq dF ho (f + 1) (by omega)
      have g0 : gi dy 525 f = iz (hh dF f : Nat) := (hst.1 525 _ (fun q => absurd q.1 (by decide)) (by decide) (by decide)).trans ((hh5 f (by omega)).trans hn)
      have g1 : gi dy 525 (f + 1) = iz (hh dF (f + 1) : Nat) := (hst.1 525 _ (fun q => absurd q.1 (by decide)) (by decide) (by decide)).trans ((hh5 (f + 1) (by omega)).trans hm)
      obtain ⟨e1, s1, _, u1, F1⟩ := m_findMatch N f (hh dF f) (hh dF (f + 1)) g (faC dF f) dy hN (by omega) hn6 (by omega) g0 g1 (fun a b ha hb => (st43_far d0 dy hst f a b).trans (hfa f a b (by omega) ha hb))
      have s2 : st43 d0 e1 := ⟨fun x k h0 h1 h2 => (s1.1 x k h0 h1 h2).trans (hst.1 x k h0 h1 h2), fun x k => (s1.2 x k).trans (hst.2 x k)⟩
      obtain ⟨e, s3, F2⟩ := ih k (f + 1) e1 (pp (faC dF f) g (hh dF f) (hh dF (f + 1)) b (gw (faC dF f) g (hh dF f) (hh dF (f + 1)) b)) (by omega) (by omega) s2 (pp_cases _ _ _ _ _ _)
      refine ⟨e, s3, ?_⟩
      rw [if_neg q, F1, sb_eq, if_pos (iz_ib (by omega)), r_510_57, tnn _ b rfl (by omega), u1 b hb, show iz f + (1 : Int32) = iz ((f + 1 : Nat) : Int) from iz_add f 1]
      show F_X10_track_60 _ _ _ _ _ _ _ _ e1 = some (if iz (b : Int) = -1 then -1 else _, e)
      rw [if_neg q, tnn _ b rfl (by omega)]
      exact F2
theorem c_trk30_0 (N : Nat) (x1 x2 x3 x4 : Int32) (dy : DY) : F_X9_track_30 Z0.1 N 1 x1 x2 x3 x4 0 dy = some (-1, dy) := by
  rw [F_X9_track_30_s, if_pos rfl]
theorem eq_track (N : Nat) (a b c d : Int32) (dy : DY) (hN : 65 ≤ N) (h1 : filmR dy 35 0) (h2 : filmOk dy 35) : ∃ r dy1 dy2, F_X9_track Z0.1 N 1 a b c d dy = some (r, dy1) ∧ F_X10_track Z0.1 N 510 a b c d dy1 = some (r, dy2) ∧ stM dy dy2 := by
  obtain ⟨za, rfl, a1, a2⟩ := iz_ex a
  obtain ⟨zb, rfl, b1, b2⟩ := iz_ex b
  obtain ⟨zc, rfl, c1, c2⟩ := iz_ex c
  obtain ⟨zd, rfl, d1, d2⟩ := iz_ex d
  have n1 : ¬ (1 : Int32) = 0 := by decide
  have hc := F_X9_track_s Z0.1 N 1 (iz za) (iz zb) (iz zc) (iz zd) dy
  rw [c_fr8 _ _ za dy a1 a2, sb_eq] at hc
  have hM : ∀ e : DY, F_X10_track Z0.1 N 510 (iz za) (iz zb) (iz zc) (iz zd) e = _ := fun e => by
    rw [F_X10_track_s, bd_eq, m_in07 _ _ za _ a1 a2, sb_eq]
  have mi4 : ∀ e : DY, F_X10_in Z0.1 N (iz zd) (iz za) 7 e = some (if za ≤ zd ∧ zd ≤ 7 then 1 else 0, e) := fun e => m_inz _ _ zd za 7 e d1 d2 a1 a2 (by omega) (by omega)
  by_cases k1 : 0 ≤ za ∧ za < 8
  · obtain ⟨f, rfl⟩ : ∃ f : Nat, za = f := ⟨za.toNat, by omega⟩
    obtain ⟨hn, hn6⟩ := hh_eq dy h2 f (by omega)
    have e0 : gi dy 525 f = iz (hh dy f : Nat) := by
      have := h1.1 f (by omega)
      rw [Nat.mul_zero, Nat.zero_add] at this
      rw [← this]; exact hn
    rw [if_pos k1, if_neg n1, c_fr8 _ _ zd _ d1 d2, sb_eq] at hc
    by_cases k2 : (f : Int) ≤ zd ∧ zd ≤ 7
    · rw [if_pos (show 0 ≤ zd ∧ zd < 8 by omega), if_neg n1, if_neg (show ¬ iz zd < iz (f : Int) from iz_nlt (by omega)), F_X9_track_30_s, if_neg n1, c_price _ _ zc _ c1 c2, sb_eq] at hc
      by_cases k3 : 0 ≤ zc ∧ zc ≤ 99
      · rw [if_pos k3, if_neg n1, r_1_0, r_2_12, c_hasF N f (hh dy f) zb _ (by omega) hn hn6 b1 b2, sb_eq] at hc
        have mi : ∀ e : DY, gi e 525 f = iz (hh dy f : Nat) → F_X10_in Z0.1 N (iz zb) 0 (gi e (gr Z0.1 510 15) (iz (f : Int)).toNatClampNeg - 1) e = some (if 0 ≤ zb ∧ zb ≤ (hh dy f : Int) - 1 then 1 else 0, e) := fun e q => by
          rw [r_510_15, tnn _ f rfl (by omega), q, show iz (hh dy f : Nat) - (1 : Int32) = iz ((hh dy f : Int) - 1) from iz_sub _ 1]
          exact m_in0 _ _ _ _ _ b1 b2 (by omega) (by omega)
        by_cases k4 : 0 ≤ zb ∧ zb < hh dy f
        · obtain ⟨h, rfl⟩ : ∃ h : Nat, zb = h := ⟨zb.toNat, by omega⟩
          obtain ⟨to, rfl⟩ : ∃ to : Nat, zd = to := ⟨zd.toNat, by omega⟩
          rw [if_pos k4, if_neg n1] at hc
          obtain ⟨e1, s1, F1⟩ := c_trk N to (iz zc) dy hN h2 (by omega) (to - f) N f dy (iz h) (by omega) (by omega) ⟨fun _ _ _ _ => rfl, fun _ _ => rfl⟩ (Or.inr ⟨h, by omega, rfl⟩)
          have fx : ∀ x k : Nat, x = 36 ∨ x = 37 ∨ x = 38 ∨ x = 525 ∨ x = 526 ∨ x = 527 → gi (si e1 510 0 0) x k = gi dy x k := fun x k q => by
            rw [gi_si_if, if_neg (by omega)]
            exact s1.1 x k (by omega) (by omega)
          have hR := filmR_of dy (si e1 510 0 0) h1 fx
          obtain ⟨e2, s2, F2⟩ := m_trk N to (iz zc) dy (si e1 510 0 0) hN h2 (by omega) (fun f hf => by
            have := hR.1 f hf
            rw [Nat.mul_zero, Nat.zero_add] at this
            rw [← this]
            exact fx 36 f (by decide)) (fun f a b hf ha hb => by
            rw [fa_eq _ hR f a b hf ha hb]
            unfold faC farI
            rw [fx 37 _ (by decide), fx 37 _ (by decide), fx 38 _ (by decide), fx 38 _ (by decide)]) (to - f) N f (si e1 510 0 0) (iz h) (by omega) (by omega) ⟨fun _ _ _ _ _ => rfl, fun _ _ => rfl⟩ (Or.inr ⟨h, by omega, rfl⟩)
          refine ⟨_, e1, e2, hc.trans F1, ?_, stM_of dy e1 e2 s1 s2⟩
          rw [hM, if_pos (show 0 ≤ (f : Int) ∧ (f : Int) ≤ 7 by omega), if_neg n1, mi4, sb_eq, if_pos k2, if_neg n1, m_in099 _ _ zc _ c1 c2, sb_eq, if_pos k3, if_neg n1, if_pos (iz_ib (by omega)), mi _ (by
            show gi (si e1 510 0 0) 525 f = _
            rw [fx 525 f (by decide)]; exact e0), sb_eq, if_pos (show 0 ≤ (h : Int) ∧ (h : Int) ≤ (hh dy f : Int) - 1 by omega), if_neg n1]
          exact F2
        · rw [if_neg k4, if_pos rfl] at hc
          refine ⟨-1, dy, si dy 510 0 0, hc, ?_, stM_0 dy⟩
          rw [hM, if_pos (show 0 ≤ (f : Int) ∧ (f : Int) ≤ 7 by omega), if_neg n1, mi4, sb_eq, if_pos k2, if_neg n1, m_in099 _ _ zc _ c1 c2, sb_eq, if_pos k3, if_neg n1, if_pos (iz_ib (by omega)), mi _ (by
            show gi (si dy 510 0 0) 525 f = _
            rw [gi_si_if, if_neg (fun q => absurd q.1 (by decide))]; exact e0), sb_eq, if_neg (show ¬ (0 ≤ zb ∧ zb ≤ (hh dy f : Int) - 1) by omega), if_pos rfl]
      · rw [if_neg k3, if_pos rfl] at hc
        refine ⟨-1, dy, si dy 510 0 0, hc, ?_, stM_0 dy⟩
        rw [hM, if_pos (show 0 ≤ (f : Int) ∧ (f : Int) ≤ 7 by omega), if_neg n1, mi4, sb_eq, if_pos k2, if_neg n1, m_in099 _ _ zc _ c1 c2, sb_eq, if_neg k3, if_pos rfl]
    · refine ⟨-1, dy, si dy 510 0 0, ?_, ?_, stM_0 dy⟩
      · by_cases k5 : 0 ≤ zd ∧ zd < 8
        · rw [if_pos k5, if_neg n1, if_pos (show iz zd < iz (f : Int) from iz_lti (by omega)), c_trk30_0] at hc
          exact hc
        · rw [if_neg k5, if_pos rfl, c_trk30_0] at hc
          exact hc
      · rw [hM, if_pos (show 0 ≤ (f : Int) ∧ (f : Int) ≤ 7 by omega), if_neg n1, mi4, sb_eq, if_neg k2, if_pos rfl]
  · rw [if_neg k1, if_pos rfl, c_trk30_0] at hc
    refine ⟨-1, dy, si dy 510 0 0, hc, ?_, stM_0 dy⟩
    rw [hM, if_neg (show ¬ (0 ≤ za ∧ za ≤ 7) by omega), if_pos rfl]
