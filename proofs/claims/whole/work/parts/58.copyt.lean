/-! a Told's copy in the class -/
theorem blk_on {fl : List Nat} {cl : List (Nat × Nat)} {d e e' : DY} {b b' h lo hi : Nat} (hc : ∀ p ∈ cl, p.1 ≤ h) (q : blk fl cl b b' d e) (h2 : Fr lo hi e e') (hb : b' + h < lo ∨ hi < b') : blk fl cl b b' d e' :=
  ⟨fun f hf => (h2.1 b' f (by omega)).trans (q.1 f hf), fun p hp k hk => by
    have := hc p hp
    exact (h2.1 _ k (by omega)).trans (q.2 p hp k hk)⟩
theorem blk_pre {fl : List Nat} {cl : List (Nat × Nat)} {d d' e : DY} {b b' h lo hi : Nat} (hc : ∀ p ∈ cl, p.1 ≤ h) (q : blk fl cl b b' d' e) (h1 : Fr lo hi d d') (ha : b + h < lo ∨ hi < b) : blk fl cl b b' d e :=
  ⟨fun f hf => (q.1 f hf).trans (h1.1 b f (by omega)), fun p hp k hk => by
    have := hc p hp
    exact (q.2 p hp k hk).trans (h1.1 _ k (by omega))⟩
/-- all of a Told, the same as another's -/
def told (d e : DY) (t t' : Nat) : Prop := (∀ f ∈ [1, 2, 3, 5, 7, 11], gi e t' f = gi d t f) ∧ (∀ k : Nat, k < 500 → gi e (t' + 1) k = gi d (t + 1) k) ∧ blk pF pC (t + 4) (t' + 4) d e ∧ blk lF lC (t + 14) (t' + 14) d e ∧ blk wF wC (t + 21) (t' + 21) d e ∧ blk [] fC (t + 33) (t' + 33) d e ∧ (blk pF pC (t + 39) (t' + 39) d e ∧ blk pF pC (t + 56) (t' + 56) d e ∧ blk pF pC (t + 73) (t' + 73) d e) ∧ blk lF lC (t + 49) (t' + 49) d e ∧ blk lF lC (t + 66) (t' + 66) d e ∧ blk lF lC (t + 83) (t' + 83) d e
theorem tb_in : ∀ t ∈ TB, (t + 4 ∈ PB ∧ t + 39 ∈ PB ∧ t + 56 ∈ PB ∧ t + 73 ∈ PB) ∧ (t + 14 ∈ LB ∧ t + 49 ∈ LB ∧ t + 66 ∈ LB ∧ t + 83 ∈ LB) ∧ t + 21 ∈ WB ∧ t + 33 ∈ FB := by decide
theorem nr3_b (x : Int32) (h : x = 0 ∨ x = 1) : nr 3 x = x := by
  rcases h with rfl | rfl <;> decide
theorem zb_b (x : Int32) (h : x = 0 ∨ x = 1) : zb x := by
  rcases h with rfl | rfl <;> decide
theorem bnd {α β : Type} {x : Option α} {v : α} {f : α → Option β} {r : Option β} (h : x = some v) (h2 : f v = r) : x.bind f = r := by rw [h]; exact h2
theorem c_t42 (N k i t t' : Nat) (dy e1 e2 : DY) (hi : i < 3) (ht : t ∈ TB) (ht' : t' ∈ TB) (E1 : F_X4_copyFrom Z0.1 N (t' + 39 + 17 * i) (t + 39 + 17 * i) dy = some e1) (E2 : F_X2_copyFrom Z0.1 N (t' + 49 + 17 * i) (t + 49 + 17 * i) e1 = some e2) : F_X7_copyFrom_42 Z0.1 N (k + 1) t' t (iz i) dy = F_X7_copyFrom_42 Z0.1 N k t' t (iz ((i + 1 : Nat) : Int)) e2 := by
  obtain ⟨r0, r4, r6, r8, r9, r10, r12⟩ := tb_of t ht
  obtain ⟨s0, s4, s6, s8, s9, s10, s12⟩ := tb_of t' ht'
  have g1 : gr Z0.1 (gr Z0.1 t' 4) (iz (i : Int)).toNatClampNeg = t' + 39 + 17 * i := by
    rw [s4, tnn _ i rfl (by omega)]
    obtain ⟨v0, v1, v2⟩ := tb_pas t' ht'
    have : i = 0 ∨ i = 1 ∨ i = 2 := by omega
    rcases this with rfl | rfl | rfl
    · rw [v0]
    · rw [v1]
    · rw [v2]
  have g2 : gr Z0.1 (gr Z0.1 t 4) (iz (i : Int)).toNatClampNeg = t + 39 + 17 * i := by
    rw [r4, tnn _ i rfl (by omega)]
    obtain ⟨v0, v1, v2⟩ := tb_pas t ht
    have : i = 0 ∨ i = 1 ∨ i = 2 := by omega
    rcases this with rfl | rfl | rfl
    · rw [v0]
    · rw [v1]
    · rw [v2]
  have g3 : gr Z0.1 (gr Z0.1 t' 6) (iz (i : Int)).toNatClampNeg = t' + 49 + 17 * i := by
    rw [s6, tnn _ i rfl (by omega)]
    obtain ⟨v0, v1, v2⟩ := tb_lws t' ht'
    have : i = 0 ∨ i = 1 ∨ i = 2 := by omega
    rcases this with rfl | rfl | rfl
    · rw [v0]
    · rw [v1]
    · rw [v2]
  have g4 : gr Z0.1 (gr Z0.1 t 6) (iz (i : Int)).toNatClampNeg = t + 49 + 17 * i := by
    rw [r6, tnn _ i rfl (by omega)]
    obtain ⟨v0, v1, v2⟩ := tb_lws t ht
    have : i = 0 ∨ i = 1 ∨ i = 2 := by omega
    rcases this with rfl | rfl | rfl
    · rw [v0]
    · rw [v1]
    · rw [v2]
  have ii : ib (iz (i : Int)) 3 := iz_ib (by omega)
  rw [F_X7_copyFrom_42_s, if_neg (show ¬ (3 : Int32) ≤ iz (i : Int) from iz_nle (a := 3) (by omega)), if_pos ii, if_pos ii]
  refine bnd (v := e1) (by rw [g1, g2]; exact E1) ?_
  show (if ib (iz (i : Int)) 3 then _ else _) = _
  rw [if_pos ii, if_pos ii]
  refine bnd (v := e2) (by rw [g3, g4]; exact E2) ?_
  show F_X7_copyFrom_42 _ _ _ _ _ (iz (i : Int) + 1) _ = _
  rw [show iz (i : Int) + (1 : Int32) = iz ((i + 1 : Nat) : Int) from iz_add i 1]
theorem c_t42e (N k t t' : Nat) (dy e1 e2 e3 e4 : DY) (ht : t ∈ TB) (ht' : t' ∈ TB) (hw : gi e3 t 11 = 0 ∨ gi e3 t 11 = 1) (E1 : F_X4_copyFrom Z0.1 N (t' + 4) (t + 4) (sfold [5, 7] t t' dy) = some e1) (E2 : F_X2_copyFrom Z0.1 N (t' + 14) (t + 14) e1 = some e2) (E3 : F_X8_copyFrom Z0.1 N (t' + 21) (t + 21) e2 = some e3) (E4 : F_X1_copyFrom Z0.1 N (t' + 33) (t + 33) (si e3 t' 11 (gi e3 t 11)) = some e4) : F_X7_copyFrom_42 Z0.1 N (k + 1) t' t 3 dy = some e4 := by
  obtain ⟨r0, r4, r6, r8, r9, r10, r12⟩ := tb_of t ht
  obtain ⟨s0, s4, s6, s8, s9, s10, s12⟩ := tb_of t' ht'
  have n11 : nr 3 (gi e3 t 11) = gi e3 t 11 := nr3_b _ hw
  rw [F_X7_copyFrom_42_s, if_pos (Int32.le_refl _), bd_eq, bd_eq]
  refine bnd (v := e1) (by rw [s8, r8]; exact E1) ?_
  refine bnd (v := e2) (by rw [s9, r9]; exact E2) ?_
  refine bnd (v := e3) (by rw [s10, r10]; exact E3) ?_
  show (if zb (nr 3 (gi e3 t 11)) then _ else _) = _
  rw [n11, if_pos (zb_b _ hw), bd_eq]
  refine bnd (v := e4) (by rw [s12, r12]; exact E4) ?_
  rfl
theorem c_tcopy (N t t' : Nat) (dy : DY) (hN : 4 ≤ N) (ht : t ∈ TB) (ht' : t' ∈ TB) (hd : t + 89 < t' ∨ t' + 89 < t) (hw : gi dy t 11 = 0 ∨ gi dy t 11 = 1) : ∃ e, F_X7_copyFrom Z0.1 N t' t dy = some e ∧ told dy e t t' ∧ Fr t' (t' + 89) dy e := by
  obtain ⟨k, rfl⟩ : ∃ j, N = j + 4 := ⟨N - 4, by omega⟩
  obtain ⟨⟨a4, a39, a56, a73⟩, ⟨a14, a49, a66, a83⟩, a21, a33⟩ := tb_in t ht
  obtain ⟨⟨b4, b39, b56, b73⟩, ⟨b14, b49, b66, b83⟩, b21, b33⟩ := tb_in t' ht'
  obtain ⟨r0, r4, r6, r8, r9, r10, r12⟩ := tb_of t ht
  obtain ⟨s0, s4, s6, s8, s9, s10, s12⟩ := tb_of t' ht'
  have hE : ∀ d : DY, (∀ p ∈ pC, p.1 ≤ 9) ∧ (∀ p ∈ lC, p.1 ≤ 6) ∧ (∀ p ∈ wC, p.1 ≤ 11) ∧ (∀ p ∈ fC, p.1 ≤ 3) := fun _ => by decide
  obtain ⟨hp, hl, hwc, hf⟩ := hE dy
  obtain ⟨e1, g1⟩ : ∃ e1, e1 = cpi dy (t + 1) (t' + 1) 0 0 500 := ⟨_, rfl⟩
  obtain ⟨e2, g2⟩ : ∃ e2, e2 = sfold [1, 2, 3] t t' e1 := ⟨_, rfl⟩
  have F1 : Fr (t' + 1) (t' + 1) dy e1 := by rw [g1]; exact ⟨fun x k h => by rw [gi_cpi_if, if_neg (by omega)], fun _ _ => rfl⟩
  have F2 : Fr t' t' e1 e2 := by rw [g2]; exact ⟨fun x k h => by rw [gi_sfold _ _ (by omega), if_neg (by omega)], fun x k => gl_sfold _ _ _ _ _ _⟩
  have P2 : Fr t' (t' + 89) dy e2 := Fr_trans F1 F2 _ _ (by omega) (by omega)
  obtain ⟨e3, E3, B3, F3⟩ := c_pcopy (k + 4) (t + 39) (t' + 39) e2 a39 b39 (by omega)
  have P3 : Fr t' (t' + 89) dy e3 := Fr_trans P2 F3 _ _ (by omega) (by omega)
  obtain ⟨e4, E4, B4, F4⟩ := c_lcopy (k + 4) (t + 49) (t' + 49) e3 a49 b49 (by omega)
  have P4 : Fr t' (t' + 89) dy e4 := Fr_trans P3 F4 _ _ (by omega) (by omega)
  obtain ⟨e5, E5, B5, F5⟩ := c_pcopy (k + 4) (t + 56) (t' + 56) e4 a56 b56 (by omega)
  have P5 : Fr t' (t' + 89) dy e5 := Fr_trans P4 F5 _ _ (by omega) (by omega)
  obtain ⟨e6, E6, B6, F6⟩ := c_lcopy (k + 4) (t + 66) (t' + 66) e5 a66 b66 (by omega)
  have P6 : Fr t' (t' + 89) dy e6 := Fr_trans P5 F6 _ _ (by omega) (by omega)
  obtain ⟨e7, E7, B7, F7⟩ := c_pcopy (k + 4) (t + 73) (t' + 73) e6 a73 b73 (by omega)
  have P7 : Fr t' (t' + 89) dy e7 := Fr_trans P6 F7 _ _ (by omega) (by omega)
  obtain ⟨e8, E8, B8, F8⟩ := c_lcopy (k + 4) (t + 83) (t' + 83) e7 a83 b83 (by omega)
  have P8 : Fr t' (t' + 89) dy e8 := Fr_trans P7 F8 _ _ (by omega) (by omega)
  obtain ⟨e9, g9⟩ : ∃ e9, e9 = sfold [5, 7] t t' e8 := ⟨_, rfl⟩
  have F9 : Fr t' t' e8 e9 := by rw [g9]; exact ⟨fun x k h => by rw [gi_sfold _ _ (by omega), if_neg (by omega)], fun x k => gl_sfold _ _ _ _ _ _⟩
  have P9 : Fr t' (t' + 89) dy e9 := Fr_trans P8 F9 _ _ (by omega) (by omega)
  obtain ⟨e10, E10, B10, F10⟩ := c_pcopy (k + 4) (t + 4) (t' + 4) e9 a4 b4 (by omega)
  have P10 : Fr t' (t' + 89) dy e10 := Fr_trans P9 F10 _ _ (by omega) (by omega)
  obtain ⟨e11, E11, B11, F11⟩ := c_lcopy (k + 4) (t + 14) (t' + 14) e10 a14 b14 (by omega)
  have P11 : Fr t' (t' + 89) dy e11 := Fr_trans P10 F11 _ _ (by omega) (by omega)
  obtain ⟨e12, E12, B12, F12⟩ := c_wcopy (k + 4) (t + 21) (t' + 21) e11 a21 b21 (by omega)
  have P12 : Fr t' (t' + 89) dy e12 := Fr_trans P11 F12 _ _ (by omega) (by omega)
  have h11 : gi e12 t 11 = gi dy t 11 := P12.1 t 11 (by omega)
  obtain ⟨e13, g13⟩ : ∃ e13, e13 = si e12 t' 11 (gi dy t 11) := ⟨_, rfl⟩
  have F13 : Fr t' t' e12 e13 := by rw [g13]; exact Fr_si _ _ _ _ _ _ ⟨Nat.le_refl _, Nat.le_refl _⟩
  have P13 : Fr t' (t' + 89) dy e13 := Fr_trans P12 F13 _ _ (by omega) (by omega)
  obtain ⟨e14, E14, B14, F14⟩ := c_fcopy (k + 4) (t + 33) (t' + 33) e13 a33 b33 (by omega)
  have P14 : Fr t' (t' + 89) dy e14 := Fr_trans P13 F14 _ _ (by omega) (by omega)
  refine ⟨e14, ?_, ⟨?_, ?_, ?_⟩, P14⟩
  · have q0 := c_t42 (k + 4) (k + 3) 0 t t' e2 e3 e4 (by omega) ht ht' E3 E4
    have q1 := c_t42 (k + 4) (k + 2) 1 t t' e4 e5 e6 (by omega) ht ht' E5 E6
    have q2 := c_t42 (k + 4) (k + 1) 2 t t' e6 e7 e8 (by omega) ht ht' E7 E8
    have q3 := c_t42e (k + 4) k t t' e8 e10 e11 e12 e14 ht ht' (by rw [h11]; exact hw) (by rw [← g9]; exact E10) E11 E12 (by rw [h11, ← g13]; exact E14)
    rw [F_X7_copyFrom_s, if_pos (by decide), bd_eq, bd_eq, bd_eq, bd_eq, r0, s0]
    show F_X7_copyFrom_42 Z0.1 (k + 4) (k + 3 + 1) t' t 0 (sfold [1, 2, 3] t t' (cpi dy (t + 1) (t' + 1) 0 0 500)) = _
    rw [← g1, ← g2]
    exact q0.trans (q1.trans (q2.trans q3))
  · have x14 : ∀ f, gi e14 t' f = gi e13 t' f := fun f => F14.1 t' f (by omega)
    have x13 : ∀ f, gi e13 t' f = if f = 11 then gi dy t 11 else gi e12 t' f := fun f => by
      rw [g13, gi_si_if]
      by_cases q : f = 11
      · rw [if_pos ⟨rfl, q⟩, if_pos q]
      · rw [if_neg (fun z => q z.2), if_neg q]
    have x12 : ∀ f, gi e12 t' f = gi e9 t' f := fun f => (F12.1 t' f (by omega)).trans ((F11.1 t' f (by omega)).trans (F10.1 t' f (by omega)))
    have x9 : ∀ f, gi e9 t' f = if f ∈ [5, 7] then gi e8 t f else gi e8 t' f := fun f => by
      rw [g9, gi_sfold _ _ (by omega)]
      by_cases q : f ∈ [5, 7]
      · rw [if_pos ⟨rfl, q⟩, if_pos q]
      · rw [if_neg (fun z => q z.2), if_neg q]
    have x8 : ∀ f, gi e8 t' f = gi e2 t' f := fun f => (F8.1 t' f (by omega)).trans ((F7.1 t' f (by omega)).trans ((F6.1 t' f (by omega)).trans ((F5.1 t' f (by omega)).trans ((F4.1 t' f (by omega)).trans (F3.1 t' f (by omega))))))
    have x2 : ∀ f, gi e2 t' f = if f ∈ [1, 2, 3] then gi e1 t f else gi e1 t' f := fun f => by
      rw [g2, gi_sfold _ _ (by omega)]
      by_cases q : f ∈ [1, 2, 3]
      · rw [if_pos ⟨rfl, q⟩, if_pos q]
      · rw [if_neg (fun z => q z.2), if_neg q]
    have y8 : ∀ f, gi e8 t f = gi dy t f := fun f => P8.1 t f (by omega)
    have y1 : ∀ f, gi e1 t f = gi dy t f := fun f => F1.1 t f (by omega)
    have m : ∀ f ∈ [1, 2, 3, 5, 7, 11], f = 11 ∨ (¬ f = 11 ∧ f ∈ [5, 7]) ∨ (¬ f = 11 ∧ ¬ f ∈ [5, 7] ∧ f ∈ [1, 2, 3]) := by decide
    intro f hf
    rcases m f hf with q | ⟨q1, q2⟩ | ⟨q1, q2, q3⟩
    · rw [x14, x13, if_pos q, q]
    · rw [x14, x13, if_neg q1, x12, x9, if_pos q2, y8]
    · rw [x14, x13, if_neg q1, x12, x9, if_neg q2, x8, x2, if_pos q3, y1]
  · intro j hj
    have f14 := F14.1 (t' + 1) j (by omega)
    have f13 := F13.1 (t' + 1) j (by omega)
    have f12 := F12.1 (t' + 1) j (by omega)
    have f11 := F11.1 (t' + 1) j (by omega)
    have f10 := F10.1 (t' + 1) j (by omega)
    have f9 := F9.1 (t' + 1) j (by omega)
    have f8 := F8.1 (t' + 1) j (by omega)
    have f7 := F7.1 (t' + 1) j (by omega)
    have f6 := F6.1 (t' + 1) j (by omega)
    have f5 := F5.1 (t' + 1) j (by omega)
    have f4 := F4.1 (t' + 1) j (by omega)
    have f3 := F3.1 (t' + 1) j (by omega)
    have f2 := F2.1 (t' + 1) j (by omega)
    rw [f14, f13, f12, f11, f10, f9, f8, f7, f6, f5, f4, f3, f2, g1, gi_cpi_if, if_pos (by omega), Nat.zero_add, Nat.sub_zero]
  · refine ⟨?_, ?_, ?_, ?_, ⟨?_, ?_, ?_⟩, ?_, ?_, ?_⟩
    · exact (blk_on hp (blk_on hp (blk_on hp (blk_on hp (blk_pre hp B10 P9 (by omega)) F11 (by omega)) F12 (by omega)) F13 (by omega)) F14 (by omega))
    · exact (blk_on hl (blk_on hl (blk_on hl (blk_pre hl B11 P10 (by omega)) F12 (by omega)) F13 (by omega)) F14 (by omega))
    · exact (blk_on hwc (blk_on hwc (blk_pre hwc B12 P11 (by omega)) F13 (by omega)) F14 (by omega))
    · exact (blk_pre hf B14 P13 (by omega))
    · exact (blk_on hp (blk_on hp (blk_on hp (blk_on hp (blk_on hp (blk_on hp (blk_on hp (blk_on hp (blk_on hp (blk_on hp (blk_on hp (blk_pre hp B3 P2 (by omega)) F4 (by omega)) F5 (by omega)) F6 (by omega)) F7 (by omega)) F8 (by omega)) F9 (by omega)) F10 (by omega)) F11 (by omega)) F12 (by omega)) F13 (by omega)) F14 (by omega))
    · exact (blk_on hp (blk_on hp (blk_on hp (blk_on hp (blk_on hp (blk_on hp (blk_on hp (blk_on hp (blk_on hp (blk_pre hp B5 P4 (by omega)) F6 (by omega)) F7 (by omega)) F8 (by omega)) F9 (by omega)) F10 (by omega)) F11 (by omega)) F12 (by omega)) F13 (by omega)) F14 (by omega))
    · exact (blk_on hp (blk_on hp (blk_on hp (blk_on hp (blk_on hp (blk_on hp (blk_on hp (blk_pre hp B7 P6 (by omega)) F8 (by omega)) F9 (by omega)) F10 (by omega)) F11 (by omega)) F12 (by omega)) F13 (by omega)) F14 (by omega))
    · exact (blk_on hl (blk_on hl (blk_on hl (blk_on hl (blk_on hl (blk_on hl (blk_on hl (blk_on hl (blk_on hl (blk_on hl (blk_pre hl B4 P3 (by omega)) F5 (by omega)) F6 (by omega)) F7 (by omega)) F8 (by omega)) F9 (by omega)) F10 (by omega)) F11 (by omega)) F12 (by omega)) F13 (by omega)) F14 (by omega))
    · exact (blk_on hl (blk_on hl (blk_on hl (blk_on hl (blk_on hl (blk_on hl (blk_on hl (blk_on hl (blk_pre hl B6 P5 (by omega)) F7 (by omega)) F8 (by omega)) F9 (by omega)) F10 (by omega)) F11 (by omega)) F12 (by omega)) F13 (by omega)) F14 (by omega))
    · exact (blk_on hl (blk_on hl (blk_on hl (blk_on hl (blk_on hl (blk_on hl (blk_pre hl B8 P7 (by omega)) F9 (by omega)) F10 (by omega)) F11 (by omega)) F12 (by omega)) F13 (by omega)) F14 (by omega))
