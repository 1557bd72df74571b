/-! what a walker sees: the reference's side -/
/-- what the reference's look may change -/
def lkM (d s e : DY) : Prop := (∀ x k : Nat, 510 < x → x ≠ 532 → x ≠ 533 → gi e x k = gi d x k) ∧ (∀ x k : Nat, ¬ (x = 510 ∧ k = 42) → x ≠ 532 → x ≠ 533 → gi e x k = gi s x k) ∧ ∀ x k : Nat, gl e x k = gl s x k
theorem lkM_510 {d s e : DY} (h : lkM d s e) (k : Nat) (v : Int32) (hk : k = 42 := by rfl) : lkM d s (si e 510 k v) :=
  ⟨fun x j h0 h1 h2 => by rw [gi_si_if, if_neg (by omega)]; exact h.1 x j h0 h1 h2, fun x j h0 h1 h2 => by rw [gi_si_if, if_neg (fun q => h0 ⟨q.1, q.2.trans hk⟩)]; exact h.2.1 x j h0 h1 h2, fun x j => h.2.2 x j⟩
theorem lkM_532 {d s e : DY} (h : lkM d s e) (k : Nat) (v : Int32) : lkM d s (si e 532 k v) :=
  ⟨fun x j h0 h1 h2 => by rw [gi_si_if, if_neg (fun q => h1 q.1)]; exact h.1 x j h0 h1 h2, fun x j h0 h1 h2 => by rw [gi_si_if, if_neg (fun q => h1 q.1)]; exact h.2.1 x j h0 h1 h2, fun x j => h.2.2 x j⟩
theorem lkM_533 {d s e : DY} (h : lkM d s e) (k : Nat) (v : Int32) : lkM d s (si e 533 k v) :=
  ⟨fun x j h0 h1 h2 => by rw [gi_si_if, if_neg (fun q => h2 q.1)]; exact h.1 x j h0 h1 h2, fun x j h0 h1 h2 => by rw [gi_si_if, if_neg (fun q => h2 q.1)]; exact h.2.1 x j h0 h1 h2, fun x j => h.2.2 x j⟩
/-- the reference's half of the bonds of a walk, read by the class's cells -/
def MV (d : DY) (g w r : Nat) (ι : Nat → Nat) (L W n M : Nat) : Prop := (r < 14 ∧ L ≤ 16 ∧ W ≤ 6 ∧ n ≤ 12 ∧ M ≤ 12) ∧ (gi d 531 (720 * r) = iz L ∧ gi d 531 (720 * r + 1) = iz W ∧ gi d 531 (720 * r + 2) = iz M) ∧ (∀ i : Nat, i < 96 → gi d (g + 1) i = gi d 531 (720 * r + 256 + i) ∧ (gi d (g + 1) i = 0 ∨ gi d (g + 1) i = 1)) ∧ ((∀ i : Nat, i < n → ι i < M) ∧ (∀ i j : Nat, i < j → j < n → ι i < ι j)) ∧ (∀ m : Nat, m < M → (∀ i : Nat, i < n → ι i ≠ m) → ∀ t : Nat, t < 4 → gi d 531 (720 * r + 16 + 20 * m + t) = -1 ∧ gi d 531 (720 * r + 16 + 20 * m + 4 + t) = -1) ∧ (∀ t i : Nat, t < 4 → i < n → gi d 531 (720 * r + 16 + 20 * ι i + t) = iz (cx d w t i) ∧ gi d 531 (720 * r + 16 + 20 * ι i + 4 + t) = iz (cy d w t i) ∧ (cx d w t i = -1 ∧ cy d w t i = -1 ∨ inS L W (cx d w t i) (cy d w t i))) ∧ ∀ i : Nat, i < n → (gi d (g + 4) i = 1 ∧ gi d 531 (720 * r + 16 + 20 * ι i + 8) = 1 ∨ gi d (g + 4) i = -1 ∧ gi d 531 (720 * r + 16 + 20 * ι i + 8) = 0) ∧ (∃ p : Nat, 1 ≤ p ∧ p ≤ 4 ∧ gi d (g + 5) i = iz p ∧ gi d 531 (720 * r + 16 + 20 * ι i + 9) = iz p) ∧ (gi d 531 (720 * r + 16 + 20 * ι i + 10) = iz (lt d g i : Nat) ∧ lt d g i ≤ 3)
theorem m_at (S : ST) (N r m : Nat) (dy : DY) : F_X10_at S N (iz r) (iz m) dy = some (iz ((720 * r + 16 + 20 * m : Nat) : Int), dy) := by
  rw [F_X10_at_s, show (720 : Int32) = iz 720 from rfl, l_16, l_20, iz_mul, iz_mul, iz_add, iz_add]
  rfl
theorem m_row (r k : Nat) : (720 : Int32) * iz (r : Int) + iz (k : Int) = iz ((720 * r + k : Nat) : Int) := by
  rw [show (720 : Int32) = iz 720 from rfl, iz_mul, iz_add]
  rfl
theorem m_row0 (r : Nat) : (720 : Int32) * iz (r : Int) + 0 = iz ((720 * r : Nat) : Int) := m_row r 0
theorem m_row1 (r : Nat) : (720 : Int32) * iz (r : Int) + 1 = iz ((720 * r + 1 : Nat) : Int) := m_row r 1
theorem m_row2 (r : Nat) : (720 : Int32) * iz (r : Int) + 2 = iz ((720 * r + 2 : Nat) : Int) := m_row r 2
theorem m_row3 (r : Nat) : (720 : Int32) * iz (r : Int) + 3 = iz ((720 * r + 3 : Nat) : Int) := m_row r 3
theorem ibr (k : Nat) (h : k < 10080) : ib (iz ((k : Nat) : Int)) 10080 := iz_ib (by omega)
theorem m_inside {dS : DY} (N : Nat) (d0 d : DY) (g w r : Nat) (ι : Nat → Nat) (L W n M : Nat) (X Y : Int) (hv : MV d0 g w r ι L W n M) (hk : lkM d0 dS d) (bX : -100 ≤ X ∧ X ≤ 100) (bY : -100 ≤ Y ∧ Y ≤ 100) : F_X10_isInside Z0.1 N 510 (iz r) (iz X) (iz Y) d = some (if 0 ≤ X ∧ X < L ∧ 0 ≤ Y ∧ Y < W then 1 else 0, d) := by
  obtain ⟨⟨r14, L16, W6, n12, M12⟩, ⟨e0, e1, e2⟩, _⟩ := hv
  have g0 : gi d 531 (720 * r) = iz L := by rw [hk.1 531 _ (by decide) (by decide) (by decide)]; exact e0
  have g1 : gi d 531 (720 * r + 1) = iz W := by rw [hk.1 531 _ (by decide) (by decide) (by decide)]; exact e1
  have n1 : ¬ (1 : Int32) = 0 := by decide
  have s1 : iz (L : Int) - (1 : Int32) = iz ((L : Int) - 1) := iz_sub _ 1
  have s2 : iz (W : Int) - (1 : Int32) = iz ((W : Int) - 1) := iz_sub _ 1
  rw [F_X10_isInside_s, m_row0, m_row1, if_pos (ibr _ (by omega)), r_510_39, tnn _ (720 * r) rfl (by omega), g0, s1, m_in0 _ _ X _ _ (by omega) (by omega) (by omega) (by omega), sb_eq]
  by_cases q1 : 0 ≤ X ∧ X ≤ (L : Int) - 1
  · rw [if_pos q1, if_neg n1, if_pos (ibr _ (by omega)), tnn _ (720 * r + 1) rfl (by omega), g1, s2, m_in0 _ _ Y _ _ (by omega) (by omega) (by omega) (by omega), sb_eq]
    by_cases q2 : 0 ≤ Y ∧ Y ≤ (W : Int) - 1
    · rw [if_pos q2, if_neg n1, if_pos (by omega)]
    · rw [if_neg q2, if_pos rfl, if_neg (by omega)]
  · rw [if_neg q1, if_pos rfl, if_neg (by omega)]
theorem m_wall {dS : DY} (N : Nat) (d0 d : DY) (g w r : Nat) (ι : Nat → Nat) (L W n M : Nat) (X Y : Int) (hv : MV d0 g w r ι L W n M) (hk : lkM d0 dS d) (hi : inS L W X Y) : (wlP d0 g X Y → F_X10_isWall Z0.1 N 510 (iz r) (iz X) (iz Y) d = some (1, d)) ∧ (¬ wlP d0 g X Y → F_X10_isWall Z0.1 N 510 (iz r) (iz X) (iz Y) d = some (0, d)) := by
  obtain ⟨⟨r14, L16, W6, n12, M12⟩, _, hw, _⟩ := hv
  unfold inS at hi
  obtain ⟨x, rfl⟩ : ∃ x : Nat, X = x := ⟨X.toNat, by omega⟩
  obtain ⟨y, rfl⟩ : ∃ y : Nat, Y = y := ⟨Y.toNat, by omega⟩
  have m : (720 : Int32) * iz (r : Int) + (256 : Int32) + (6 : Int32) * iz (x : Int) + iz (y : Int) = iz ((720 * r + 256 + (6 * x + y) : Nat) : Int) := by
    rw [show (720 : Int32) = iz 720 from rfl, show (256 : Int32) = iz 256 from rfl, l_6, iz_mul, iz_mul, iz_add, iz_add, iz_add]
    exact congrArg iz (by omega)
  have e : gi d 531 (720 * r + 256 + (6 * x + y)) = gi d0 (g + 1) (6 * (x : Int) + y).toNat := by
    rw [hk.1 531 _ (by decide) (by decide) (by decide), show (6 * (x : Int) + y).toNat = 6 * x + y by omega]
    exact (hw (6 * x + y) (by omega)).1.symm
  have hF := F_X10_isWall_s Z0.1 N 510 (iz r) (iz (x : Int)) (iz (y : Int)) d
  rw [m, if_pos (ibr _ (by omega)), r_510_39, tnn _ (720 * r + 256 + (6 * x + y)) rfl (by omega), e] at hF
  refine ⟨fun h => ?_, fun h => ?_⟩
  · have h' : gi d0 (g + 1) (6 * (x : Int) + y).toNat = 1 := h
    rw [if_pos h'] at hF; exact hF
  · have h' : ¬ gi d0 (g + 1) (6 * (x : Int) + y).toNat = 1 := h
    rw [if_neg h'] at hF; exact hF
/-- what the reference has seen, after i's look -/
def SEEN (d0 e : DY) (g w i : Nat) (ι : Nat → Nat) (n M : Nat) : Prop := (∀ o : Nat, o < n → o ≠ i → gi e 532 (ι o) = iz (cx d0 w (lt d0 g i) o) ∧ gi e 533 (ι o) = iz (cy d0 w (lt d0 g i) o)) ∧ (gi e 532 (ι i) = iz (cx d0 w 0 i) ∧ gi e 533 (ι i) = iz (cy d0 w 0 i)) ∧ ∀ m : Nat, m < M → (∀ j : Nat, j < n → ι j ≠ m) → gi e 532 m = -1
theorem SEEN_510 {d0 e : DY} {g w i : Nat} {ι : Nat → Nat} {n M : Nat} (h : SEEN d0 e g w i ι n M) (k : Nat) (v : Int32) : SEEN d0 (si e 510 k v) g w i ι n M := by
  refine ⟨fun o ho hi => ?_, ?_, fun m hm ha => ?_⟩
  · rw [gi_si_if, if_neg (by omega), gi_si_if, if_neg (by omega)]; exact h.1 o ho hi
  · rw [gi_si_if, if_neg (by omega), gi_si_if, if_neg (by omega)]; exact h.2.1
  · rw [gi_si_if, if_neg (by omega)]; exact h.2.2 m hm ha
theorem m_look17 {dS : DY} (N : Nat) (d0 : DY) (g w r : Nat) (ι : Nat → Nat) (L W n M wi la : Nat) (hv : MV d0 g w r ι L W n M) (hla : la ≤ 3) (hwi : wi < 12) : ∀ (q k o : Nat) (d : DY), o + q = M → q < k → lkM d0 dS d → (∀ m : Nat, m < o → gi d 532 m = gi d0 531 (720 * r + 16 + 20 * m + (if m = wi then 0 else la)) ∧ gi d 533 m = gi d0 531 (720 * r + 16 + 20 * m + 4 + (if m = wi then 0 else la))) → ∃ e : DY, lkM d0 dS e ∧ F_X10_look_17 Z0.1 N k 510 (iz r) (iz wi) (iz la) (iz o) d = some e ∧ ∀ m : Nat, m < M → gi e 532 m = gi d0 531 (720 * r + 16 + 20 * m + (if m = wi then 0 else la)) ∧ gi e 533 m = gi d0 531 (720 * r + 16 + 20 * m + 4 + (if m = wi then 0 else la)) := by
  obtain ⟨⟨r14, L16, W6, n12, M12⟩, ⟨e0, e1, e2⟩, _⟩ := hv
  intro q
  induction q with
  | zero =>
    intro k o d ho hk hc hs
    obtain ⟨k, rfl⟩ : ∃ j, k = j + 1 := ⟨k - 1, by omega⟩
    have g2 : gi d 531 (720 * r + 2) = iz M := by rw [hc.1 531 _ (by decide) (by decide) (by decide)]; exact e2
    refine ⟨d, hc, ?_, fun m hm => hs m (by omega)⟩
    rw [F_X10_look_17_s, m_row2, if_pos (ibr _ (by omega)), r_510_39, tnn _ (720 * r + 2) rfl (by omega), g2, if_pos (iz_lei (by omega))]
  | succ q ih =>
    intro k o d ho hk hc hs
    obtain ⟨k, rfl⟩ : ∃ j, k = j + 1 := ⟨k - 1, by omega⟩
    have g2 : gi d 531 (720 * r + 2) = iz M := by rw [hc.1 531 _ (by decide) (by decide) (by decide)]; exact e2
    have go : ∀ t : Nat, t ≤ 3 → t = (if o = wi then 0 else la) → ∃ e : DY, lkM d0 dS e ∧ F_X10_look_45 Z0.1 N (F_X10_look_17 Z0.1 N k) 510 (iz r) (iz wi) (iz la) (iz o) (iz t) d = some e ∧ ∀ m : Nat, m < M → gi e 532 m = gi d0 531 (720 * r + 16 + 20 * m + (if m = wi then 0 else la)) ∧ gi e 533 m = gi d0 531 (720 * r + 16 + 20 * m + 4 + (if m = wi then 0 else la)) := fun t ht hte => by
      have a1 : iz ((720 * r + 16 + 20 * o : Nat) : Int) + iz (t : Int) = iz ((720 * r + 16 + 20 * o + t : Nat) : Int) := iz_add _ _
      have a2 : iz ((720 * r + 16 + 20 * o : Nat) : Int) + (4 : Int32) + iz (t : Int) = iz ((720 * r + 16 + 20 * o + 4 + t : Nat) : Int) := by
        rw [l_4, iz_add, iz_add]; rfl
      have c2 := lkM_532 hc o (gi d 531 (720 * r + 16 + 20 * o + t))
      have c3 := lkM_533 c2 o (gi (si d 532 o (gi d 531 (720 * r + 16 + 20 * o + t))) 531 (720 * r + 16 + 20 * o + 4 + t))
      obtain ⟨e, k1, k2, k3⟩ := ih k (o + 1) _ (by omega) (by omega) c3 (fun m hm => by
        refine ⟨?_, ?_⟩
        · rw [gi_si_if, if_neg (by omega), gi_si_if]
          by_cases z : m = o
          · rw [if_pos ⟨rfl, z⟩, z, ← hte]
            exact hc.1 531 _ (by decide) (by decide) (by decide)
          · rw [if_neg (fun y => z y.2)]
            exact (hs m (by omega)).1
        · rw [gi_si_if]
          by_cases z : m = o
          · rw [if_pos ⟨rfl, z⟩, gi_si_if, if_neg (by omega), z, ← hte]
            exact hc.1 531 _ (by decide) (by decide) (by decide)
          · rw [if_neg (fun y => z y.2), gi_si_if, if_neg (by omega)]
            exact (hs m (by omega)).2)
      refine ⟨e, k1, ?_, k3⟩
      rw [F_X10_look_45_s]
      refine bnd (m_at _ _ r o _) ?_
      show (if ib (iz ((720 * r + 16 + 20 * o : Nat) : Int) + iz (t : Int)) 10080 then _ else _) = _
      rw [a1, if_pos (ibr _ (by omega)), if_pos (show ib (iz (o : Int)) 12 from iz_ib (by omega)), bd_eq, r_510_39, show gr Z0.1 510 40 = 532 from r_510_40, tnn _ o rfl (by omega), tnn _ (720 * r + 16 + 20 * o + t) rfl (by omega)]
      refine bnd (m_at _ _ r o _) ?_
      show (if ib (iz ((720 * r + 16 + 20 * o : Nat) : Int) + (4 : Int32) + iz (t : Int)) 10080 then _ else _) = _
      rw [a2, if_pos (ibr _ (by omega)), if_pos (show ib (iz (o : Int)) 12 from iz_ib (by omega)), bd_eq, show gr Z0.1 510 41 = 533 from r_510_41, tnn _ (720 * r + 16 + 20 * o + 4 + t) rfl (by omega), show iz (o : Int) + (1 : Int32) = iz ((o + 1 : Nat) : Int) from iz_add o 1]
      exact k2
    rw [F_X10_look_17_s, m_row2, if_pos (ibr _ (by omega)), r_510_39, tnn _ (720 * r + 2) rfl (by omega), g2, if_neg (show ¬ iz (M : Int) ≤ iz (o : Int) from iz_nle (by omega))]
    by_cases z : o = wi
    · rw [if_pos (by rw [z])]
      exact go 0 (by omega) (by rw [if_pos z])
    · rw [if_neg (show ¬ iz (o : Int) = iz (wi : Int) from iz_nei (by omega))]
      exact go la hla (by rw [if_neg z])
theorem ι_inj {ι : Nat → Nat} {n : Nat} (h : ∀ i j : Nat, i < j → j < n → ι i < ι j) (a b : Nat) (ha : a < n) (hb : b < n) (e : ι a = ι b) : a = b := by
  rcases Nat.lt_trichotomy a b with c | c | c
  · have := h a b c hb; omega
  · exact c
  · have := h b a c ha; omega
theorem m_look {dS : DY} (N : Nat) (d0 d : DY) (g w r : Nat) (ι : Nat → Nat) (L W n M i : Nat) (hN : 20 ≤ N) (hv : MV d0 g w r ι L W n M) (hi : i < n) (hk : lkM d0 dS d) : ∃ e : DY, lkM d0 dS e ∧ F_X10_look Z0.1 N 510 (iz r) (iz (ι i : Nat)) d = some e ∧ SEEN d0 e g w i ι n M := by
  have hv' := hv
  obtain ⟨⟨r14, L16, W6, n12, M12⟩, _, _, ⟨hι, hmono⟩, haway, hpos, hwk⟩ := hv'
  obtain ⟨_, _, la1, la2⟩ := hwk i hi
  have hιi := hι i hi
  obtain ⟨e, k1, k2, k3⟩ := m_look17 N d0 g w r ι L W n M (ι i) (lt d0 g i) hv la2 (by omega) M N 0 d (by omega) (by omega) hk (fun m hm => absurd hm (by omega))
  refine ⟨e, k1, ?_, fun o ho hoi => ?_, ?_, fun m hm ha => ?_⟩
  · rw [F_X10_look_s]
    refine bnd (m_at _ _ r (ι i) _) ?_
    have a1 : iz ((720 * r + 16 + 20 * ι i : Nat) : Int) + (10 : Int32) = iz ((720 * r + 16 + 20 * ι i + 10 : Nat) : Int) := iz_add _ 10
    show (if ib (iz ((720 * r + 16 + 20 * ι i : Nat) : Int) + (10 : Int32)) 10080 then _ else _) = _
    rw [a1, if_pos (ibr _ (by omega)), r_510_39, tnn _ (720 * r + 16 + 20 * ι i + 10) rfl (by omega)]
    show F_X10_look_17 Z0.1 N N 510 (iz r) (iz (ι i : Nat)) (gi d 531 (720 * r + 16 + 20 * ι i + 10)) 0 d = _
    rw [hk.1 531 _ (by decide) (by decide) (by decide), la1]
    exact k2
  · have h1 := k3 (ι o) (hι o ho)
    have h2 : ¬ ι o = ι i := fun z => hoi (ι_inj hmono o i ho hi z)
    rw [if_neg h2] at h1
    have h3 := hpos (lt d0 g i) o (by omega) ho
    exact ⟨h1.1.trans h3.1, h1.2.trans h3.2.1⟩
  · have h1 := k3 (ι i) hιi
    rw [if_pos rfl] at h1
    have h3 := hpos 0 i (by omega) hi
    exact ⟨h1.1.trans h3.1, h1.2.trans h3.2.1⟩
  · have h1 := (k3 m hm).1
    rw [h1]
    exact (haway m hm ha _ (by by_cases z : m = ι i
                               · rw [if_pos z]; omega
                               · rw [if_neg z]; omega)).1
