/-! where a wall more, a wall less helps: what both sides compute -/
def tkU (fx fy : Nat → Int32) (x y b : Int32) : Nat → Nat → Int32
  | 0, _ => b
  | q + 1, w => if fx w = x ∧ fy w = y then 1 else tkU fx fy x y b q (w + 1)
theorem tkU_s (fx fy : Nat → Int32) (x y b : Int32) (q w : Nat) : tkU fx fy x y b (q + 1) w = if fx w = x ∧ fy w = y then 1 else tkU fx fy x y b q (w + 1) := rfl
theorem tkU_01 (fx fy : Nat → Int32) (x y b : Int32) (hb : b = 0 ∨ b = 1) : ∀ q w : Nat, tkU fx fy x y b q w = 0 ∨ tkU fx fy x y b q w = 1
  | 0, _ => hb
  | q + 1, w => by
    rw [tkU_s]
    by_cases z : fx w = x ∧ fy w = y
    · rw [if_pos z]; exact Or.inr rfl
    · rw [if_neg z]; exact tkU_01 fx fy x y b hb q (w + 1)
theorem tkU_same (fx fy gx gy : Nat → Int32) (x y b : Int32) : ∀ q w : Nat, (∀ i : Nat, i < w + q → fx i = gx i ∧ fy i = gy i) → tkU fx fy x y b q w = tkU gx gy x y b q w
  | 0, _, _ => rfl
  | q + 1, w, h => by
    rw [tkU_s, tkU_s, (h w (by omega)).1, (h w (by omega)).2, tkU_same fx fy gx gy x y b q (w + 1) (fun i hi => h i (by omega))]
theorem c_taken (N : Nat) (d : DY) (L W n x y : Nat) (L16 : L ≤ 16) (W6 : W ≤ 6) (n12 : n ≤ 12) (g0 : gi d 95 0 = iz L) (g1 : gi d 95 1 = iz W) (g3 : gi d 95 3 = iz n) (hw : ∀ i : Nat, i < 96 → gi d 96 i = 0 ∨ gi d 96 i = 1) (hx : x < L) (hy : y < W) : ∀ q w k : Nat, w + q = n → q < k → F_X4_isTaken_2 Z0.1 N k 95 (iz x) (iz y) (iz w) d = some (tkU (gi d 97) (gi d 98) (iz x) (iz y) (gi d 96 (6 * x + y)) q w, d) := by
  have hwl := (c_wallG N d 95 L W x y (by decide) L16 W6 g0 g1 hw (by omega) (by omega) (by omega) (by omega)).2 (by unfold inS; omega)
  rw [show (6 * (x : Int) + (y : Int)).toNat = 6 * x + y by omega] at hwl
  intro q
  induction q with
  | zero =>
    intro w k hq hk
    obtain ⟨k, rfl⟩ : ∃ j, k = j + 1 := ⟨k - 1, by omega⟩
    obtain rfl : w = n := by omega
    rw [F_X4_isTaken_2_s, g3, if_pos (Int32.le_refl _)]
    refine bnd hwl ?_
    have hz : zb (gi d 96 (6 * x + y)) := by
      rcases hw (6 * x + y) (by omega) with z | z
      · rw [z]; decide
      · rw [z]; decide
    exact if_pos hz
  | succ q ih =>
    intro w k hq hk
    obtain ⟨k, rfl⟩ : ∃ j, k = j + 1 := ⟨k - 1, by omega⟩
    have iw : ib (iz (w : Int)) 12 := iz_ib (by omega)
    rw [F_X4_isTaken_2_s, g3, if_neg (show ¬ iz (n : Int) ≤ iz (w : Int) from iz_nle (by omega)), if_pos iw, if_pos iw, cv_g2 cvg_try, cv_g3 cvg_try, tnn _ w rfl (by omega), show iz (w : Int) + (1 : Int32) = iz ((w + 1 : Nat) : Int) from iz_add w 1, ih (w + 1) k (by omega) (by omega)]
    rw [tkU_s]
    show (if gi d 97 w = _ then (if gi d 98 w = _ then _ else _) else _) = _
    by_cases a : gi d 97 w = iz x
    · rw [if_pos a]
      by_cases b : gi d 98 w = iz y
      · rw [if_pos b, if_pos ⟨a, b⟩]
      · rw [if_neg b, if_neg (fun z => b z.2)]
    · rw [if_neg a, if_neg (fun z => a z.1)]
theorem m_free29 (N : Nat) (m : DY) (k n x y : Nat) (k3 : k < 3) (n12 : n ≤ 12) (g3 : gi m 518 k = iz n) : ∀ q w j : Nat, ∀ f : Int32, w + q = n → q < j → (f = 0 ∨ f = 1) → F_X10_isFreeAtFirst_29 Z0.1 N j 510 (iz k) (iz x) (iz y) f (iz w) m = some (if f = 0 then 0 else if tkU (fun i => gi m 521 (8 * (12 * k + i))) (fun i => gi m 521 (8 * (12 * k + i) + 1)) (iz x) (iz y) 0 q w = 0 then 1 else 0, m) := by
  have i12 : ib (iz (k : Int)) 12 := iz_ib (by omega)
  intro q
  induction q with
  | zero =>
    intro w j f hq hj hf
    obtain ⟨j, rfl⟩ : ∃ i, j = i + 1 := ⟨j - 1, by omega⟩
    obtain rfl : w = n := by omega
    rw [F_X10_isFreeAtFirst_29_s, if_pos i12, r_510_8, tnn _ k rfl (by omega), g3, if_pos (Int32.le_refl _)]
    rcases hf with z | z
    · rw [z, if_pos (by decide), if_pos rfl]
    · rw [z, if_pos (by decide), if_neg (by decide)]
      rfl
  | succ q ih =>
    intro w j f hq hj hf
    obtain ⟨j, rfl⟩ : ∃ i, j = i + 1 := ⟨j - 1, by omega⟩
    have e : (8 : Int32) * ((12 : Int32) * iz (k : Int) + iz (w : Int)) = iz ((8 * (12 * k + w) : Nat) : Int) := by
      rw [show (12 : Int32) * iz (k : Int) = iz (12 * (k : Int)) from iz_mul 12 k, iz_add, show (8 : Int32) * iz (12 * (k : Int) + (w : Int)) = iz (8 * (12 * (k : Int) + (w : Int))) from iz_mul 8 _]
      exact congrArg iz (by omega)
    have e1 : iz ((8 * (12 * k + w) : Nat) : Int) + (1 : Int32) = iz ((8 * (12 * k + w) + 1 : Nat) : Int) := iz_add _ 1
    have n1 : ¬ (1 : Int32) = 0 := by decide
    have i0 := ih (w + 1) j 0 (by omega) (by omega) (Or.inl rfl)
    have i1 := ih (w + 1) j 1 (by omega) (by omega) (Or.inr rfl)
    rw [if_pos rfl] at i0
    rw [if_neg n1] at i1
    rw [F_X10_isFreeAtFirst_29_s, if_pos i12, r_510_8, tnn _ k rfl (by omega), g3, if_neg (show ¬ iz (n : Int) ≤ iz (w : Int) from iz_nle (by omega)), show iz (w : Int) + (1 : Int32) = iz ((w + 1 : Nat) : Int) from iz_add w 1, i0, i1, e, e1, if_pos (show ib (iz ((8 * (12 * k + w) : Nat) : Int)) 1152 from iz_ib (by omega)), if_pos (show ib (iz ((8 * (12 * k + w) + 1 : Nat) : Int)) 1152 from iz_ib (by omega)), r_510_11, tnn _ (8 * (12 * k + w)) rfl (by omega), tnn _ (8 * (12 * k + w) + 1) rfl (by omega)]
    rcases hf with z | z
    · rw [z, if_pos rfl, if_pos rfl]
    · rw [z, if_neg n1, if_neg n1, tkU_s]
      by_cases a : gi m 521 (8 * (12 * k + w)) = iz x
      · rw [if_pos a]
        by_cases b : gi m 521 (8 * (12 * k + w) + 1) = iz y
        · rw [if_pos b, if_pos (show gi m 521 (8 * (12 * k + w)) = iz x ∧ gi m 521 (8 * (12 * k + w) + 1) = iz y from ⟨a, b⟩), if_neg n1]
        · rw [if_neg b, if_neg (show ¬ (gi m 521 (8 * (12 * k + w)) = iz x ∧ gi m 521 (8 * (12 * k + w) + 1) = iz y) from fun z => b z.2)]
      · rw [if_neg a, if_neg (show ¬ (gi m 521 (8 * (12 * k + w)) = iz x ∧ gi m 521 (8 * (12 * k + w) + 1) = iz y) from fun z => a z.1)]
theorem tkU_b (fx fy : Nat → Int32) (x y : Int32) : ∀ q w : Nat, (tkU fx fy x y 1 q w = 1) ∧ (tkU fx fy x y 0 q w = 0 ↔ ∀ i : Nat, w ≤ i → i < w + q → ¬ (fx i = x ∧ fy i = y))
  | 0, _ => ⟨rfl, fun _ i h1 h2 => absurd h2 (by omega), fun _ => rfl⟩
  | q + 1, w => by
    obtain ⟨a1, a2⟩ := tkU_b fx fy x y q (w + 1)
    rw [tkU_s, tkU_s]
    by_cases z : fx w = x ∧ fy w = y
    · rw [if_pos z, if_pos z]
      exact ⟨rfl, fun h => absurd h (by decide), fun h => absurd z (h w (by omega) (by omega))⟩
    · rw [if_neg z, if_neg z]
      refine ⟨a1, a2.trans ⟨fun h i h1 h2 => ?_, fun h i h1 h2 => h i (by omega) (by omega)⟩⟩
      by_cases y : i = w
      · rw [y]; exact z
      · exact h i (by omega) (by omega)
/-- the best so far: how many, where -/
def bstep (v : Int32) (A : Nat) (p : Int32) (s : Nat × Int32) : Nat × Int32 := if v = 0 then s else if s.1 < A then (A, p) else s
def bY (cd : Nat → Nat → Int32) (A : Nat → Nat → Nat) (x : Nat) : Nat → Nat → Nat × Int32 → Nat × Int32
  | 0, _, s => s
  | q + 1, y, s => bY cd A x q (y + 1) (bstep (cd x y) (A x y) (iz ((100 * x + y : Nat) : Int)) s)
def bX (cd : Nat → Nat → Int32) (A : Nat → Nat → Nat) (W : Nat) : Nat → Nat → Nat × Int32 → Nat × Int32
  | 0, _, s => s
  | p + 1, x, s => bX cd A W p (x + 1) (bY cd A x W 0 s)
theorem bstep_1 (A : Nat) (p : Int32) (s : Nat × Int32) : bstep 1 A p s = if s.1 < A then (A, p) else s := by
  unfold bstep
  rw [if_neg (by decide)]
theorem bY_s (cd : Nat → Nat → Int32) (A : Nat → Nat → Nat) (x q y : Nat) (s : Nat × Int32) : bY cd A x (q + 1) y s = bY cd A x q (y + 1) (bstep (cd x y) (A x y) (iz ((100 * x + y : Nat) : Int)) s) := rfl
theorem bX_s (cd : Nat → Nat → Int32) (A : Nat → Nat → Nat) (W p x : Nat) (s : Nat × Int32) : bX cd A W (p + 1) x s = bX cd A W p (x + 1) (bY cd A x W 0 s) := rfl
theorem bstep_full {v : Int32} {A n : Nat} {p : Int32} {s : Nat × Int32} (h : v ≠ 0 → A ≤ n) (hs : n ≤ s.1) : bstep v A p s = s := by
  unfold bstep
  by_cases z : v = 0
  · rw [if_pos z]
  · have := h z
    rw [if_neg z, if_neg (by omega)]
theorem bY_full {cd : Nat → Nat → Int32} {A : Nat → Nat → Nat} {n x : Nat} : ∀ (q y : Nat) (s : Nat × Int32), (∀ i : Nat, i < y + q → cd x i ≠ 0 → A x i ≤ n) → n ≤ s.1 → bY cd A x q y s = s
  | 0, _, _, _, _ => rfl
  | q + 1, y, s, h, hs => by
    rw [bY_s, bstep_full (h y (by omega)) hs]
    exact bY_full q (y + 1) s (fun i hi => h i (by omega)) hs
theorem bX_full {cd : Nat → Nat → Int32} {A : Nat → Nat → Nat} {n W : Nat} : ∀ (p x : Nat) (s : Nat × Int32), (∀ i j : Nat, i < x + p → j < W → cd i j ≠ 0 → A i j ≤ n) → n ≤ s.1 → bX cd A W p x s = s
  | 0, _, _, _, _ => rfl
  | p + 1, x, s, h, hs => by
    rw [bX_s, bY_full W 0 s (fun i hi => h x i (by omega) (by omega)) hs]
    exact bX_full p (x + 1) s (fun i j hi => h i j (by omega)) hs
theorem bstep_le {v : Int32} {A n : Nat} {p : Int32} {s : Nat × Int32} (h : v ≠ 0 → A ≤ n) (hs : s.1 ≤ n) : (bstep v A p s).1 ≤ n := by
  unfold bstep
  by_cases z : v = 0
  · rw [if_pos z]; exact hs
  · rw [if_neg z]
    by_cases y : s.1 < A
    · rw [if_pos y]; exact h z
    · rw [if_neg y]; exact hs
theorem bY_le {cd : Nat → Nat → Int32} {A : Nat → Nat → Nat} {n x : Nat} : ∀ (q y : Nat) (s : Nat × Int32), (∀ i : Nat, i < y + q → cd x i ≠ 0 → A x i ≤ n) → s.1 ≤ n → (bY cd A x q y s).1 ≤ n
  | 0, _, _, _, hs => hs
  | q + 1, y, s, h, hs => bY_le q (y + 1) _ (fun i hi => h i (by omega)) (bstep_le (h y (by omega)) hs)
/-- the same, square by square -/
def bK (cd : Nat → Nat → Int32) (A : Nat → Nat → Nat) : Nat → Nat → Nat × Int32 → Nat × Int32
  | 0, _, s => s
  | q + 1, i, s => bK cd A q (i + 1) (bstep (cd (i / 6) (i % 6)) (A (i / 6) (i % 6)) (iz ((100 * (i / 6) + i % 6 : Nat) : Int)) s)
theorem bK_six (cd : Nat → Nat → Int32) (A : Nat → Nat → Nat) (q x : Nat) (s : Nat × Int32) : bK cd A (q + 6) (6 * x) s = bK cd A q (6 * (x + 1)) (bY cd A x 6 0 s) := by
  have e : ∀ y : Nat, y < 6 → (6 * x + y) / 6 = x ∧ (6 * x + y) % 6 = y := fun y hy => by omega
  have e0 := e 0 (by omega)
  rw [Nat.add_zero] at e0
  show bK cd A q (6 * x + 1 + 1 + 1 + 1 + 1 + 1) (bstep _ _ _ (bstep _ _ _ (bstep _ _ _ (bstep _ _ _ (bstep _ _ _ (bstep _ _ _ s)))))) = bK cd A q (6 * (x + 1)) (bstep _ _ _ (bstep _ _ _ (bstep _ _ _ (bstep _ _ _ (bstep _ _ _ (bstep _ _ _ s))))))
  rw [show 6 * x + 1 + 1 = 6 * x + 2 by omega, show 6 * x + 2 + 1 = 6 * x + 3 by omega, show 6 * x + 3 + 1 = 6 * x + 4 by omega, show 6 * x + 4 + 1 = 6 * x + 5 by omega, show 6 * x + 5 + 1 = 6 * (x + 1) by omega, e0.1, e0.2, (e 1 (by omega)).1, (e 1 (by omega)).2, (e 2 (by omega)).1, (e 2 (by omega)).2, (e 3 (by omega)).1, (e 3 (by omega)).2, (e 4 (by omega)).1, (e 4 (by omega)).2, (e 5 (by omega)).1, (e 5 (by omega)).2]
theorem bK_X (cd : Nat → Nat → Int32) (A : Nat → Nat → Nat) : ∀ (p x : Nat) (s : Nat × Int32), bK cd A (6 * p) (6 * x) s = bX cd A 6 p x s
  | 0, _, _ => rfl
  | p + 1, x, s => by
    rw [show 6 * (p + 1) = 6 * p + 6 by omega, bK_six]
    exact bK_X cd A p (x + 1) _
theorem bY_out (cd : Nat → Nat → Int32) (A : Nat → Nat → Nat) (x : Nat) : ∀ (q y : Nat) (s : Nat × Int32), (∀ i : Nat, y ≤ i → i < y + q → cd x i = 0) → bY cd A x q y s = s
  | 0, _, _, _ => rfl
  | q + 1, y, s, h => by
    rw [bY_s, show bstep (cd x y) (A x y) (iz ((100 * x + y : Nat) : Int)) s = s from if_pos (h y (by omega) (by omega))]
    exact bY_out cd A x q (y + 1) s (fun i h1 h2 => h i (by omega) (by omega))
theorem bY_cut (cd : Nat → Nat → Int32) (A : Nat → Nat → Nat) (x : Nat) : ∀ (q r y : Nat) (s : Nat × Int32), (∀ i : Nat, y + q ≤ i → i < y + q + r → cd x i = 0) → bY cd A x (q + r) y s = bY cd A x q y s
  | 0, r, y, s, h => by
    rw [Nat.zero_add]
    exact bY_out cd A x r y s (fun i h1 h2 => h i (by omega) (by omega))
  | q + 1, r, y, s, h => by
    rw [show q + 1 + r = q + r + 1 by omega]
    exact bY_cut cd A x q r (y + 1) _ (fun i h1 h2 => h i (by omega) (by omega))
theorem bX_out (cd : Nat → Nat → Int32) (A : Nat → Nat → Nat) (W : Nat) : ∀ (p x : Nat) (s : Nat × Int32), (∀ i j : Nat, x ≤ i → i < x + p → j < W → cd i j = 0) → bX cd A W p x s = s
  | 0, _, _, _ => rfl
  | p + 1, x, s, h => by
    rw [bX_s, bY_out cd A x W 0 s (fun i _ h2 => h x i (by omega) (by omega) (by omega))]
    exact bX_out cd A W p (x + 1) s (fun i j h1 h2 => h i j (by omega) (by omega))
theorem bX_cut (cd : Nat → Nat → Int32) (A : Nat → Nat → Nat) (W r : Nat) : ∀ (p t x : Nat) (s : Nat × Int32), (∀ i j : Nat, i < x + p + t → j < W + r → (x + p ≤ i ∨ W ≤ j) → cd i j = 0) → bX cd A (W + r) (p + t) x s = bX cd A W p x s
  | 0, t, x, s, h => by
    rw [Nat.zero_add]
    exact bX_out cd A (W + r) t x s (fun i j h1 h2 h3 => h i j (by omega) h3 (by omega))
  | p + 1, t, x, s, h => by
    rw [show p + 1 + t = p + t + 1 by omega]
    show bX cd A (W + r) (p + t) (x + 1) (bY cd A x (W + r) 0 s) = bX cd A W p (x + 1) (bY cd A x W 0 s)
    rw [bY_cut cd A x W r 0 s (fun i h1 h2 => h x i (by omega) (by omega) (by omega))]
    exact bX_cut cd A W r p t (x + 1) _ (fun i j h1 h2 h3 => h i j (by omega) h2 (by omega))
