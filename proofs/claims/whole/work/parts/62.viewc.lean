/-! what a walker sees: the class's side -/
def cx (d : DY) (w t i : Nat) : Int := (gi d (w + 1) (12 * t + i)).toInt
def cy (d : DY) (w t i : Nat) : Int := (gi d (w + 2) (12 * t + i)).toInt
def inS (L W : Nat) (x y : Int) : Prop := 0 ≤ x ∧ x < L ∧ 0 ≤ y ∧ y < W
def wlP (d : DY) (g : Nat) (x y : Int) : Prop := gi d (g + 1) (6 * x + y).toNat = 1
/-- what the class's look may change: whom he met, his sight -/
def lkC (w : Nat) (d s e : DY) : Prop := (∀ x k : Nat, ¬ (x = w ∧ k = 8) → (x ≠ w + 10 ∧ x < 510) → gi e x k = gi d x k) ∧ (∀ x k : Nat, ¬ (x = w ∧ k = 8) → x ≠ w + 10 → gi e x k = gi s x k) ∧ ∀ x k : Nat, gl e x k = gl s x k
theorem lkC_met {w : Nat} {d s e : DY} (h : lkC w d s e) (v : Int32) : lkC w d s (si e w 8 v) :=
  ⟨fun x k h1 h2 => by rw [gi_si_if, if_neg h1]; exact h.1 x k h1 h2, fun x k h1 h2 => by rw [gi_si_if, if_neg h1]; exact h.2.1 x k h1 h2, fun x k => h.2.2 x k⟩
theorem lkC_sight {w : Nat} {d s e : DY} (h : lkC w d s e) (j : Nat) (v : Int32) : lkC w d s (si e (w + 10) j v) :=
  ⟨fun x k h1 h2 => by rw [gi_si_if, if_neg (fun q => h2.1 q.1)]; exact h.1 x k h1 h2, fun x k h1 h2 => by rw [gi_si_if, if_neg (fun q => h2 q.1)]; exact h.2.1 x k h1 h2, fun x k => h.2.2 x k⟩
/-- the blocks of a walk: ground, law -/
def CVg (g l w : Nat) : Prop := g ∈ PB ∧ l ∈ LB ∧ w ∈ WB ∧ gr Z0.1 w 0 = g ∧ gr Z0.1 w 1 = l ∧ (g + 9 < w ∨ w + 11 < g) ∧ (l + 6 < w ∨ w + 11 < l)
theorem pb_lt : ∀ b ∈ PB, b + 9 < 510 := by decide
theorem lb_lt : ∀ b ∈ LB, b + 6 < 510 := by decide
theorem wb_lt : ∀ b ∈ WB, b + 11 < 510 := by decide
theorem cv_dj {g l w : Nat} (h : CVg g l w) : (g + 9 < w ∨ w + 11 < g) ∧ (l + 6 < w ∨ w + 11 < l) ∧ g + 9 < 510 ∧ l + 6 < 510 ∧ w + 11 < 510 := ⟨h.2.2.2.2.2.1, h.2.2.2.2.2.2, pb_lt g h.1, lb_lt l h.2.1, wb_lt w h.2.2.1⟩
theorem cv_r0 {g l w : Nat} (h : CVg g l w) : gr Z0.1 w 0 = g := h.2.2.2.1
theorem cv_r1 {g l w : Nat} (h : CVg g l w) : gr Z0.1 w 1 = l := h.2.2.2.2.1
theorem cv_w1 {g l w : Nat} (h : CVg g l w) : gr Z0.1 w 9 = w + 1 := (wb_of w h.2.2.1).1
theorem cv_w2 {g l w : Nat} (h : CVg g l w) : gr Z0.1 w 10 = w + 2 := (wb_of w h.2.2.1).2.1
theorem cv_w3 {g l w : Nat} (h : CVg g l w) : gr Z0.1 w 11 = w + 3 := (wb_of w h.2.2.1).2.2.1
theorem cv_w4 {g l w : Nat} (h : CVg g l w) : gr Z0.1 w 12 = w + 4 := (wb_of w h.2.2.1).2.2.2.1
theorem cv_w5 {g l w : Nat} (h : CVg g l w) : gr Z0.1 w 13 = w + 5 := (wb_of w h.2.2.1).2.2.2.2.1
theorem cv_w6 {g l w : Nat} (h : CVg g l w) : gr Z0.1 w 14 = w + 6 := (wb_of w h.2.2.1).2.2.2.2.2.1
theorem cv_w7 {g l w : Nat} (h : CVg g l w) : gr Z0.1 w 15 = w + 7 := (wb_of w h.2.2.1).2.2.2.2.2.2.1
theorem cv_w8 {g l w : Nat} (h : CVg g l w) : gr Z0.1 w 16 = w + 8 := (wb_of w h.2.2.1).2.2.2.2.2.2.2.1
theorem cv_w9 {g l w : Nat} (h : CVg g l w) : gr Z0.1 w 17 = w + 9 := (wb_of w h.2.2.1).2.2.2.2.2.2.2.2.1
theorem cv_w10 {g l w : Nat} (h : CVg g l w) : gr Z0.1 w 18 = w + 10 := (wb_of w h.2.2.1).2.2.2.2.2.2.2.2.2.1
theorem cv_w11 {g l w : Nat} (h : CVg g l w) : gr Z0.1 w 19 = w + 11 := (wb_of w h.2.2.1).2.2.2.2.2.2.2.2.2.2
theorem cv_g1 {g l w : Nat} (h : CVg g l w) : gr Z0.1 g 4 = g + 1 := (pb_of g h.1).1
theorem cv_g2 {g l w : Nat} (h : CVg g l w) : gr Z0.1 g 5 = g + 2 := (pb_of g h.1).2.1
theorem cv_g3 {g l w : Nat} (h : CVg g l w) : gr Z0.1 g 6 = g + 3 := (pb_of g h.1).2.2.1
theorem cv_g4 {g l w : Nat} (h : CVg g l w) : gr Z0.1 g 7 = g + 4 := (pb_of g h.1).2.2.2.1
theorem cv_g5 {g l w : Nat} (h : CVg g l w) : gr Z0.1 g 8 = g + 5 := (pb_of g h.1).2.2.2.2.1
theorem cv_g6 {g l w : Nat} (h : CVg g l w) : gr Z0.1 g 9 = g + 6 := (pb_of g h.1).2.2.2.2.2.1
theorem cv_g7 {g l w : Nat} (h : CVg g l w) : gr Z0.1 g 10 = g + 7 := (pb_of g h.1).2.2.2.2.2.2.1
theorem cv_g8 {g l w : Nat} (h : CVg g l w) : gr Z0.1 g 11 = g + 8 := (pb_of g h.1).2.2.2.2.2.2.2.1
theorem cv_g9 {g l w : Nat} (h : CVg g l w) : gr Z0.1 g 12 = g + 9 := (pb_of g h.1).2.2.2.2.2.2.2.2
theorem cv_l1 {g l w : Nat} (h : CVg g l w) : gr Z0.1 l 1 = l + 1 := (lb_of l h.2.1).1
theorem cv_l2 {g l w : Nat} (h : CVg g l w) : gr Z0.1 l 2 = l + 2 := (lb_of l h.2.1).2.1
theorem cv_l3 {g l w : Nat} (h : CVg g l w) : gr Z0.1 l 3 = l + 3 := (lb_of l h.2.1).2.2.1
theorem cv_l4 {g l w : Nat} (h : CVg g l w) : gr Z0.1 l 4 = l + 4 := (lb_of l h.2.1).2.2.2.1
theorem cv_l5 {g l w : Nat} (h : CVg g l w) : gr Z0.1 l 5 = l + 5 := (lb_of l h.2.1).2.2.2.2.1
theorem cv_l6 {g l w : Nat} (h : CVg g l w) : gr Z0.1 l 6 = l + 6 := (lb_of l h.2.1).2.2.2.2.2
/-- the class's half of the bonds of a walk, as whole numbers -/
def CV (d : DY) (g l w L W n : Nat) : Prop := CVg g l w ∧ (L ≤ 16 ∧ W ≤ 6 ∧ n ≤ 12) ∧ (gi d g 0 = iz L ∧ gi d g 1 = iz W ∧ gi d g 3 = iz n) ∧ (∀ i : Nat, i < 96 → gi d (g + 1) i = 0 ∨ gi d (g + 1) i = 1) ∧ (∀ t i : Nat, t < 4 → i < n → gi d (w + 1) (12 * t + i) = iz (cx d w t i) ∧ gi d (w + 2) (12 * t + i) = iz (cy d w t i) ∧ (cx d w t i = -1 ∧ cy d w t i = -1 ∨ inS L W (cx d w t i) (cy d w t i))) ∧ ∀ i : Nat, i < n → (gi d (g + 4) i = 1 ∨ gi d (g + 4) i = -1) ∧ (∃ p : Nat, 1 ≤ p ∧ p ≤ 4 ∧ gi d (g + 5) i = iz p) ∧ (∃ p : Nat, p ≤ 3 ∧ gi d (g + 6) i = iz p) ∧ (∃ p : Nat, p ≤ 9 ∧ gi d (g + 7) i = iz p) ∧ (∃ p : Nat, p ≤ 2 ∧ gi d (g + 8) i = iz p) ∧ ∃ p : Nat, p ≤ 99 ∧ gi d (w + 7) i = iz p
/-- a step's direction -/
def dirs (dx dy : Int) : Prop := (dx = 1 ∧ dy = 0) ∨ (dx = -1 ∧ dy = 0) ∨ (dx = 0 ∧ dy = 1) ∨ (dx = 0 ∧ dy = -1)
/-- a wall, or out, at step s first -/
def WStop (L W : Nat) (wl : Int → Int → Prop) (x0 y0 dx dy : Int) (s : Nat) : Prop := 1 ≤ s ∧ (∀ j : Nat, 1 ≤ j → j < s → inS L W (x0 + j * dx) (y0 + j * dy) ∧ ¬ wl (x0 + j * dx) (y0 + j * dy)) ∧ (¬ inS L W (x0 + s * dx) (y0 + s * dy) ∨ wl (x0 + s * dx) (y0 + s * dy))
/-- how far a wall or a side is, as the class says -/
def sv (out : Prop) [Decidable out] (dy : Int) (s : Nat) : Int := if out then (if dy = 0 then 1000 else s) else s
theorem inS_dec (L W : Nat) (x y : Int) : inS L W x y ∨ x < 0 ∨ L ≤ x ∨ y < 0 ∨ W ≤ y := by
  unfold inS
  omega
theorem c_steps {dS : DY} (N : Nat) (d0 : DY) (g l w L W n s : Nat) (x0 y0 dx dy : Int) (hv : CV d0 g l w L W n) (hx : inS L W x0 y0) (hd : dirs dx dy) (hs : WStop L W (wlP d0 g) x0 y0 dx dy s) (hs16 : s ≤ 16) (V : Int) (hV : (inS L W (x0 + s * dx) (y0 + s * dy) → V = s) ∧ (¬ inS L W (x0 + s * dx) (y0 + s * dy) → V = if dy = 0 then 1000 else s)) (d : DY) (hk : lkC w d0 dS d) : ∀ r k f : Nat, k + r = s → 1 ≤ k → r < f → F_X8_stepsToWall_23 Z0.1 N f w (iz dx) (iz dy) (iz (x0 + k * dx)) (iz (y0 + k * dy)) (iz k) d = some (iz V, d) := by
  obtain ⟨hG, ⟨L16, W6, n12⟩, ⟨e0, e1, e3⟩, hwall, hpos, hwk⟩ := hv
  obtain ⟨dj, dj2⟩ := cv_dj hG
  obtain ⟨s1, s2, s3⟩ := hs
  have g0 : gi d g 0 = iz L := by rw [hk.1 g 0 (by omega) (by omega)]; exact e0
  have g1 : gi d g 1 = iz W := by rw [hk.1 g 1 (by omega) (by omega)]; exact e1
  unfold inS at hx
  intro r
  induction r with
  | zero =>
    intro k f hkr hk1 hf
    obtain ⟨f, rfl⟩ : ∃ j, f = j + 1 := ⟨f - 1, by omega⟩
    obtain rfl : k = s := by omega
    have bx : -40 ≤ x0 + k * dx ∧ x0 + k * dx ≤ 40 := by rcases hd with ⟨rfl, rfl⟩ | ⟨rfl, rfl⟩ | ⟨rfl, rfl⟩ | ⟨rfl, rfl⟩ <;> omega
    have by' : -40 ≤ y0 + k * dy ∧ y0 + k * dy ≤ 40 := by rcases hd with ⟨rfl, rfl⟩ | ⟨rfl, rfl⟩ | ⟨rfl, rfl⟩ | ⟨rfl, rfl⟩ <;> omega
    have h104 : ¬ inS L W (x0 + k * dx) (y0 + k * dy) → F_X8_stepsToWall_104 Z0.1 N (iz dy) (iz k) d = some (iz V, d) := fun o => by
      rw [F_X8_stepsToWall_104_s, hV.2 o]
      by_cases z : dy = 0
      · rw [if_pos z, if_pos (by rw [z]; rfl)]; rfl
      · rw [if_neg z, if_neg (show ¬ iz dy = 0 from iz_nei (b := 0) (by rcases hd with ⟨rfl, rfl⟩ | ⟨rfl, rfl⟩ | ⟨rfl, rfl⟩ | ⟨rfl, rfl⟩ <;> omega))]
    rw [F_X8_stepsToWall_23_s, if_neg (show ¬ (16 : Int32) < iz (k : Int) from iz_nlt (a := 16) (by omega)), cv_r0 hG, g0, g1, cv_g1 hG]
    generalize hX : x0 + (k : Int) * dx = X at *
    generalize hY : y0 + (k : Int) * dy = Y at *
    by_cases q1 : X < 0
    · rw [if_pos (iz_lt0 (by omega))]
      exact h104 (fun i => by unfold inS at i; omega)
    · rw [if_neg (iz_nlt0 (by omega))]
      by_cases q2 : (L : Int) ≤ X
      · rw [if_pos (iz_lei (by omega))]
        exact h104 (fun i => by unfold inS at i; omega)
      · rw [if_neg (iz_nle (by omega))]
        by_cases q3 : Y < 0
        · rw [if_pos (iz_lt0 (by omega))]
          exact h104 (fun i => by unfold inS at i; omega)
        · rw [if_neg (iz_nlt0 (by omega))]
          by_cases q4 : (W : Int) ≤ Y
          · rw [if_pos (iz_lei (by omega))]
            exact h104 (fun i => by unfold inS at i; omega)
          · have ins : inS L W X Y := by unfold inS; omega
            have m : iz X * (6 : Int32) + iz Y = iz (6 * X + Y) := by
              rw [l_6, iz_mul, iz_add]; exact congrArg iz (by omega)
            have wa : gi d (g + 1) (6 * X + Y).toNat = 1 := by
              rw [hk.1 _ _ (by omega) (by omega)]
              rcases s3 with z | z
              · exact absurd ins z
              · exact z
            rw [if_neg (iz_nle (by omega)), m, if_pos (iz_ib (by omega)), iz_tn (by omega) (by omega), wa, if_neg (by decide), hV.1 ins]
  | succ r ih =>
    intro k f hkr hk1 hf
    obtain ⟨f, rfl⟩ : ∃ j, f = j + 1 := ⟨f - 1, by omega⟩
    obtain ⟨ins, nw⟩ := s2 k hk1 (by omega)
    have ih' := ih (k + 1) f (by omega) (by omega) (by omega)
    have ex : iz (x0 + k * dx) + iz dx = iz (x0 + ((k + 1 : Nat) : Int) * dx) := by
      rw [iz_add]
      refine congrArg iz ?_
      rcases hd with ⟨rfl, rfl⟩ | ⟨rfl, rfl⟩ | ⟨rfl, rfl⟩ | ⟨rfl, rfl⟩ <;> omega
    have ey : iz (y0 + k * dy) + iz dy = iz (y0 + ((k + 1 : Nat) : Int) * dy) := by
      rw [iz_add]
      refine congrArg iz ?_
      rcases hd with ⟨rfl, rfl⟩ | ⟨rfl, rfl⟩ | ⟨rfl, rfl⟩ | ⟨rfl, rfl⟩ <;> omega
    rw [← ex, ← ey] at ih'
    rw [F_X8_stepsToWall_23_s, if_neg (show ¬ (16 : Int32) < iz (k : Int) from iz_nlt (a := 16) (by omega)), cv_r0 hG, g0, g1, cv_g1 hG, show iz (k : Int) + (1 : Int32) = iz ((k + 1 : Nat) : Int) from iz_add k 1]
    generalize hX : x0 + (k : Int) * dx = X at *
    generalize hY : y0 + (k : Int) * dy = Y at *
    have ins' := ins
    unfold inS at ins'
    have m : iz X * (6 : Int32) + iz Y = iz (6 * X + Y) := by
      rw [l_6, iz_mul, iz_add]; exact congrArg iz (by omega)
    have wa : gi d (g + 1) (6 * X + Y).toNat = 0 := by
      rw [hk.1 _ _ (by omega) (by omega)]
      rcases hwall (6 * X + Y).toNat (by omega) with z | z
      · exact z
      · exact absurd z nw
    rw [if_neg (iz_nlt0 (by omega)), if_neg (iz_nle (by omega)), if_neg (iz_nlt0 (by omega)), if_neg (iz_nle (by omega)), m, if_pos (iz_ib (by omega)), iz_tn (by omega) (by omega), wa, if_pos (by decide)]
    exact ih'
