/-! what binds the class's cells to the reference's -/
/-- way, pace, late, haste, hand of walker i of the passage b, and the reference's at place o of cell c -/
def TW (dy : DY) (b i c o : Nat) : Prop := (gi dy (b + 4) i = 1 ∧ gi dy c o = 1 ∨ gi dy (b + 4) i = -1 ∧ gi dy c o = 0) ∧ (∃ p : Nat, 1 ≤ p ∧ p ≤ 4 ∧ gi dy (b + 5) i = iz p ∧ gi dy c (o + 1) = iz p) ∧ (∃ p : Nat, p ≤ 3 ∧ gi dy (b + 6) i = iz p ∧ gi dy c (o + 2) = iz p) ∧ (∃ p : Nat, p ≤ 9 ∧ gi dy (b + 7) i = iz p ∧ gi dy c (o + 3) = iz p) ∧ ∃ p : Nat, p ≤ 2 ∧ gi dy (b + 8) i = iz p ∧ gi dy c (o + 4) = iz p
/-- a passage at b and the reference's place q -/
def PR (dy : DY) (b q : Nat) : Prop := ∃ L W n : Nat, (L ≤ 16 ∧ W ≤ 6 ∧ n ≤ 12) ∧ (gi dy b 0 = iz L ∧ gi dy 516 q = iz L) ∧ (gi dy b 1 = iz W ∧ gi dy 517 q = iz W) ∧ gi dy b 2 = gi dy 519 q ∧ (gi dy b 3 = iz n ∧ gi dy 518 q = iz n) ∧ (∀ i : Nat, i < 96 → gi dy (b + 1) i = gi dy 520 (96 * q + i) ∧ (gi dy (b + 1) i = 0 ∨ gi dy (b + 1) i = 1)) ∧ (∀ i : Nat, i < n → (∃ x : Nat, x < L ∧ gi dy (b + 2) i = iz x ∧ gi dy 521 (8 * (12 * q + i)) = iz x) ∧ (∃ y : Nat, y < W ∧ gi dy (b + 3) i = iz y ∧ gi dy 521 (8 * (12 * q + i) + 1) = iz y) ∧ TW dy b i 521 (8 * (12 * q + i) + 2) ∧ gi dy (b + 9) i = gi dy 521 (8 * (12 * q + i) + 7) ∧ (gi dy (b + 9) i = -1 ∨ ∃ j : Nat, j < n ∧ gi dy (b + 9) i = iz j)) ∧ (∀ i j : Nat, i < n → j < n → gi dy (b + 9) i = iz j → gi dy (b + 9) j = iz i) ∧ ∀ x y : Nat, x < 16 → y < 6 → gi dy (b + 1) (6 * x + y) ≠ 0 → x < L ∧ y < W
/-- a test of a law at b, and the reference's at place o of cell c -/
def TR (dy : DY) (b k c o : Nat) : Prop := ∃ wh : Nat, wh ≤ 10 ∧ gi dy (b + 3) k = iz wh ∧ gi dy c o = iz wh ∧ (gi dy (b + 6) k = 0 ∧ gi dy c (o + 3) = 0 ∨ gi dy (b + 6) k = 1 ∧ gi dy c (o + 3) = 1) ∧ (8 ≤ wh ∧ gi dy (b + 4) k = 2 ∧ gi dy (b + 5) k = 1 ∧ gi dy c (o + 1) = 0 ∨ wh < 8 ∧ gi dy (b + 5) k = gi dy c (o + 2) ∧ (gi dy (b + 4) k = 0 ∧ gi dy c (o + 1) = 60 ∨ gi dy (b + 4) k = 1 ∧ gi dy c (o + 1) = 62 ∨ gi dy (b + 4) k = 2 ∧ gi dy c (o + 1) = 61))
/-- a law at b, and the reference's: so many rules, from place o of cell c -/
def LR (dy : DY) (b : Nat) (rn : Int32) (c o : Nat) : Prop := ∃ n : Nat, n ≤ 16 ∧ gi dy b 0 = iz n ∧ rn = iz n ∧ ∀ r : Nat, r < n → (∃ d : Nat, d ≤ 5 ∧ gi dy (b + 1) r = iz d ∧ gi dy c (o + 18 * r) = iz d) ∧ ∃ t : Nat, t ≤ 4 ∧ gi dy (b + 2) r = iz t ∧ gi dy c (o + 18 * r + 1) = iz t ∧ ∀ k : Nat, k < t → TR dy b (4 * r + k) c (o + 18 * r + 2 + 4 * k)
/-- a walker's place, t tenths ago -/
def PO (dy : DY) (w i t L W o : Nat) : Prop := (gi dy (w + 1) (12 * t + i) = -1 ∧ gi dy (w + 2) (12 * t + i) = -1 ∧ gi dy 531 (o + t) = -1 ∧ gi dy 531 (o + 4 + t) = -1) ∨ ∃ x y : Nat, x < L ∧ y < W ∧ gi dy (w + 1) (12 * t + i) = iz x ∧ gi dy (w + 2) (12 * t + i) = iz y ∧ gi dy 531 (o + t) = iz x ∧ gi dy 531 (o + 4 + t) = iz y
/-- a walker of a walk, and the reference's at place o of the row -/
def RW (dy : DY) (g w L W n M i o : Nat) (ι : Nat → Nat) : Prop := (∀ t : Nat, t < 4 → PO dy w i t L W o) ∧ TW dy g i 531 (o + 8) ∧ ((∃ j : Nat, j < n ∧ gi dy (g + 9) i = iz j ∧ gi dy 531 (o + 13) = iz (ι j : Nat)) ∨ ((∀ j : Nat, j < n → gi dy (g + 9) i ≠ iz j) ∧ (gi dy 531 (o + 13) = -1 ∨ ∃ a : Nat, a < M ∧ gi dy 531 (o + 13) = iz a ∧ ∀ j : Nat, j < n → ι j ≠ a))) ∧ (gi dy (w + 3) i = gi dy 531 (o + 14) ∧ gi dy (w + 4) i = gi dy 531 (o + 15) ∧ gi dy (w + 5) i = gi dy 531 (o + 16) ∧ gi dy (w + 6) i = gi dy 531 (o + 17)) ∧ ∃ v : Nat, v ≤ 99 ∧ gi dy (w + 7) i = iz v ∧ gi dy 531 (o + 18) = iz v
/-- the order of those who go: by haste, then by number -/
def hsI (d : DY) (g i : Nat) : Int := (gi d (g + 7) i).toInt
def bef (d : DY) (g i j : Nat) : Prop := hsI d g j < hsI d g i ∨ (hsI d g i = hsI d g j ∧ i < j)
def ORD (d : DY) (g w n : Nat) : Prop := ∃ od : Nat → Nat, (∀ p : Nat, p < n → od p < n ∧ gi d (w + 9) p = iz (od p : Nat)) ∧ (∀ p q : Nat, p < q → q < n → bef d g (od p) (od q)) ∧ ∀ i : Nat, i < n → ∃ p : Nat, p < n ∧ od p = i
/-- a walk w over the ground g with the law l, and the reference's row r; ι: the walkers' numbers there -/
def RRx (dy : DY) (g l w r : Nat) (ι : Nat → Nat) (L W n M : Nat) : Prop := (L ≤ 16 ∧ W ≤ 6 ∧ n ≤ 12 ∧ M ≤ 12) ∧ (gi dy g 0 = iz L ∧ gi dy 531 (720 * r) = iz L) ∧ (gi dy g 1 = iz W ∧ gi dy 531 (720 * r + 1) = iz W) ∧ (gi dy g 3 = iz n ∧ gi dy 531 (720 * r + 2) = iz M) ∧ (∀ i : Nat, i < 96 → gi dy (g + 1) i = gi dy 531 (720 * r + 256 + i) ∧ (gi dy (g + 1) i = 0 ∨ gi dy (g + 1) i = 1)) ∧ LR dy l (gi dy 531 (720 * r + 9)) 531 (720 * r + 352) ∧ (gi dy w 2 = gi dy 531 (720 * r + 3) ∧ gi dy w 3 = gi dy 531 (720 * r + 4) ∧ gi dy w 4 = gi dy 531 (720 * r + 5) ∧ gi dy w 5 = gi dy 531 (720 * r + 6) ∧ gi dy w 6 = gi dy 531 (720 * r + 8) ∧ gi dy w 7 = gi dy 531 (720 * r + 7)) ∧ ((∀ i : Nat, i < n → ι i < M) ∧ (∀ i j : Nat, i < j → j < n → ι i < ι j)) ∧ (∀ m : Nat, m < M → (∀ i : Nat, i < n → ι i ≠ m) → ∀ t : Nat, t < 4 → gi dy 531 (720 * r + 16 + 20 * m + t) = -1 ∧ gi dy 531 (720 * r + 16 + 20 * m + 4 + t) = -1) ∧ (∀ i : Nat, i < n → RW dy g w L W n M i (720 * r + 16 + 20 * ι i) ι) ∧ (∀ x : Nat, x < 15 → gi dy (w + 11) (5 * x) = gi dy 531 (720 * r + 640 + 5 * x + 3) ∧ gi dy (w + 11) (5 * x + 1) = gi dy 531 (720 * r + 640 + 5 * x + 2) ∧ gi dy (w + 11) (5 * x + 2) = gi dy 531 (720 * r + 640 + 5 * x + 4) ∧ gi dy (w + 11) (5 * x + 3) = gi dy 531 (720 * r + 640 + 5 * x) ∧ gi dy (w + 11) (5 * x + 4) = gi dy 531 (720 * r + 640 + 5 * x + 1)) ∧ ORD dy g w n
def RR (dy : DY) (g l w r : Nat) (ι : Nat → Nat) : Prop := ∃ L W n M : Nat, RRx dy g l w r ι L W n M
/-- the same of a RUN: all its walkers are there from the start -/
def RRn (dy : DY) (g l w r : Nat) : Prop := ∃ L W n : Nat, RRx dy g l w r id L W n n
/-- the Told at t and the reference's slot j -/
def TRel (dy : DY) (t j : Nat) : Prop := tapeR dy t j ∧ (∀ i : Nat, i < 500 → nr 2 (gi dy 511 (500 * j + i)) = gi dy 511 (500 * j + i)) ∧ faultR dy t j ∧ cntR dy t j ∧ cntOk dy t ∧ filmR dy (t + 33) j ∧ filmOk dy (t + 33) ∧ (∀ k : Nat, k < 3 → PR dy (t + 39 + 17 * k) (3 * j + k)) ∧ (∀ k : Nat, k < 3 → LR dy (t + 49 + 17 * k) (gi dy 523 (3 * j + k)) 524 (288 * (3 * j + k))) ∧ gi dy t 11 = gi dy 531 (720 * j + 10) ∧ (gi dy t 11 = 0 ∨ gi dy t 11 = 1 ∧ RRn dy (t + 4) (t + 14) (t + 21) j) ∧ ∀ y : Nat, y < 48 → gi dy (t + 33 + 2) y ≠ -1
/-! the same cells, the same bonds -/
theorem pF_in : ∀ x : Nat, x < 4 → x ∈ pF := by decide
theorem pC_in : ∀ x : Nat, x < 10 → 2 ≤ x → (x, 12) ∈ pC := by decide
theorem lC_16 : ∀ x : Nat, x < 3 → 1 ≤ x → (x, 16) ∈ lC := by decide
theorem lC_64 : ∀ x : Nat, x < 7 → 3 ≤ x → (x, 64) ∈ lC := by decide
theorem wF_in : ∀ x : Nat, x < 8 → 2 ≤ x → x ∈ wF := by decide
def wG : List Nat := [2, 5, 6, 7]
def wH : List (Nat × Nat) := [(1, 48), (2, 48), (3, 12), (4, 12), (5, 12), (6, 12), (7, 12), (9, 12), (11, 75)]
theorem wG_in : ∀ x : Nat, (x = 2 ∨ x = 5 ∨ x = 6 ∨ x = 7) → x ∈ wG := by
  intro x h
  rcases h with rfl | rfl | rfl | rfl <;> decide
theorem wG_sub : ∀ x ∈ wG, x ∈ wF := by decide
theorem wH_sub : ∀ x ∈ wH, x ∈ wC := by decide
theorem wH_48 : ∀ x : Nat, x < 3 → 1 ≤ x → (x, 48) ∈ wH := by decide
theorem wH_12 : ∀ x : Nat, x < 10 → (3 ≤ x ∧ (x < 8 ∨ 8 < x)) → (x, 12) ∈ wH := by decide
theorem wC_48 : ∀ x : Nat, x < 3 → 1 ≤ x → (x, 48) ∈ wC := by decide
theorem wC_12 : ∀ x : Nat, x < 10 → 3 ≤ x → (x, 12) ∈ wC := by decide
theorem TW_of {d e : DY} {b b' i c c' o o' : Nat} (h : TW d b i c o) (h1 : ∀ x : Nat, 4 ≤ x → x ≤ 8 → gi e (b' + x) i = gi d (b + x) i) (h2 : ∀ x : Nat, x ≤ 4 → gi e c' (o' + x) = gi d c (o + x)) : TW e b' i c' o' := by
  unfold TW
  have q := h2 0 (by omega)
  rw [Nat.add_zero, Nat.add_zero] at q
  rw [h1 4 (by omega) (by omega), h1 5 (by omega) (by omega), h1 6 (by omega) (by omega), h1 7 (by omega) (by omega), h1 8 (by omega) (by omega), q, h2 1 (by omega), h2 2 (by omega), h2 3 (by omega), h2 4 (by omega)]
  exact h
theorem PR_of {d e : DY} {b b' q q' : Nat} (h : PR d b q) (hb : blk pF pC b b' d e) (h6 : gi e 516 q' = gi d 516 q) (h7 : gi e 517 q' = gi d 517 q) (h8 : gi e 518 q' = gi d 518 q) (h9 : gi e 519 q' = gi d 519 q) (h20 : ∀ i : Nat, i < 96 → gi e 520 (96 * q' + i) = gi d 520 (96 * q + i)) (h21 : ∀ i : Nat, i < 96 → gi e 521 (96 * q' + i) = gi d 521 (96 * q + i)) : PR e b' q' := by
  obtain ⟨L, W, n, k1, k2, k3, k4, k5, k6, k7, k8, k9⟩ := h
  have f : ∀ x : Nat, x < 4 → gi e b' x = gi d b x := fun x hx => hb.1 x (pF_in x hx)
  have c : ∀ x i : Nat, 2 ≤ x → x ≤ 9 → i < 12 → gi e (b' + x) i = gi d (b + x) i := fun x i h1 h2 h3 => hb.2 (x, 12) (pC_in x (by omega) h1) i h3
  have c1 : ∀ i : Nat, i < 96 → gi e (b' + 1) i = gi d (b + 1) i := fun i h3 => hb.2 (1, 96) (by decide) i h3
  have o : ∀ i x : Nat, i < 12 → x < 8 → gi e 521 (8 * (12 * q' + i) + x) = gi d 521 (8 * (12 * q + i) + x) := fun i x h1 h2 => by
    have := h21 (8 * i + x) (by omega)
    rw [show 8 * (12 * q' + i) + x = 96 * q' + (8 * i + x) by omega, show 8 * (12 * q + i) + x = 96 * q + (8 * i + x) by omega]
    exact this
  refine ⟨L, W, n, k1, ?_, ?_, ?_, ?_, ?_, ?_, ?_, ?_⟩
  · rw [f 0 (by omega), h6]; exact k2
  · rw [f 1 (by omega), h7]; exact k3
  · rw [f 2 (by omega), h9]; exact k4
  · rw [f 3 (by omega), h8]; exact k5
  · intro i hi
    rw [c1 i hi, h20 i hi]
    exact k6 i hi
  · intro i hi
    obtain ⟨m1, m2, m3, m4, m5⟩ := k7 i hi
    have o0 := o i 0 (by omega) (by omega)
    rw [Nat.add_zero, Nat.add_zero] at o0
    rw [c 2 i (by omega) (by omega) (by omega), c 3 i (by omega) (by omega) (by omega), c 9 i (by omega) (by omega) (by omega), o0, o i 1 (by omega) (by omega), o i 7 (by omega) (by omega)]
    exact ⟨m1, m2, TW_of m3 (fun x h1 h2 => c x i (by omega) (by omega) (by omega)) (fun x h1 => by rw [Nat.add_assoc, Nat.add_assoc]; exact o i (2 + x) (by omega) (by omega)), m4, m5⟩
  · intro i j hi hj
    rw [c 9 i (by omega) (by omega) (by omega), c 9 j (by omega) (by omega) (by omega)]
    exact k8 i j hi hj
  · intro x y hx hy
    rw [c1 _ (by omega)]
    exact k9 x y hx hy
theorem TR_of {d e : DY} {b b' k c c' o o' : Nat} (h : TR d b k c o) (h1 : ∀ x : Nat, 3 ≤ x → x ≤ 6 → gi e (b' + x) k = gi d (b + x) k) (h2 : ∀ x : Nat, x ≤ 3 → gi e c' (o' + x) = gi d c (o + x)) : TR e b' k c' o' := by
  unfold TR
  have q := h2 0 (by omega)
  rw [Nat.add_zero, Nat.add_zero] at q
  rw [h1 3 (by omega) (by omega), h1 4 (by omega) (by omega), h1 5 (by omega) (by omega), h1 6 (by omega) (by omega), q, h2 1 (by omega), h2 2 (by omega), h2 3 (by omega)]
  exact h
theorem LR_of {d e : DY} {b b' c c' o o' : Nat} {rn rn' : Int32} (h : LR d b rn c o) (hb : blk lF lC b b' d e) (hr : rn' = rn) (h2 : ∀ i : Nat, i < 288 → gi e c' (o' + i) = gi d c (o + i)) : LR e b' rn' c' o' := by
  obtain ⟨n, k1, k2, k3, k4⟩ := h
  have c12 : ∀ x i : Nat, 1 ≤ x → x ≤ 2 → i < 16 → gi e (b' + x) i = gi d (b + x) i := fun x i h1 h2 h3 => hb.2 (x, 16) (lC_16 x (by omega) h1) i h3
  have c36 : ∀ x i : Nat, 3 ≤ x → x ≤ 6 → i < 64 → gi e (b' + x) i = gi d (b + x) i := fun x i h1 h2 h3 => hb.2 (x, 64) (lC_64 x (by omega) h1) i h3
  refine ⟨n, k1, (hb.1 0 (by decide)).trans k2, hr.trans k3, fun r hr' => ?_⟩
  obtain ⟨⟨x, m1, m2, m3⟩, t, m4, m5, m6, m7⟩ := k4 r hr'
  refine ⟨⟨x, m1, (c12 1 r (by omega) (by omega) (by omega)).trans m2, (h2 (18 * r) (by omega)).trans m3⟩, t, m4, (c12 2 r (by omega) (by omega) (by omega)).trans m5, ?_, fun k hk => TR_of (m7 k hk) (fun x h1 h3 => c36 x _ (by omega) (by omega) (by omega)) (fun x h1 => ?_)⟩
  · have := h2 (18 * r + 1) (by omega)
    rw [← Nat.add_assoc, ← Nat.add_assoc] at this
    exact this.trans m6
  · have := h2 (18 * r + 2 + 4 * k + x) (by omega)
    rw [show o' + (18 * r + 2 + 4 * k + x) = o' + 18 * r + 2 + 4 * k + x by omega, show o + (18 * r + 2 + 4 * k + x) = o + 18 * r + 2 + 4 * k + x by omega] at this
    exact this
theorem RRx_gen {d e : DY} {g l w g' l' w' r r' : Nat} {ι : Nat → Nat} {L W n M : Nat} (h : RRx d g l w r ι L W n M) (hp : blk pF pC g g' d e) (hl' : blk lF lC l l' d e) (hw : blk wG wH w w' d e) (h2 : ∀ i : Nat, i < 720 → i ≠ 4 → i ≠ 5 → gi e 531 (720 * r' + i) = gi d 531 (720 * r + i)) (h4 : gi e w' 3 = gi e 531 (720 * r' + 4)) (h5 : gi e w' 4 = gi e 531 (720 * r' + 5)) : RRx e g' l' w' r' ι L W n M := by
  obtain ⟨k1, k2, k3, k4, k5, k6, k7, k8, k9, k10, k11, od, o1, o2, o3⟩ := h
  have f : ∀ x : Nat, x < 4 → gi e g' x = gi d g x := fun x hx => hp.1 x (pF_in x hx)
  have c : ∀ x i : Nat, 2 ≤ x → x ≤ 9 → i < 12 → gi e (g' + x) i = gi d (g + x) i := fun x i h1 h2 h3 => hp.2 (x, 12) (pC_in x (by omega) h1) i h3
  have c1 : ∀ i : Nat, i < 96 → gi e (g' + 1) i = gi d (g + 1) i := fun i h3 => hp.2 (1, 96) (by decide) i h3
  have fw : ∀ x : Nat, (x = 2 ∨ x = 5 ∨ x = 6 ∨ x = 7) → gi e w' x = gi d w x := fun x h1 => hw.1 x (wG_in x h1)
  have cw : ∀ x i : Nat, 1 ≤ x → x ≤ 2 → i < 48 → gi e (w' + x) i = gi d (w + x) i := fun x i h1 h2 h3 => hw.2 (x, 48) (wH_48 x (by omega) h1) i h3
  have cw3 : ∀ x i : Nat, 3 ≤ x → (x ≤ 7 ∨ x = 9) → i < 12 → gi e (w' + x) i = gi d (w + x) i := fun x i h1 h2 h3 => hw.2 (x, 12) (wH_12 x (by omega) (by omega)) i h3
  have cd : ∀ i : Nat, i < 75 → gi e (w' + 11) i = gi d (w + 11) i := fun i h3 => hw.2 (11, 75) (by decide) i h3
  have o : ∀ y i : Nat, (y + i < 720 ∧ 16 ≤ y) → gi e 531 (720 * r' + y + i) = gi d 531 (720 * r + y + i) := fun y i hy => by
    rw [Nat.add_assoc, Nat.add_assoc]; exact h2 (y + i) hy.1 (by omega) (by omega)
  have o0 := h2 0 (by omega) (by omega) (by omega)
  rw [Nat.add_zero, Nat.add_zero] at o0
  have hh : ∀ i : Nat, i < n → hsI e g' i = hsI d g i := fun i hi => by
    unfold hsI
    rw [c 7 i (by omega) (by omega) (by omega)]
  refine ⟨k1, ?_, ?_, ?_, ?_, ?_, ?_, k8, ?_, ?_, ?_, od, ?_, ?_, o3⟩
  · rw [f 0 (by omega), o0]; exact k2
  · rw [f 1 (by omega), h2 1 (by omega) (by omega) (by omega)]; exact k3
  · rw [f 3 (by omega), h2 2 (by omega) (by omega) (by omega)]; exact k4
  · intro i hi
    rw [c1 i hi, o 256 i (by omega)]
    exact k5 i hi
  · exact LR_of k6 hl' (h2 9 (by omega) (by omega) (by omega)) (fun i hi => o 352 i (by omega))
  · rw [fw 2 (by omega), fw 5 (by omega), fw 6 (by omega), fw 7 (by omega), h2 3 (by omega) (by omega) (by omega), h2 6 (by omega) (by omega) (by omega), h2 7 (by omega) (by omega) (by omega), h2 8 (by omega) (by omega) (by omega)]
    exact ⟨k7.1, h4, h5, k7.2.2.2.1, k7.2.2.2.2.1, k7.2.2.2.2.2⟩
  · intro m hm ha t ht
    have := k9 m hm ha t ht
    have e1 := o (16 + 20 * m) t (by omega)
    have e2 := o (16 + 20 * m + 4) t (by omega)
    rw [← Nat.add_assoc, ← Nat.add_assoc] at e1
    rw [← Nat.add_assoc, ← Nat.add_assoc, ← Nat.add_assoc, ← Nat.add_assoc] at e2
    rw [e1, e2]
    exact this
  · intro i hi
    obtain ⟨m1, m2, m3, m4, m5⟩ := k10 i hi
    have hι := k8.1 i hi
    have q : ∀ x : Nat, x < 20 → gi e 531 (720 * r' + 16 + 20 * ι i + x) = gi d 531 (720 * r + 16 + 20 * ι i + x) := fun x hx => by
      have := h2 (16 + 20 * ι i + x) (by omega) (by omega) (by omega)
      rw [← Nat.add_assoc, ← Nat.add_assoc, ← Nat.add_assoc, ← Nat.add_assoc] at this
      exact this
    refine ⟨fun t ht => ?_, TW_of m2 (fun x h1 h2 => c x i (by omega) (by omega) (by omega)) (fun x h1 => by
      have := q (8 + x) (by omega)
      rw [← Nat.add_assoc, ← Nat.add_assoc] at this
      exact this), ?_, ?_, ?_⟩
    · have := m1 t ht
      unfold PO at this ⊢
      have q4 := q (4 + t) (by omega)
      rw [← Nat.add_assoc, ← Nat.add_assoc] at q4
      rw [cw 1 _ (by omega) (by omega) (by omega), cw 2 _ (by omega) (by omega) (by omega), q t (by omega), q4]
      exact this
    · rw [c 9 i (by omega) (by omega) (by omega), q 13 (by omega)]; exact m3
    · rw [cw3 3 i (by omega) (by omega) (by omega), cw3 4 i (by omega) (by omega) (by omega), cw3 5 i (by omega) (by omega) (by omega), cw3 6 i (by omega) (by omega) (by omega), q 14 (by omega), q 15 (by omega), q 16 (by omega), q 17 (by omega)]; exact m4
    · rw [cw3 7 i (by omega) (by omega) (by omega), q 18 (by omega)]; exact m5
  · intro x hx
    have e0 := o 640 (5 * x) (by omega)
    have e1 := o 640 (5 * x + 1) (by omega)
    have e2 := o 640 (5 * x + 2) (by omega)
    have e3 := o 640 (5 * x + 3) (by omega)
    have e4 := o 640 (5 * x + 4) (by omega)
    rw [← Nat.add_assoc, ← Nat.add_assoc] at e1 e2 e3 e4
    rw [cd _ (by omega), cd _ (by omega), cd _ (by omega), cd _ (by omega), cd _ (by omega), e0, e1, e2, e3, e4]
    exact k11 x hx
  · intro p hp
    rw [cw3 9 p (by omega) (by omega) (by omega)]
    exact o1 p hp
  · intro p q h1 h2
    unfold bef
    rw [hh _ (o1 p (by omega)).1, hh _ (o1 q h2).1]
    exact o2 p q h1 h2
theorem RRx_of {d e : DY} {g l w g' l' w' r r' : Nat} {ι : Nat → Nat} {L W n M : Nat} (h : RRx d g l w r ι L W n M) (hp : blk pF pC g g' d e) (hl' : blk lF lC l l' d e) (hw : blk wF wC w w' d e) (h2 : ∀ i : Nat, i < 720 → gi e 531 (720 * r' + i) = gi d 531 (720 * r + i)) : RRx e g' l' w' r' ι L W n M := by
  have k7 := h.2.2.2.2.2.2.1
  refine RRx_gen h hp hl' ⟨fun f hf => hw.1 f (wG_sub f hf), fun p hp' => hw.2 p (wH_sub p hp')⟩ (fun i hi _ _ => h2 i hi) ?_ ?_
  · rw [hw.1 3 (by decide), h2 4 (by omega)]; exact k7.2.1
  · rw [hw.1 4 (by decide), h2 5 (by omega)]; exact k7.2.2.1
/-- the reference's slots j and j', cell by cell -/
def slot (d e : DY) (j j' : Nat) : Prop := ∀ x ∈ rCells, ∀ i : Nat, i < rsz x → gi e x (rsz x * j' + i) = gi d x (rsz x * j + i)
theorem TRel_of {d e : DY} {t t' j j' : Nat} (h : TRel d t j) (ht : told d e t t') (hs : slot d e j j') : TRel e t' j' := by
  obtain ⟨h1, h2, h3, h4, h5, h6, h7, h8, h9, h10, h11, h12⟩ := h
  obtain ⟨t1, t2, t3, t4, t5, t6, ⟨t7, t8, t9⟩, t10, t11, t12⟩ := ht
  have s1 : ∀ x ∈ rCells, rsz x = 1 → gi e x j' = gi d x j := fun x hx h1 => by
    have := hs x hx 0 (by omega)
    rw [h1, Nat.one_mul, Nat.one_mul, Nat.add_zero, Nat.add_zero] at this
    exact this
  have s511 : ∀ i : Nat, i < 500 → gi e 511 (500 * j' + i) = gi d 511 (500 * j + i) := hs 511 (by decide)
  have s525 : ∀ i : Nat, i < 8 → gi e 525 (8 * j' + i) = gi d 525 (8 * j + i) := hs 525 (by decide)
  have s526 : ∀ i : Nat, i < 48 → gi e 526 (48 * j' + i) = gi d 526 (48 * j + i) := hs 526 (by decide)
  have s527 : ∀ i : Nat, i < 48 → gi e 527 (48 * j' + i) = gi d 527 (48 * j + i) := hs 527 (by decide)
  have s520 : ∀ i : Nat, i < 288 → gi e 520 (288 * j' + i) = gi d 520 (288 * j + i) := hs 520 (by decide)
  have s521 : ∀ i : Nat, i < 288 → gi e 521 (288 * j' + i) = gi d 521 (288 * j + i) := hs 521 (by decide)
  have s524 : ∀ i : Nat, i < 864 → gi e 524 (864 * j' + i) = gi d 524 (864 * j + i) := hs 524 (by decide)
  have s531 : ∀ i : Nat, i < 720 → gi e 531 (720 * j' + i) = gi d 531 (720 * j + i) := hs 531 (by decide)
  have f1 : ∀ i : Nat, i < 8 → gi e (t' + 33 + 1) i = gi d (t + 33 + 1) i := fun i hi => t6.2 (1, 8) (by decide) i hi
  have f2 : ∀ i : Nat, i < 48 → gi e (t' + 33 + 2) i = gi d (t + 33 + 2) i := fun i hi => t6.2 (2, 48) (by decide) i hi
  have f3 : ∀ i : Nat, i < 48 → gi e (t' + 33 + 3) i = gi d (t + 33 + 3) i := fun i hi => t6.2 (3, 48) (by decide) i hi
  refine ⟨⟨?_, ?_, ?_, ?_⟩, ?_, ⟨?_, ?_⟩, ⟨?_, ?_⟩, ?_, ⟨?_, ?_⟩, ?_, ?_, ?_, ?_, ?_, ?_⟩
  · rw [t1 1 (by decide), s1 512 (by decide) rfl]; exact h1.1
  · rw [t1 1 (by decide)]; exact h1.2.1
  · rw [t1 1 (by decide)]; exact h1.2.2.1
  · intro i hi
    rw [t2 i hi, s511 i hi]; exact h1.2.2.2 i hi
  · intro i hi
    rw [s511 i hi]; exact h2 i hi
  · rw [t1 2 (by decide), s1 513 (by decide) rfl]; exact h3.1
  · rw [t1 3 (by decide), s1 514 (by decide) rfl]; exact h3.2
  · rw [t1 5 (by decide), s1 515 (by decide) rfl]; exact h4.1
  · rw [t1 7 (by decide), s1 522 (by decide) rfl]; exact h4.2
  · unfold cntOk
    rw [t1 5 (by decide), t1 7 (by decide)]
    exact h5
  · intro i hi
    rw [f1 i hi, s525 i hi]; exact h6.1 i hi
  · intro i hi
    rw [f2 i hi, f3 i hi, s526 i hi, s527 i hi]; exact h6.2 i hi
  · intro i hi
    rw [f1 i hi]; exact h7 i hi
  · intro k hk
    have b : blk pF pC (t + 39 + 17 * k) (t' + 39 + 17 * k) d e := by
      have : k = 0 ∨ k = 1 ∨ k = 2 := by omega
      rcases this with rfl | rfl | rfl
      · exact t7
      · exact t8
      · exact t9
    refine PR_of (h8 k hk) b (hs 516 (by decide) k hk) (hs 517 (by decide) k hk) (hs 518 (by decide) k hk) (hs 519 (by decide) k hk) (fun i hi => ?_) (fun i hi => ?_)
    · have := s520 (96 * k + i) (by omega)
      rw [show 96 * (3 * j' + k) + i = 288 * j' + (96 * k + i) by omega, show 96 * (3 * j + k) + i = 288 * j + (96 * k + i) by omega]
      exact this
    · have := s521 (96 * k + i) (by omega)
      rw [show 96 * (3 * j' + k) + i = 288 * j' + (96 * k + i) by omega, show 96 * (3 * j + k) + i = 288 * j + (96 * k + i) by omega]
      exact this
  · intro k hk
    have b : blk lF lC (t + 49 + 17 * k) (t' + 49 + 17 * k) d e := by
      have : k = 0 ∨ k = 1 ∨ k = 2 := by omega
      rcases this with rfl | rfl | rfl
      · exact t10
      · exact t11
      · exact t12
    refine LR_of (h9 k hk) b (hs 523 (by decide) k hk) (fun i hi => ?_)
    have := s524 (288 * k + i) (by omega)
    rw [show 288 * (3 * j' + k) + i = 864 * j' + (288 * k + i) by omega, show 288 * (3 * j + k) + i = 864 * j + (288 * k + i) by omega]
    exact this
  · rw [t1 11 (by decide), s531 10 (by omega)]; exact h10
  · rw [t1 11 (by decide)]
    rcases h11 with h | ⟨h, k⟩
    · exact Or.inl h
    · obtain ⟨L, W, n, k⟩ := k
      exact Or.inr ⟨h, L, W, n, RRx_of k t3 t4 t5 s531⟩
  · intro y hy
    rw [f2 y hy]
    exact h12 y hy
