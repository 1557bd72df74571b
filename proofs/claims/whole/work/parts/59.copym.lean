/-! copies in the reference -/
theorem dy_ext (d e : DY) (h : ∀ x k, gi d x k = gi e x k) (h2 : ∀ x k, gl d x k = gl e x k) : d = e :=
  Prod.ext (funext fun x => funext (h x)) (funext fun x => funext (h2 x))
def rsz (x : Nat) : Nat := if x = 511 then 500 else if x = 516 then 3 else if x = 517 then 3 else if x = 518 then 3 else if x = 519 then 3 else if x = 520 then 288 else if x = 521 then 288 else if x = 523 then 3 else if x = 524 then 864 else if x = 525 then 8 else if x = 526 then 48 else if x = 527 then 48 else if x = 531 then 720 else 1
theorem rz_511 : rsz 511 = 500 := rfl
theorem rz_512 : rsz 512 = 1 := rfl
theorem rz_513 : rsz 513 = 1 := rfl
theorem rz_514 : rsz 514 = 1 := rfl
theorem rz_515 : rsz 515 = 1 := rfl
theorem rz_516 : rsz 516 = 3 := rfl
theorem rz_517 : rsz 517 = 3 := rfl
theorem rz_518 : rsz 518 = 3 := rfl
theorem rz_519 : rsz 519 = 3 := rfl
theorem rz_520 : rsz 520 = 288 := rfl
theorem rz_521 : rsz 521 = 288 := rfl
theorem rz_522 : rsz 522 = 1 := rfl
theorem rz_523 : rsz 523 = 3 := rfl
theorem rz_524 : rsz 524 = 864 := rfl
theorem rz_525 : rsz 525 = 8 := rfl
theorem rz_526 : rsz 526 = 48 := rfl
theorem rz_527 : rsz 527 = 48 := rfl
theorem rz_531 : rsz 531 = 720 := rfl
def rCells : List Nat := [511, 512, 513, 514, 515, 516, 517, 518, 519, 520, 521, 522, 523, 524, 525, 526, 527, 531]
def mfold (j j' : Nat) (l : List Nat) (d : DY) : DY := l.foldl (fun d x => cpi d x x (rsz x * j) (rsz x * j') (rsz x)) d
theorem gi_mfold (j j' x k : Nat) : ∀ (l : List Nat) (d : DY), l.Nodup → gi (mfold j j' l d) x k = if x ∈ l ∧ rsz x * j' ≤ k ∧ k < rsz x * j' + rsz x then gi d x (rsz x * j + (k - rsz x * j')) else gi d x k
  | [], d, _ => by rw [if_neg (fun q => by cases q.1)]; rfl
  | y :: r, d, hn => by
    have hn' := List.nodup_cons.mp hn
    have e0 : ∀ i : Nat, gi (cpi d y y (rsz y * j) (rsz y * j') (rsz y)) x i = if x = y ∧ rsz y * j' ≤ i ∧ i < rsz y * j' + rsz y then gi d y (rsz y * j + (i - rsz y * j')) else gi d x i := fun i => gi_cpi_if _ _ _ _ _ _ _ _
    show gi (mfold j j' r (cpi d y y (rsz y * j) (rsz y * j') (rsz y))) x k = _
    rw [gi_mfold j j' x k r _ hn'.2, e0, e0]
    by_cases q : x = y
    · subst q
      rw [if_neg (fun z => hn'.1 z.1)]
      by_cases w : rsz x * j' ≤ k ∧ k < rsz x * j' + rsz x
      · rw [if_pos ⟨rfl, w⟩, if_pos ⟨List.mem_cons_self, w⟩]
      · rw [if_neg (fun z => w z.2), if_neg (fun z => w z.2)]
    · rw [if_neg (show ¬ (x = y ∧ rsz y * j' ≤ rsz x * j + (k - rsz x * j') ∧ rsz x * j + (k - rsz x * j') < rsz y * j' + rsz y) from fun z => q z.1), if_neg (show ¬ (x = y ∧ rsz y * j' ≤ k ∧ k < rsz y * j' + rsz y) from fun z => q z.1)]
      by_cases w : x ∈ r ∧ rsz x * j' ≤ k ∧ k < rsz x * j' + rsz x
      · rw [if_pos w, if_pos ⟨List.mem_cons_of_mem _ w.1, w.2⟩]
      · rw [if_neg w, if_neg (fun z => by
          rcases List.mem_cons.mp z.1 with v | v
          · exact q v
          · exact w ⟨v, z.2⟩)]
theorem gl_mfold (j j' x k : Nat) : ∀ (l : List Nat) (d : DY), gl (mfold j j' l d) x k = gl d x k
  | [], _ => rfl
  | y :: r, d => (gl_mfold j j' x k r (cpi d y y (rsz y * j) (rsz y * j') (rsz y))).trans rfl
theorem cpi_0 (d : DY) (a b sp dp : Nat) : cpi d a b sp dp 0 = d := dy_ext _ _ (fun x k => by rw [gi_cpi_if, if_neg (by omega)]) (fun _ _ => rfl)
theorem cpi_s (d : DY) (x sp dp i : Nat) (h : sp + i < dp ∨ dp + i ≤ sp) : si (cpi d x x sp dp i) x (dp + i) (gi (cpi d x x sp dp i) x (sp + i)) = cpi d x x sp dp (i + 1) := dy_ext _ _ (fun y k => by
    have e1 : gi (cpi d x x sp dp i) x (sp + i) = gi d x (sp + i) := by rw [gi_cpi_if, if_neg (by omega)]
    rw [gi_si_if, e1, gi_cpi_if d x x sp dp i y k, gi_cpi_if d x x sp dp (i + 1) y k]
    by_cases q : y = x ∧ k = dp + i
    · rw [if_pos q, if_pos (by omega), show sp + (k - dp) = sp + i by omega]
    · rw [if_neg q]
      by_cases w : y = x ∧ dp ≤ k ∧ k < dp + i
      · rw [if_pos w, if_pos (by omega)]
      · rw [if_neg w, if_neg (fun z => by
          rcases Nat.lt_or_ge k (dp + i) with v | v
          · exact w ⟨z.1, z.2.1, v⟩
          · exact q ⟨z.1, by omega⟩)]) (fun _ _ => rfl)
theorem m_move3 (N n0 x n a b : Nat) (dy : DY) (hab : a ≠ b) (ha : n * a + n ≤ n0) (hb : n * b + n ≤ n0) (h0 : n0 ≤ 20000) (hn : n ≤ 20000) (ha2 : a < 4) (hb2 : b < 4) : ∀ d k i : Nat, i + d = n → d < k → F_X10_move_3 Z0.1 N n0 k x (iz n) (iz a) (iz b) (iz i) (cpi dy x x (n * a) (n * b) i) = some (cpi dy x x (n * a) (n * b) n) := by
  intro d
  induction d with
  | zero =>
    intro k i hi hk
    obtain ⟨k, rfl⟩ : ∃ j, k = j + 1 := ⟨k - 1, by omega⟩
    obtain rfl : i = n := by omega
    rw [F_X10_move_3_s, if_pos (Int32.le_refl _)]
  | succ d ih =>
    intro k i hi hk
    obtain ⟨k, rfl⟩ : ∃ j, k = j + 1 := ⟨k - 1, by omega⟩
    have m1 : iz (n : Int) * iz (a : Int) + iz (i : Int) = iz ((n * a + i : Nat) : Int) := by
      rw [iz_mul, iz_add]; rfl
    have m2 : iz (n : Int) * iz (b : Int) + iz (i : Int) = iz ((n * b + i : Nat) : Int) := by
      rw [iz_mul, iz_add]; rfl
    have hd : n * a + i < n * b ∨ n * b + i ≤ n * a := by
      rcases Nat.lt_or_gt_of_ne hab with c | c
      · left
        have : n * (a + 1) ≤ n * b := Nat.mul_le_mul_left n c
        rw [Nat.mul_add, Nat.mul_one] at this
        omega
      · right
        have : n * (b + 1) ≤ n * a := Nat.mul_le_mul_left n c
        rw [Nat.mul_add, Nat.mul_one] at this
        omega
    rw [F_X10_move_3_s, if_neg (show ¬ iz (n : Int) ≤ iz (i : Int) from iz_nle (by omega)), m1, m2, if_pos (iz_ib (by omega)), if_pos (iz_ib (by omega)), bd_eq, tnn _ (n * b + i) rfl (by omega), tnn _ (n * a + i) rfl (by omega), cpi_s _ _ _ _ _ hd, show iz (i : Int) + (1 : Int32) = iz ((i + 1 : Nat) : Int) from iz_add i 1]
    exact ih k (i + 1) (by omega) (by omega)
theorem m_move (N n0 x n a b : Nat) (dy : DY) (hN : n < N) (hab : a ≠ b) (ha : n * a + n ≤ n0) (hb : n * b + n ≤ n0) (h0 : n0 ≤ 20000) (hn : n ≤ 20000) (ha2 : a < 4) (hb2 : b < 4) : F_X10_move Z0.1 N n0 x (iz n) (iz a) (iz b) dy = some (cpi dy x x (n * a) (n * b) n) := by
  have := m_move3 N n0 x n a b dy hab ha hb h0 hn ha2 hb2 n N 0 (by omega) hN
  rw [cpi_0] at this
  rw [F_X10_move_s]
  exact this
theorem m_copy2 (N j j' : Nat) (dy : DY) (hN : 900 ≤ N) (hj : j < 4) (hj' : j' < 4) (hne : j ≠ j') (hb : ∀ i, i < 500 → nr 2 (gi dy 511 (500 * j + i)) = gi dy 511 (500 * j + i)) : ∀ d k i : Nat, i + d = 500 → d < k → F_X10_copy_2 Z0.1 N k 510 (iz j) (iz j') (iz i) (cpi dy 511 511 (500 * j) (500 * j') i) = some (mfold j j' rCells dy) := by
  intro d
  induction d with
  | zero =>
    intro k i hi hk
    obtain ⟨k, rfl⟩ : ∃ j, k = j + 1 := ⟨k - 1, by omega⟩
    obtain rfl : i = 500 := by omega
    have v1 : ∀ (x y : Nat) (h : gr Z0.1 510 y = x) (d : DY), F_X10_move Z0.1 N 4 (gr Z0.1 510 y) (1 : Int32) (iz j) (iz j') d = some (cpi d x x (1 * j) (1 * j') 1) := fun x y h d => by
      rw [h]
      exact m_move N 4 x 1 j j' d (by omega) hne (by omega) (by omega) (by omega) (by omega) hj hj'
    have v3 : ∀ (x y : Nat) (h : gr Z0.1 510 y = x) (d : DY), F_X10_move Z0.1 N 12 (gr Z0.1 510 y) (3 : Int32) (iz j) (iz j') d = some (cpi d x x (3 * j) (3 * j') 3) := fun x y h d => by
      rw [h]
      exact m_move N 12 x 3 j j' d (by omega) hne (by omega) (by omega) (by omega) (by omega) hj hj'
    have v288 : ∀ (x y : Nat) (h : gr Z0.1 510 y = x) (d : DY), F_X10_move Z0.1 N 1152 (gr Z0.1 510 y) (288 : Int32) (iz j) (iz j') d = some (cpi d x x (288 * j) (288 * j') 288) := fun x y h d => by
      rw [h]
      exact m_move N 1152 x 288 j j' d (by omega) hne (by omega) (by omega) (by omega) (by omega) hj hj'
    have v864 : ∀ (x y : Nat) (h : gr Z0.1 510 y = x) (d : DY), F_X10_move Z0.1 N 3456 (gr Z0.1 510 y) (864 : Int32) (iz j) (iz j') d = some (cpi d x x (864 * j) (864 * j') 864) := fun x y h d => by
      rw [h]
      exact m_move N 3456 x 864 j j' d (by omega) hne (by omega) (by omega) (by omega) (by omega) hj hj'
    have v8 : ∀ (x y : Nat) (h : gr Z0.1 510 y = x) (d : DY), F_X10_move Z0.1 N 32 (gr Z0.1 510 y) (8 : Int32) (iz j) (iz j') d = some (cpi d x x (8 * j) (8 * j') 8) := fun x y h d => by
      rw [h]
      exact m_move N 32 x 8 j j' d (by omega) hne (by omega) (by omega) (by omega) (by omega) hj hj'
    have v48 : ∀ (x y : Nat) (h : gr Z0.1 510 y = x) (d : DY), F_X10_move Z0.1 N 192 (gr Z0.1 510 y) (48 : Int32) (iz j) (iz j') d = some (cpi d x x (48 * j) (48 * j') 48) := fun x y h d => by
      rw [h]
      exact m_move N 192 x 48 j j' d (by omega) hne (by omega) (by omega) (by omega) (by omega) hj hj'
    have v720 : ∀ (x y : Nat) (h : gr Z0.1 510 y = x) (d : DY), F_X10_move Z0.1 N 10080 (gr Z0.1 510 y) (720 : Int32) (iz j) (iz j') d = some (cpi d x x (720 * j) (720 * j') 720) := fun x y h d => by
      rw [h]
      exact m_move N 10080 x 720 j j' d (by omega) hne (by omega) (by omega) (by omega) (by omega) hj hj'
    rw [F_X10_copy_2_s, if_pos (show (500 : Int32) ≤ iz ((500 : Nat) : Int) from iz_lei (a := 500) (by omega))]
    refine bnd (v1 512 2 r_510_2 _) ?_
    refine bnd (v1 513 3 r_510_3 _) ?_
    refine bnd (v1 514 4 r_510_4 _) ?_
    refine bnd (v1 515 5 r_510_5 _) ?_
    refine bnd (v3 516 6 r_510_6 _) ?_
    refine bnd (v3 517 7 r_510_7 _) ?_
    refine bnd (v3 518 8 r_510_8 _) ?_
    refine bnd (v3 519 9 r_510_9 _) ?_
    refine bnd (v288 520 10 r_510_10 _) ?_
    refine bnd (v288 521 11 r_510_11 _) ?_
    refine bnd (v1 522 12 r_510_12 _) ?_
    refine bnd (v3 523 13 r_510_13 _) ?_
    refine bnd (v864 524 14 r_510_14 _) ?_
    refine bnd (v8 525 15 r_510_15 _) ?_
    refine bnd (v48 526 16 r_510_16 _) ?_
    refine bnd (v48 527 17 r_510_17 _) ?_
    refine bnd (v720 531 39 r_510_39 _) ?_
    unfold mfold rCells
    simp only [List.foldl_cons, List.foldl_nil, rz_511, rz_512, rz_513, rz_514, rz_515, rz_516, rz_517, rz_518, rz_519, rz_520, rz_521, rz_522, rz_523, rz_524, rz_525, rz_526, rz_527, rz_531]
  | succ d ih =>
    intro k i hi hk
    obtain ⟨k, rfl⟩ : ∃ j, k = j + 1 := ⟨k - 1, by omega⟩
    have m1 : (500 : Int32) * iz (j : Int) + iz (i : Int) = iz ((500 * j + i : Nat) : Int) := by
      rw [l_500, iz_mul, iz_add]; exact congrArg iz (by omega)
    have m2 : (500 : Int32) * iz (j' : Int) + iz (i : Int) = iz ((500 * j' + i : Nat) : Int) := by
      rw [l_500, iz_mul, iz_add]; exact congrArg iz (by omega)
    have hd : 500 * j + i < 500 * j' ∨ 500 * j' + i ≤ 500 * j := by omega
    have eb : nr 2 (gi (cpi dy 511 511 (500 * j) (500 * j') i) 511 (500 * j + i)) = gi (cpi dy 511 511 (500 * j) (500 * j') i) 511 (500 * j + i) := by
      rw [gi_cpi_if, if_neg (by omega)]
      exact hb i (by omega)
    rw [F_X10_copy_2_s, if_neg (show ¬ (500 : Int32) ≤ iz (i : Int) from iz_nle (a := 500) (by omega)), m1, m2, if_pos (iz_ib (by omega)), if_pos (iz_ib (by omega)), bd_eq, r_510_1, tnn _ (500 * j' + i) rfl (by omega), tnn _ (500 * j + i) rfl (by omega), eb, cpi_s _ _ _ _ _ hd, show iz (i : Int) + (1 : Int32) = iz ((i + 1 : Nat) : Int) from iz_add i 1]
    exact ih k (i + 1) (by omega) (by omega)
theorem m_copy (N j j' : Nat) (dy : DY) (hN : 900 ≤ N) (hj : j < 4) (hj' : j' < 4) (hne : j ≠ j') (hb : ∀ i, i < 500 → nr 2 (gi dy 511 (500 * j + i)) = gi dy 511 (500 * j + i)) : F_X10_copy Z0.1 N 510 (iz j) (iz j') dy = some (mfold j j' rCells dy) := by
  have := m_copy2 N j j' dy hN hj hj' hne hb 500 N 0 (by omega) (by omega)
  rw [cpi_0] at this
  rw [F_X10_copy_s]
  exact this
