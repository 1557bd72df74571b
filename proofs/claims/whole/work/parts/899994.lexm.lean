/-! the tape, token by token: the reference -/
def uB (z : Int) : Int := if z < 0 then z + 256 else z
theorem uB_b {z : Int} (h : -128 ≤ z ∧ z ≤ 127) : 0 ≤ uB z ∧ uB z ≤ 255 ∧ (∀ k : Int, k < 128 → (uB z < k ↔ z < k ∧ 0 ≤ z)) ∧ ∀ k : Int, 0 ≤ k → k < 128 → (uB z = k ↔ z = k) := by
  unfold uB
  by_cases a : z < 0
  · rw [if_pos a]
    exact ⟨by omega, by omega, fun k _ => by omega, fun k _ _ => by omega⟩
  · rw [if_neg a]
    exact ⟨by omega, by omega, fun k _ => by omega, fun k _ _ => by omega⟩
theorem and_b {z : Int} (h : -128 ≤ z ∧ z ≤ 127) : iz z &&& (255 : Int32) = iz (uB z) := by
  have : ∀ z : Fin 256, (iz ((z.1 : Int) - 128) &&& (255 : Int32)) = iz (uB ((z.1 : Int) - 128)) := by
    unfold uB
    decide +kernel
  have q := this ⟨(z + 128).toNat, by omega⟩
  rw [show (((⟨(z + 128).toNat, by omega⟩ : Fin 256).1 : Nat) : Int) - 128 = z by show (((z + 128).toNat : Nat) : Int) - 128 = z; omega] at q
  exact q
def BYM (m : DY) (Z : Nat → Int) : Prop := ∀ i : Nat, i < 500 → gi m 511 i = iz (Z i) ∧ -128 ≤ Z i ∧ Z i ≤ 127
def frY (m e : DY) : Prop := (∀ x k : Nat, ¬ (x = 510 ∧ (k = 18 ∨ k = 20 ∨ k = 21 ∨ k = 22)) → gi e x k = gi m x k) ∧ ∀ x k : Nat, ¬ (x = 510 ∧ k = 23) → gl e x k = gl m x k
theorem frY_re (c : DY) : frY c c := ⟨fun _ _ _ => rfl, fun _ _ _ => rfl⟩
theorem frY_tr {a b c : DY} (h : frY a b) (k : frY b c) : frY a c := ⟨fun x y q => (k.1 x y q).trans (h.1 x y q), fun x y q => (k.2 x y q).trans (h.2 x y q)⟩
theorem frY_si (c : DY) (k : Nat) (v : Int32) (h : k = 18 ∨ k = 20 ∨ k = 21 ∨ k = 22) : frY c (si c 510 k v) := ⟨fun x y q => by rw [gi_si_if, if_neg (by omega)], fun _ _ _ => rfl⟩
theorem gi_sl (c : DY) (a k : Nat) (v : Int64) (x y : Nat) : gi (sl c a k v) x y = gi c x y := rfl
theorem gl_si (c : DY) (a k : Nat) (v : Int32) (x y : Nat) : gl (si c a k v) x y = gl c x y := rfl
theorem gl_slE (c : DY) (a k : Nat) (v : Int64) : gl (sl c a k v) a k = v := by
  unfold gl sl up2
  simp
theorem gl_slN (c : DY) (a k : Nat) (v : Int64) (x y : Nat) (h : ¬ (x = a ∧ y = k)) : gl (sl c a k v) x y = gl c x y := by
  unfold gl sl up2
  simp only
  split
  · rename_i q
    exact absurd q h
  · rfl
theorem frY_sl (c : DY) (v : Int64) : frY c (sl c 510 23 v) := ⟨fun _ _ _ => rfl, fun x y q => gl_slN c 510 23 v x y q⟩
theorem BYM_fr {c e : DY} {Z : Nat → Int} (h : BYM c Z) (k : frY c e) : BYM e Z := fun i hi => by
  rw [k.1 511 i (by omega)]
  exact h i hi
theorem m_see (N sz a : Nat) (Z : Nat → Int) (m : DY) (h5 : sz ≤ 500) (ha : a ≤ sz) (h1 : gi m 510 19 = iz sz) (h4 : gi m 510 18 = iz a) (hZ : BYM m Z) : F_X10_see Z0.1 N 510 m = some (if sz ≤ a then -1 else iz (uB (Z a)), m) := by
  rw [F_X10_see_s, h1, h4]
  by_cases z : sz ≤ a
  · rw [if_pos (show iz (sz : Int) ≤ iz (a : Int) from iz_lei (by omega)), if_pos z]
  · obtain ⟨b1, b2⟩ := hZ a (by omega)
    rw [if_neg (show ¬ iz (sz : Int) ≤ iz (a : Int) from iz_nle (by omega)), if_pos (show ib (iz (a : Int)) 2000 from iz_ib (by omega)), r_510_1, tnn _ a rfl (by omega), b1, nr_b b2, and_b b2, if_neg z]
theorem in_lt (S : ST) (N : Nat) (z : Int) (d : DY) (h : -128 ≤ z ∧ z ≤ 127) : F_X10_in S N (iz (uB z)) (97 : Int32) (122 : Int32) d = some (if isLt z = true then 1 else 0, d) := by
  obtain ⟨u1, u2, u3, u4⟩ := uB_b h
  have k := u3 97 (by omega)
  have k2 := u3 123 (by omega)
  rw [m_in]
  unfold isLt
  by_cases a : uB z < 97
  · rw [if_pos (show iz (uB z) < (97 : Int32) from iz_lti (b := 97) (by omega)), if_neg (by rw [decide_eq_true_eq]; omega)]
  · rw [if_neg (show ¬ iz (uB z) < (97 : Int32) from iz_nlt (b := 97) (by omega))]
    by_cases b : 122 < uB z
    · rw [if_pos (show (122 : Int32) < iz (uB z) from iz_lti (a := 122) (by omega)), if_neg (by rw [decide_eq_true_eq]; omega)]
    · rw [if_neg (show ¬ (122 : Int32) < iz (uB z) from iz_nlt (a := 122) (by omega)), if_pos (by rw [decide_eq_true_eq]; omega)]
theorem in_dg (S : ST) (N : Nat) (z : Int) (d : DY) (h : -128 ≤ z ∧ z ≤ 127) : F_X10_in S N (iz (uB z)) (48 : Int32) (57 : Int32) d = some (if isDg z = true then 1 else 0, d) := by
  obtain ⟨u1, u2, u3, u4⟩ := uB_b h
  have k := u3 48 (by omega)
  have k2 := u3 58 (by omega)
  rw [m_in]
  unfold isDg
  by_cases a : uB z < 48
  · rw [if_pos (show iz (uB z) < (48 : Int32) from iz_lti (b := 48) (by omega)), if_neg (by rw [decide_eq_true_eq]; omega)]
  · rw [if_neg (show ¬ iz (uB z) < (48 : Int32) from iz_nlt (b := 48) (by omega))]
    by_cases b : 57 < uB z
    · rw [if_pos (show (57 : Int32) < iz (uB z) from iz_lti (a := 57) (by omega)), if_neg (by rw [decide_eq_true_eq]; omega)]
    · rw [if_neg (show ¬ (57 : Int32) < iz (uB z) from iz_nlt (a := 57) (by omega)), if_pos (by rw [decide_eq_true_eq]; omega)]
theorem in_m1 (S : ST) (N : Nat) (a b : Nat) (d : DY) (h : a < 1000) : F_X10_in S N (-1) (iz a) (iz b) d = some (0, d) := by
  rw [m_in, l_m1, if_pos (iz_lti (by omega))]
theorem uB_lt {z : Int} (h : isLt z = true ∨ isDg z = true) : uB z = z := by
  unfold uB
  unfold isLt isDg at h
  rw [decide_eq_true_eq, decide_eq_true_eq] at h
  rw [if_neg (by omega)]
/-- the letters of a word, packed -/
def wd (Z : Nat → Int) (f : Nat) : Nat → Int64
  | 0 => 0
  | n + 1 => ((wd Z f n) <<< (((8 : Int32)).toInt64 &&& 63)) ||| (iz (Z (f + n))).toInt64
theorem m_74 (N sz f : Nat) (Z : Nat → Int) (h5 : sz ≤ 500) : ∀ (q t k : Nat) (m : DY), t + q = sz → f ≤ t → q < k → gi m 510 19 = iz sz → gi m 510 18 = iz t → BYM m Z → gl m 510 23 = wd Z f (t - f) → ∃ e : DY, F_X10_token_74 Z0.1 N k 510 (iz ((t - f : Nat) : Int)) m = some e ∧ gi e 510 18 = iz (rn Z isLt q t : Nat) ∧ gi e 510 21 = 2 ∧ gl e 510 23 = (if rn Z isLt q t - f ≤ 8 then wd Z f (rn Z isLt q t - f) else 0) ∧ (∀ x i : Nat, ¬ (x = 510 ∧ (i = 18 ∨ i = 21)) → gi e x i = gi m x i) ∧ ∀ x i : Nat, ¬ (x = 510 ∧ i = 23) → gl e x i = gl m x i := by
  have n1 : ¬ (1 : Int32) = 0 := by decide
  have fin : ∀ (t : Nat) (m : DY), t ≤ 500 → gl m 510 23 = wd Z f (t - f) → gi m 510 18 = iz t → ∃ e : DY, (if iz ((t - f : Nat) : Int) ≤ (8 : Int32) then (F_X10_token_136 Z0.1 N) 510 510 (gl m 510 23) m else (F_X10_token_136 Z0.1 N) 510 510 (0 : Int64) m) = some e ∧ gi e 510 18 = iz t ∧ gi e 510 21 = 2 ∧ gl e 510 23 = (if t - f ≤ 8 then wd Z f (t - f) else 0) ∧ (∀ x i : Nat, ¬ (x = 510 ∧ (i = 18 ∨ i = 21)) → gi e x i = gi m x i) ∧ ∀ x i : Nat, ¬ (x = 510 ∧ i = 23) → gl e x i = gl m x i := fun t m ht hg h18 => by
    have t136 : ∀ v : Int64, F_X10_token_136 Z0.1 N 510 510 v m = some (si (sl m 510 23 v) 510 21 2) := fun v => by rw [F_X10_token_136_s, bd_eq, bd_eq]
    have go : ∀ v : Int64, gi (si (sl m 510 23 v) 510 21 2) 510 18 = iz t ∧ gi (si (sl m 510 23 v) 510 21 2) 510 21 = 2 ∧ gl (si (sl m 510 23 v) 510 21 2) 510 23 = v ∧ (∀ x i : Nat, ¬ (x = 510 ∧ (i = 18 ∨ i = 21)) → gi (si (sl m 510 23 v) 510 21 2) x i = gi m x i) ∧ ∀ x i : Nat, ¬ (x = 510 ∧ i = 23) → gl (si (sl m 510 23 v) 510 21 2) x i = gl m x i := fun v => ⟨by rw [gi_si_if, if_neg (by omega), gi_sl]; exact h18, by rw [gi_si_if, if_pos ⟨rfl, rfl⟩], by rw [gl_si, gl_slE], fun x i h => by rw [gi_si_if, if_neg (by omega), gi_sl], fun x i h => by rw [gl_si, gl_slN _ _ _ _ _ _ h]⟩
    by_cases z : t - f ≤ 8
    · rw [if_pos (show iz ((t - f : Nat) : Int) ≤ (8 : Int32) from iz_lei (b := 8) (by omega)), if_pos z, t136, hg]
      obtain ⟨a, b, c, d, e⟩ := go (wd Z f (t - f))
      exact ⟨_, rfl, a, b, c, d, e⟩
    · rw [if_neg (show ¬ iz ((t - f : Nat) : Int) ≤ (8 : Int32) from iz_nle (b := 8) (by omega)), if_neg z, t136]
      obtain ⟨a, b, c, d, e⟩ := go 0
      exact ⟨_, rfl, a, b, c, d, e⟩
  intro q
  induction q with
  | zero =>
    intro t k m hq hf hk h1 h4 hZ hg
    obtain ⟨k, rfl⟩ : ∃ j, k = j + 1 := ⟨k - 1, by omega⟩
    have S := m_see N sz t Z m h5 (by omega) h1 h4 hZ
    rw [if_pos (by omega)] at S
    obtain ⟨e, u1, u2⟩ := fin t m (by omega) hg h4
    refine ⟨e, ?_, u2⟩
    rw [F_X10_token_74_s]
    refine bnd S (bnd (show F_X10_in Z0.1 N (-1) (97 : Int32) (122 : Int32) m = some (0, m) from in_m1 Z0.1 N 97 122 m (by omega)) ?_)
    exact (if_pos rfl).trans u1
  | succ q ih =>
    intro t k m hq hf hk h1 h4 hZ hg
    obtain ⟨k, rfl⟩ : ∃ j, k = j + 1 := ⟨k - 1, by omega⟩
    obtain ⟨b1, b2⟩ := hZ t (by omega)
    have S := m_see N sz t Z m h5 (by omega) h1 h4 hZ
    rw [if_neg (by omega)] at S
    have I := in_lt Z0.1 N (Z t) m b2
    rw [rn_s]
    by_cases z : isLt (Z t) = true
    · rw [if_pos z] at I
      have uz := uB_lt (Or.inl z)
      obtain ⟨e, u1, u2, u3, u4, u5, u6⟩ := ih (t + 1) k (si (sl m 510 23 (wd Z f (t + 1 - f))) 510 18 (iz ((t + 1 : Nat) : Int))) (by omega) (by omega) (by omega) (by rw [gi_si_if, if_neg (by omega), gi_sl]; exact h1) (by rw [gi_si_if, if_pos ⟨rfl, rfl⟩]) (fun i hi => by rw [gi_si_if, if_neg (by omega), gi_sl]; exact hZ i hi) (by rw [gl_si, gl_slE])
      rw [if_pos z]
      refine ⟨e, ?_, u2, u3, u4, fun x i h => by rw [u5 x i h, gi_si_if, if_neg (by omega), gi_sl], fun x i h => by rw [u6 x i h, gl_si, gl_slN _ _ _ _ _ _ h]⟩
      rw [F_X10_token_74_s]
      refine bnd S (bnd I ((if_neg n1).trans (bnd S ?_)))
      rw [bd_eq, bd_eq]
      show F_X10_token_74 Z0.1 N k 510 (iz ((t - f : Nat) : Int) + 1) (si (sl m 510 23 (gl m 510 23 <<< ((8 : Int32).toInt64 &&& 63) ||| (iz (uB (Z t))).toInt64)) 510 18 (gi m 510 18 + 1)) = some e
      rw [hg, uz, h4, show iz (t : Int) + (1 : Int32) = iz ((t + 1 : Nat) : Int) from iz_add t 1, show iz ((t - f : Nat) : Int) + (1 : Int32) = iz ((t - f + 1 : Nat) : Int) from iz_add _ 1, show t - f + 1 = t + 1 - f by omega]
      have e2 : wd Z f (t + 1 - f) = wd Z f (t - f) <<< ((8 : Int32).toInt64 &&& 63) ||| (iz (Z t)).toInt64 := by
        rw [show t + 1 - f = t - f + 1 by omega]
        show wd Z f (t - f) <<< ((8 : Int32).toInt64 &&& 63) ||| (iz (Z (f + (t - f)))).toInt64 = _
        rw [show f + (t - f) = t by omega]
      rw [← e2]
      exact u1
    · rw [if_neg z] at I
      rw [if_neg z]
      obtain ⟨e, u1, u2⟩ := fin t m (by omega) hg h4
      refine ⟨e, ?_, u2⟩
      rw [F_X10_token_74_s]
      exact bnd S (bnd I ((if_pos rfl).trans u1))
theorem m_163 (N sz f : Nat) (Z : Nat → Int) (h5 : sz ≤ 500) : ∀ (q t k : Nat) (m : DY), t + q = sz → f ≤ t → q < k → gi m 510 19 = iz sz → gi m 510 18 = iz t → BYM m Z → (t - f ≤ 3 → gi m 510 22 = iz (dV Z f (t - f))) → ∃ e : DY, F_X10_token_163 Z0.1 N k 510 (iz ((t - f : Nat) : Int)) m = some e ∧ gi e 510 18 = iz (rn Z isDg q t : Nat) ∧ gi e 510 21 = (if rn Z isDg q t - f ≤ 3 then 3 else 1) ∧ (rn Z isDg q t - f ≤ 3 → gi e 510 22 = iz (dV Z f (rn Z isDg q t - f))) ∧ (∀ x i : Nat, ¬ (x = 510 ∧ (i = 18 ∨ i = 21 ∨ i = 22)) → gi e x i = gi m x i) ∧ ∀ x i : Nat, gl e x i = gl m x i := by
  have n1 : ¬ (1 : Int32) = 0 := by decide
  have fin : ∀ (t : Nat) (m : DY), t ≤ 500 → gi m 510 18 = iz t → (t - f ≤ 3 → gi m 510 22 = iz (dV Z f (t - f))) → ∃ e : DY, (if iz ((t - f : Nat) : Int) ≤ (3 : Int32) then (F_X10_token_235 Z0.1 N) 510 (3 : Int32) m else (F_X10_token_235 Z0.1 N) 510 (1 : Int32) m) = some e ∧ gi e 510 18 = iz t ∧ gi e 510 21 = (if t - f ≤ 3 then 3 else 1) ∧ (t - f ≤ 3 → gi e 510 22 = iz (dV Z f (t - f))) ∧ (∀ x i : Nat, ¬ (x = 510 ∧ (i = 18 ∨ i = 21 ∨ i = 22)) → gi e x i = gi m x i) ∧ ∀ x i : Nat, gl e x i = gl m x i := fun t m ht h18 hv => by
    rw [F_X10_token_235_s, F_X10_token_235_s, bd_eq, bd_eq]
    by_cases z : t - f ≤ 3
    · rw [if_pos (show iz ((t - f : Nat) : Int) ≤ (3 : Int32) from iz_lei (b := 3) (by omega)), if_pos z]
      exact ⟨_, rfl, by rw [gi_si_if, if_neg (by omega)]; exact h18, by rw [gi_si_if, if_pos ⟨rfl, rfl⟩], fun _ => by rw [gi_si_if, if_neg (by omega)]; exact hv z, fun x i h => by rw [gi_si_if, if_neg (by omega)], fun _ _ => rfl⟩
    · rw [if_neg (show ¬ iz ((t - f : Nat) : Int) ≤ (3 : Int32) from iz_nle (b := 3) (by omega)), if_neg z]
      exact ⟨_, rfl, by rw [gi_si_if, if_neg (by omega)]; exact h18, by rw [gi_si_if, if_pos ⟨rfl, rfl⟩], fun h => absurd h z, fun x i h => by rw [gi_si_if, if_neg (by omega)], fun _ _ => rfl⟩
  intro q
  induction q with
  | zero =>
    intro t k m hq hf hk h1 h4 hZ hv
    obtain ⟨k, rfl⟩ : ∃ j, k = j + 1 := ⟨k - 1, by omega⟩
    have S := m_see N sz t Z m h5 (by omega) h1 h4 hZ
    rw [if_pos (by omega)] at S
    obtain ⟨e, u1, u2⟩ := fin t m (by omega) h4 hv
    refine ⟨e, ?_, u2⟩
    rw [F_X10_token_163_s]
    refine bnd S (bnd (show F_X10_in Z0.1 N (-1) (48 : Int32) (57 : Int32) m = some (0, m) from in_m1 Z0.1 N 48 57 m (by omega)) ?_)
    exact (if_pos rfl).trans u1
  | succ q ih =>
    intro t k m hq hf hk h1 h4 hZ hv
    obtain ⟨k, rfl⟩ : ∃ j, k = j + 1 := ⟨k - 1, by omega⟩
    obtain ⟨b1, b2⟩ := hZ t (by omega)
    have S := m_see N sz t Z m h5 (by omega) h1 h4 hZ
    rw [if_neg (by omega)] at S
    have I := in_dg Z0.1 N (Z t) m b2
    rw [rn_s]
    by_cases z : isDg (Z t) = true
    · rw [if_pos z] at I
      have uz := uB_lt (Or.inr z)
      have nx := fun (v : Int32) (hv' : t + 1 - f ≤ 3 → v = iz (dV Z f (t + 1 - f))) => ih (t + 1) k (si (si m 510 22 v) 510 18 (iz ((t + 1 : Nat) : Int))) (by omega) (by omega) (by omega) (by rw [gi_si_if, if_neg (by omega), gi_si_if, if_neg (by omega)]; exact h1) (by rw [gi_si_if, if_pos ⟨rfl, rfl⟩]) (fun i hi => by rw [gi_si_if, if_neg (by omega), gi_si_if, if_neg (by omega)]; exact hZ i hi) (fun h => by rw [gi_si_if, if_neg (by omega), gi_si_if, if_pos ⟨rfl, rfl⟩]; exact hv' h)
      have s205 : ∀ v : Int32, F_X10_token_205 Z0.1 N (F_X10_token_163 Z0.1 N k) 510 (iz ((t - f : Nat) : Int)) 510 v m = F_X10_token_163 Z0.1 N k 510 (iz ((t + 1 - f : Nat) : Int)) (si (si m 510 22 v) 510 18 (iz ((t + 1 : Nat) : Int))) := fun v => by
        rw [F_X10_token_205_s, bd_eq, bd_eq, show gi (si m 510 22 v) 510 18 = iz t from by rw [gi_si_if, if_neg (by omega)]; exact h4, show iz (t : Int) + (1 : Int32) = iz ((t + 1 : Nat) : Int) from iz_add t 1, show iz ((t - f : Nat) : Int) + (1 : Int32) = iz ((t - f + 1 : Nat) : Int) from iz_add _ 1, show t - f + 1 = t + 1 - f by omega]
      rw [if_pos z]
      by_cases y : 3 ≤ t - f
      · obtain ⟨e, u1, u2, u3, u4, u5, u6⟩ := nx (gi m 510 22) (fun h => by omega)
        refine ⟨e, ?_, u2, u3, u4, fun x i h => by rw [u5 x i h, gi_si_if, if_neg (by omega), gi_si_if, if_neg (by omega)], fun x i => u6 x i⟩
        rw [F_X10_token_163_s]
        refine bnd S (bnd I ((if_neg n1).trans ((if_pos (show (3 : Int32) ≤ iz ((t - f : Nat) : Int) from iz_lei (a := 3) (by omega))).trans ?_)))
        exact (s205 _).trans u1
      · have e : dV Z f (t + 1 - f) = 10 * dV Z f (t - f) + Z t - 48 := by
          rw [show t + 1 - f = t - f + 1 by omega]
          show 10 * dV Z f (t - f) + Z (f + (t - f)) - 48 = _
          rw [show f + (t - f) = t by omega]
        obtain ⟨e', u1, u2, u3, u4, u5, u6⟩ := nx (iz (dV Z f (t + 1 - f))) (fun _ => rfl)
        refine ⟨e', ?_, u2, u3, u4, fun x i h => by rw [u5 x i h, gi_si_if, if_neg (by omega), gi_si_if, if_neg (by omega)], fun x i => u6 x i⟩
        rw [F_X10_token_163_s]
        refine bnd S (bnd I ((if_neg n1).trans ((if_neg (show ¬ (3 : Int32) ≤ iz ((t - f : Nat) : Int) from iz_nle (a := 3) (by omega))).trans (bnd S ?_))))
        show F_X10_token_205 Z0.1 N (F_X10_token_163 Z0.1 N k) 510 (iz ((t - f : Nat) : Int)) 510 ((10 : Int32) * gi m 510 22 + iz (uB (Z t)) - 48) m = some e'
        rw [hv (by omega), uz, l_10, iz_mul, iz_add, show (48 : Int32) = iz 48 from rfl, iz_sub, ← e]
        exact (s205 _).trans u1
    · rw [if_neg z] at I
      rw [if_neg z]
      obtain ⟨e, u1, u2⟩ := fin t m (by omega) h4 hv
      refine ⟨e, ?_, u2⟩
      rw [F_X10_token_163_s]
      exact bnd S (bnd I ((if_pos rfl).trans u1))
def srt (k : Nat) : Nat := if k = 0 then 0 else if k = 1 then 2 else if k = 2 then 3 else if k = 3 then 4 else 1
theorem m_tok (N sz : Nat) (Z : Nat → Int) (hN : 501 ≤ N) (h5 : sz ≤ 500) : ∀ (q t k : Nat) (m : DY), t + q = sz → q < k → gi m 510 19 = iz sz → gi m 510 18 = iz t → BYM m Z → ∃ (e : DY) (f : Nat), f = rn Z isSp q t ∧ F_X10_token_0 Z0.1 N k 510 m = some e ∧ gi e 510 20 = iz f ∧ gi e 510 21 = iz (srt (kD Z sz f) : Nat) ∧ gi e 510 18 = iz (tE Z sz f : Nat) ∧ (kD Z sz f = 2 → gi e 510 22 = iz (dV Z f (tE Z sz f - f))) ∧ (kD Z sz f = 3 → gi e 510 22 = iz (Z f)) ∧ (kD Z sz f = 1 → gl e 510 23 = if tE Z sz f - f ≤ 8 then wd Z f (tE Z sz f - f) else 0) ∧ frY m e := by
  have n1 : ¬ (1 : Int32) = 0 := by decide
  intro q
  induction q with
  | zero =>
    intro t k m hq hk h1 h4 hZ
    obtain ⟨k, rfl⟩ : ∃ j, k = j + 1 := ⟨k - 1, by omega⟩
    have S := m_see N sz t Z m h5 (by omega) h1 h4 hZ
    rw [if_pos (by omega)] at S
    have S2 := m_see N sz t Z (si m 510 20 (iz t)) h5 (by omega) (by rw [gi_si_if, if_neg (by omega)]; exact h1) (by rw [gi_si_if, if_neg (by omega)]; exact h4) (BYM_fr hZ (frY_si m 20 _ (by omega)))
    rw [if_pos (by omega)] at S2
    have kd : kD Z sz t = 0 := if_pos (by omega)
    have te : tE Z sz t = t := if_pos (by omega)
    refine ⟨si (sl (si m 510 20 (iz t)) 510 23 0) 510 21 0, t, rfl, ?_, ?_, ?_, ?_, fun z => by omega, fun z => by omega, fun z => by omega, frY_tr (frY_si m 20 _ (by omega)) (frY_tr (frY_sl _ _) (frY_si _ 21 _ (by omega)))⟩
    · rw [F_X10_token_0_s]
      refine bnd S ((if_neg (show ¬ (-1 : Int32) = 10 by decide)).trans (bnd S ((if_neg (show ¬ (-1 : Int32) = 32 by decide)).trans ?_)))
      rw [bd_eq, h4]
      refine bnd S2 ?_
      rw [bd_eq, bd_eq]
      exact if_neg (show ¬ (0 : Int32) ≤ -1 by decide)
    · rw [gi_si_if, if_neg (by omega), gi_sl, gi_si_if, if_pos ⟨rfl, rfl⟩]
    · rw [gi_si_if, if_pos ⟨rfl, rfl⟩, kd]; rfl
    · rw [gi_si_if, if_neg (by omega), gi_sl, gi_si_if, if_neg (by omega), te]; exact h4
  | succ q ih =>
    intro t k m hq hk h1 h4 hZ
    obtain ⟨k, rfl⟩ : ∃ j, k = j + 1 := ⟨k - 1, by omega⟩
    obtain ⟨b1, b2⟩ := hZ t (by omega)
    obtain ⟨u1, u2, u3, u4⟩ := uB_b b2
    have S := m_see N sz t Z m h5 (by omega) h1 h4 hZ
    rw [if_neg (by omega)] at S
    have c10 : (iz (uB (Z t)) = (10 : Int32) ↔ Z t = 10) := (iz_inj (b := 10) (by omega) (by omega) (by omega) (by omega)).trans (u4 10 (by omega) (by omega))
    have c32 : (iz (uB (Z t)) = (32 : Int32) ↔ Z t = 32) := (iz_inj (b := 32) (by omega) (by omega) (by omega) (by omega)).trans (u4 32 (by omega) (by omega))
    have s18 : F_X10_token_18 Z0.1 N (F_X10_token_0 Z0.1 N k) 510 m = F_X10_token_0 Z0.1 N k 510 (si m 510 18 (iz ((t + 1 : Nat) : Int))) := by
      rw [F_X10_token_18_s, bd_eq, h4, show iz (t : Int) + (1 : Int32) = iz ((t + 1 : Nat) : Int) from iz_add t 1]
    by_cases z : isSp (Z t) = true
    · obtain ⟨e, f, e1, e2, e3⟩ := ih (t + 1) k (si m 510 18 (iz ((t + 1 : Nat) : Int))) (by omega) (by omega) (by rw [gi_si_if, if_neg (by omega)]; exact h1) (by rw [gi_si_if, if_pos ⟨rfl, rfl⟩]) (BYM_fr hZ (frY_si m 18 _ (by omega)))
      obtain ⟨a1, a2, a3, a4, a5, a6, a7⟩ := e3
      refine ⟨e, f, by rw [rn_s, if_pos z]; exact e1, ?_, a1, a2, a3, a4, a5, a6, frY_tr (frY_si m 18 _ (by omega)) a7⟩
      unfold isSp at z
      rw [decide_eq_true_eq] at z
      rw [F_X10_token_0_s]
      refine bnd S ?_
      by_cases y : Z t = 10
      · exact (if_pos (c10.mpr y)).trans (s18.trans e2)
      · refine (if_neg (fun w => y (c10.mp w))).trans (bnd S ?_)
        exact (if_pos (c32.mpr (by omega))).trans (s18.trans e2)
    · obtain ⟨m2, hm2⟩ : ∃ m2 : DY, m2 = sl (si m 510 20 (iz t)) 510 23 0 := ⟨_, rfl⟩
      have S2 := m_see N sz t Z (si m 510 20 (iz t)) h5 (by omega) (by rw [gi_si_if, if_neg (by omega)]; exact h1) (by rw [gi_si_if, if_neg (by omega)]; exact h4) (BYM_fr hZ (frY_si m 20 _ (by omega)))
      rw [if_neg (by omega)] at S2
      have fr2 : frY m m2 := by rw [hm2]; exact frY_tr (frY_si m 20 _ (by omega)) (frY_sl _ _)
      have g1 : gi m2 510 19 = iz sz := (fr2.1 510 19 (by omega)).trans h1
      have g4 : gi m2 510 18 = iz t := by rw [hm2, gi_sl, gi_si_if, if_neg (by omega)]; exact h4
      have g20 : gi m2 510 20 = iz t := by rw [hm2, gi_sl, gi_si_if, if_pos ⟨rfl, rfl⟩]
      have hZ2 := BYM_fr hZ fr2
      have g23 : gl m2 510 23 = wd Z t (t - t) := by rw [hm2, gl_slE, Nat.sub_self]; rfl
      refine Exists.elim ?_ (fun e he => ⟨e, t, by rw [rn_s, if_neg z], he⟩)
      unfold isSp at z
      rw [decide_eq_true_eq] at z
      have st : ∀ (R : Option DY), ((F_X10_in Z0.1 N (iz (uB (Z t))) (97 : Int32) (122 : Int32) m2).bind fun u9 => (if u9.1 = 0 then (F_X10_in Z0.1 N (iz (uB (Z t))) (48 : Int32) (57 : Int32) u9.2).bind fun u11 => (if u11.1 = 0 then bd (si u11.2 510 18 ((gi u11.2 510 18) + (1 : Int32))) fun dy13 => bd (si dy13 510 22 (iz (uB (Z t)))) fun dy14 => (F_X10_isSign Z0.1 N (iz (uB (Z t))) dy14).bind fun u15 => (if u15.1 = 0 then (F_X10_token_269 Z0.1 N) 510 (1 : Int32) u15.2 else (F_X10_token_269 Z0.1 N) 510 (4 : Int32) u15.2) else bd (si u11.2 510 22 (0 : Int32)) fun dy17 => (F_X10_token_163 Z0.1 N N) 510 (0 : Int32) dy17) else (F_X10_token_74 Z0.1 N N) 510 (0 : Int32) u9.2)) = R → F_X10_token_0 Z0.1 N (k + 1) 510 m = R := fun R hR => by
        rw [F_X10_token_0_s]
        refine bnd S ((if_neg (fun w => z (Or.inr (c10.mp w)))).trans (bnd S ((if_neg (fun w => z (Or.inl (c32.mp w)))).trans ?_)))
        rw [bd_eq, h4]
        refine bnd S2 ?_
        show (bd (sl (si m 510 20 (iz t)) 510 23 (0 : Int64)) fun dy8 => if 0 ≤ iz (uB (Z t)) then _ else _) = R
        rw [bd_eq, ← hm2, if_pos (show (0 : Int32) ≤ iz (uB (Z t)) from iz_lei (a := 0) (by omega))]
        exact hR
      have I := in_lt Z0.1 N (Z t) m2 b2
      have I2 := in_dg Z0.1 N (Z t) m2 b2
      unfold kD tE
      rw [if_neg (show ¬ sz ≤ t by omega), if_neg (show ¬ sz ≤ t by omega)]
      by_cases L : isLt (Z t) = true
      · rw [if_pos L] at I
        rw [if_pos L, if_pos L]
        obtain ⟨e, a1, a2, a3, a4, a5, a6⟩ := m_74 N sz t Z h5 (sz - t) t N m2 (by omega) (by omega) (by omega) g1 g4 hZ2 g23
        refine ⟨e, st _ (bnd I ((if_neg n1).trans ?_)), ?_, ?_, a2, fun y => by omega, fun y => by omega, fun _ => a4, frY_tr fr2 ⟨fun x i h => a5 x i (by omega), a6⟩⟩
        · rw [Nat.sub_self] at a1; exact a1
        · rw [a5 _ _ (by omega)]; exact g20
        · rw [a3]; rfl
      · rw [if_neg L] at I
        rw [if_neg L, if_neg L]
        by_cases D : isDg (Z t) = true
        · rw [if_pos D] at I2
          rw [if_pos D, if_pos D]
          have fr3 := frY_si m2 22 0 (by omega)
          obtain ⟨e, a1, a2, a3, a4, a5, a6⟩ := m_163 N sz t Z h5 (sz - t) t N (si m2 510 22 0) (by omega) (by omega) (by omega) ((fr3.1 510 19 (by omega)).trans g1) (by rw [gi_si_if, if_neg (by omega)]; exact g4) (BYM_fr hZ2 fr3) (fun _ => by rw [gi_si_if, if_pos ⟨rfl, rfl⟩, Nat.sub_self]; rfl)
          refine ⟨e, st _ (bnd I ((if_pos rfl).trans (bnd I2 ((if_neg n1).trans ?_)))), ?_, ?_, a2, fun y => ?_, fun y => ?_, fun y => ?_, frY_tr fr2 (frY_tr fr3 ⟨fun x i h => a5 x i (by omega), fun x i _ => a6 x i⟩)⟩
          · rw [bd_eq]
            rw [Nat.sub_self] at a1; exact a1
          · rw [a5 _ _ (by omega), gi_si_if, if_neg (by omega)]; exact g20
          · rw [a3]
            by_cases y : rn Z isDg (sz - t) t - t ≤ 3
            · rw [if_pos y, if_pos y]; rfl
            · rw [if_neg y, if_neg y]; rfl
          · by_cases w : rn Z isDg (sz - t) t - t ≤ 3
            · exact a4 w
            · rw [if_neg w] at y; omega
          · by_cases w : rn Z isDg (sz - t) t - t ≤ 3
            · rw [if_pos w] at y; omega
            · rw [if_neg w] at y; omega
          · by_cases w : rn Z isDg (sz - t) t - t ≤ 3
            · rw [if_pos w] at y; omega
            · rw [if_neg w] at y; omega
        · rw [if_neg D] at I2
          rw [if_neg D, if_neg D]
          obtain ⟨m4, hm4⟩ : ∃ m4 : DY, m4 = si (si m2 510 18 (iz ((t + 1 : Nat) : Int))) 510 22 (iz (uB (Z t))) := ⟨_, rfl⟩
          have fr4 : frY m2 m4 := by rw [hm4]; exact frY_tr (frY_si m2 18 _ (by omega)) (frY_si _ 22 _ (by omega))
          have fin : ∀ v : Int32, F_X10_token_269 Z0.1 N 510 v m4 = some (si m4 510 21 v) := fun v => by rw [F_X10_token_269_s, bd_eq]
          have cmp : ∀ k : Nat, k < 128 → (iz (uB (Z t)) = iz (k : Int) ↔ Z t = k) := fun k hk => (iz_inj (by omega) (by omega) (by omega) (by omega)).trans (u4 k (by omega) (by omega))
          have c58 : (iz (uB (Z t)) = (58 : Int32) ↔ Z t = 58) := cmp 58 (by omega)
          have c59 : (iz (uB (Z t)) = (59 : Int32) ↔ Z t = 59) := cmp 59 (by omega)
          have c60 : (iz (uB (Z t)) = (60 : Int32) ↔ Z t = 60) := cmp 60 (by omega)
          have c62 : (iz (uB (Z t)) = (62 : Int32) ↔ Z t = 62) := cmp 62 (by omega)
          have c61 : (iz (uB (Z t)) = (61 : Int32) ↔ Z t = 61) := cmp 61 (by omega)
          have sg : F_X10_isSign Z0.1 N (iz (uB (Z t))) m4 = some (if isSg (Z t) = true then 1 else 0, m4) := by
            rw [F_X10_isSign_s]
            unfold isSg
            by_cases q1 : Z t = 58
            · rw [if_pos (c58.mpr q1), if_pos (by rw [decide_eq_true_eq]; omega)]
            rw [if_neg (fun y => q1 (c58.mp y))]
            by_cases q2 : Z t = 59
            · rw [if_pos (c59.mpr q2), if_pos (by rw [decide_eq_true_eq]; omega)]
            rw [if_neg (fun y => q2 (c59.mp y))]
            by_cases q3 : Z t = 60
            · rw [if_pos (c60.mpr q3), if_pos (by rw [decide_eq_true_eq]; omega)]
            rw [if_neg (fun y => q3 (c60.mp y))]
            by_cases q4 : Z t = 62
            · rw [if_pos (c62.mpr q4), if_pos (by rw [decide_eq_true_eq]; omega)]
            rw [if_neg (fun y => q4 (c62.mp y))]
            by_cases q5 : Z t = 61
            · rw [if_pos (c61.mpr q5), if_pos (by rw [decide_eq_true_eq]; omega)]
            rw [if_neg (fun y => q5 (c61.mp y)), if_neg (by rw [decide_eq_true_eq]; omega)]
          have body : ((F_X10_in Z0.1 N (iz (uB (Z t))) (97 : Int32) (122 : Int32) m2).bind fun u9 => (if u9.1 = 0 then (F_X10_in Z0.1 N (iz (uB (Z t))) (48 : Int32) (57 : Int32) u9.2).bind fun u11 => (if u11.1 = 0 then bd (si u11.2 510 18 ((gi u11.2 510 18) + (1 : Int32))) fun dy13 => bd (si dy13 510 22 (iz (uB (Z t)))) fun dy14 => (F_X10_isSign Z0.1 N (iz (uB (Z t))) dy14).bind fun u15 => (if u15.1 = 0 then (F_X10_token_269 Z0.1 N) 510 (1 : Int32) u15.2 else (F_X10_token_269 Z0.1 N) 510 (4 : Int32) u15.2) else bd (si u11.2 510 22 (0 : Int32)) fun dy17 => (F_X10_token_163 Z0.1 N N) 510 (0 : Int32) dy17) else (F_X10_token_74 Z0.1 N N) 510 (0 : Int32) u9.2)) = some (si m4 510 21 (if isSg (Z t) = true then 4 else 1)) := by
            refine bnd I ((if_pos rfl).trans (bnd I2 ((if_pos rfl).trans ?_)))
            rw [bd_eq, bd_eq]
            show ((F_X10_isSign Z0.1 N (iz (uB (Z t))) (si (si m2 510 18 (gi m2 510 18 + 1)) 510 22 (iz (uB (Z t))))).bind fun u15 => (if u15.1 = 0 then (F_X10_token_269 Z0.1 N) 510 (1 : Int32) u15.2 else (F_X10_token_269 Z0.1 N) 510 (4 : Int32) u15.2)) = _
            rw [g4, show iz (t : Int) + (1 : Int32) = iz ((t + 1 : Nat) : Int) from iz_add t 1, ← hm4]
            refine bnd sg ?_
            by_cases G : isSg (Z t) = true
            · show (if (if isSg (Z t) = true then (1 : Int32) else 0) = 0 then _ else _) = _
              rw [if_pos G, if_neg n1, if_pos G]
              exact fin 4
            · show (if (if isSg (Z t) = true then (1 : Int32) else 0) = 0 then _ else _) = _
              rw [if_neg G, if_pos rfl, if_neg G]
              exact fin 1
          refine ⟨_, st _ body, ?_, ?_, ?_, fun y => ?_, fun y => ?_, fun y => ?_, frY_tr fr2 (frY_tr fr4 (frY_si m4 21 _ (by omega)))⟩
          · rw [gi_si_if, if_neg (by omega), hm4, gi_si_if, if_neg (by omega), gi_si_if, if_neg (by omega)]; exact g20
          · rw [gi_si_if, if_pos ⟨rfl, rfl⟩]
            by_cases G : isSg (Z t) = true
            · rw [if_pos G, if_pos G]; rfl
            · rw [if_neg G, if_neg G]; rfl
          · rw [gi_si_if, if_neg (by omega), hm4, gi_si_if, if_neg (by omega), gi_si_if, if_pos ⟨rfl, rfl⟩]
          · by_cases G : isSg (Z t) = true
            · rw [if_pos G] at y; omega
            · rw [if_neg G] at y; omega
          · by_cases G : isSg (Z t) = true
            · have G' := G
              unfold isSg at G'
              rw [decide_eq_true_eq] at G'
              rw [gi_si_if, if_neg (by omega), hm4, gi_si_if, if_pos ⟨rfl, rfl⟩]
              unfold uB
              rw [if_neg (by omega)]
            · rw [if_neg G] at y; omega
          · by_cases G : isSg (Z t) = true
            · rw [if_pos G] at y; omega
            · rw [if_neg G] at y; omega
