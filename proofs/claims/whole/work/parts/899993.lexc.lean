/-! the tape, token by token: the class -/
def isSp (z : Int) : Bool := decide (z = 32 ∨ z = 10)
def isLt (z : Int) : Bool := decide (97 ≤ z ∧ z ≤ 122)
def isDg (z : Int) : Bool := decide (48 ≤ z ∧ z ≤ 57)
def isSg (z : Int) : Bool := decide (z = 58 ∨ z = 59 ∨ z = 60 ∨ z = 62 ∨ z = 61)
/-- on while it holds -/
def rn (Z : Nat → Int) (P : Int → Bool) : Nat → Nat → Nat
  | 0, p => p
  | q + 1, p => if P (Z p) = true then rn Z P q (p + 1) else p
theorem rn_s (Z : Nat → Int) (P : Int → Bool) (q p : Nat) : rn Z P (q + 1) p = if P (Z p) = true then rn Z P q (p + 1) else p := rfl
theorem rn_b (Z : Nat → Int) (P : Int → Bool) : ∀ q p : Nat, p ≤ rn Z P q p ∧ rn Z P q p ≤ p + q ∧ ∀ i : Nat, p ≤ i → i < rn Z P q p → P (Z i) = true
  | 0, p => ⟨Nat.le_refl _, by show p ≤ _; omega, fun i h1 h2 => by have h2 : i < p := h2; omega⟩
  | q + 1, p => by
    obtain ⟨a, b, c⟩ := rn_b Z P q (p + 1)
    rw [rn_s]
    by_cases z : P (Z p) = true
    · rw [if_pos z]
      refine ⟨by omega, by omega, fun i h1 h2 => ?_⟩
      by_cases y : i = p
      · rw [y]; exact z
      · exact c i (by omega) h2
    · rw [if_neg z]
      exact ⟨by omega, by omega, fun i h1 h2 => by omega⟩
theorem rn_0 (Z : Nat → Int) (P : Int → Bool) (q p : Nat) (h : P (Z p) = true) (hq : 0 < q) : p < rn Z P q p := by
  obtain ⟨q, rfl⟩ : ∃ j, q = j + 1 := ⟨q - 1, by omega⟩
  have := (rn_b Z P q (p + 1)).1
  rw [rn_s, if_pos h]
  omega
/-- the tape's bytes -/
def BYT (c : DY) (Z : Nat → Int) : Prop := ∀ i : Nat, i < 500 → gi c 3 i = iz (Z i) ∧ -128 ≤ Z i ∧ Z i ≤ 127
theorem nr_b {z : Int} (h : -128 ≤ z ∧ z ≤ 127) : nr 2 (iz z) = iz z := by
  have : ∀ z : Fin 256, nr 2 (iz ((z.1 : Int) - 128)) = iz ((z.1 : Int) - 128) := by decide +kernel
  have q := this ⟨(z + 128).toNat, by omega⟩
  rw [show (((⟨(z + 128).toNat, by omega⟩ : Fin 256).1 : Nat) : Int) - 128 = z by show (((z + 128).toNat : Nat) : Int) - 128 = z; omega] at q
  exact q
theorem c_lt (S : ST) (N : Nat) (z : Int) (d : DY) (h : -128 ≤ z ∧ z ≤ 127) : F_X6_isLetter S N (iz z) d = some (if isLt z = true then 1 else 0, d) := by
  rw [F_X6_isLetter_s]
  unfold isLt
  by_cases a : z < 97
  · rw [if_pos (show iz z < (97 : Int32) from iz_lti (b := 97) (by omega)), if_neg (by rw [decide_eq_true_eq]; omega)]
  · rw [if_neg (show ¬ iz z < (97 : Int32) from iz_nlt (b := 97) (by omega))]
    by_cases b : 122 < z
    · rw [if_pos (show (122 : Int32) < iz z from iz_lti (a := 122) (by omega)), if_neg (by rw [decide_eq_true_eq]; omega)]
    · rw [if_neg (show ¬ (122 : Int32) < iz z from iz_nlt (a := 122) (by omega)), if_pos (by rw [decide_eq_true_eq]; omega)]
theorem c_dg (S : ST) (N : Nat) (z : Int) (d : DY) (h : -128 ≤ z ∧ z ≤ 127) : F_X6_isDigit S N (iz z) d = some (if isDg z = true then 1 else 0, d) := by
  rw [F_X6_isDigit_s]
  unfold isDg
  by_cases a : z < 48
  · rw [if_pos (show iz z < (48 : Int32) from iz_lti (b := 48) (by omega)), if_neg (by rw [decide_eq_true_eq]; omega)]
  · rw [if_neg (show ¬ iz z < (48 : Int32) from iz_nlt (b := 48) (by omega))]
    by_cases b : 57 < z
    · rw [if_pos (show (57 : Int32) < iz z from iz_lti (a := 57) (by omega)), if_neg (by rw [decide_eq_true_eq]; omega)]
    · rw [if_neg (show ¬ (57 : Int32) < iz z from iz_nlt (a := 57) (by omega)), if_pos (by rw [decide_eq_true_eq]; omega)]
/-- what a token may change of the reader -/
def frX (c e : DY) : Prop := (∀ x k : Nat, ¬ (x = 94 ∧ 2 ≤ k ∧ k ≤ 5) → gi e x k = gi c x k) ∧ ∀ x k : Nat, gl e x k = gl c x k
theorem frX_re (c : DY) : frX c c := ⟨fun _ _ _ => rfl, fun _ _ => rfl⟩
theorem frX_tr {a b c : DY} (h : frX a b) (k : frX b c) : frX a c := ⟨fun x y q => (k.1 x y q).trans (h.1 x y q), fun x y => (k.2 x y).trans (h.2 x y)⟩
theorem frX_si (c : DY) (k : Nat) (v : Int32) (h : 2 ≤ k ∧ k ≤ 5) : frX c (si c 94 k v) := ⟨fun x y q => by rw [gi_si_if, if_neg (by omega)], fun _ _ => rfl⟩
theorem BYT_fr {c e : DY} {Z : Nat → Int} (h : BYT c Z) (k : frX c e) : BYT e Z := fun i hi => by
  rw [k.1 3 i (by omega)]
  exact h i hi
theorem c_104 (N sz : Nat) (Z : Nat → Int) (h5 : sz ≤ 500) : ∀ (q t k : Nat) (d : DY), t + q = sz → q < k → gi d 94 1 = iz sz → gi d 94 4 = iz t → BYT d Z → ∃ e : DY, F_X6_step_104 Z0.1 N k 94 d = some e ∧ gi e 94 4 = iz (rn Z isLt q t : Nat) ∧ (∀ x i : Nat, ¬ (x = 94 ∧ i = 4) → gi e x i = gi d x i) ∧ ∀ x i : Nat, gl e x i = gl d x i := by
  intro q
  induction q with
  | zero =>
    intro t k d hq hk h1 h4 hZ
    obtain ⟨k, rfl⟩ : ∃ j, k = j + 1 := ⟨k - 1, by omega⟩
    refine ⟨d, ?_, h4, fun _ _ _ => rfl, fun _ _ => rfl⟩
    rw [F_X6_step_104_s, h1, h4, if_pos (iz_lei (by omega))]
  | succ q ih =>
    intro t k d hq hk h1 h4 hZ
    obtain ⟨k, rfl⟩ : ∃ j, k = j + 1 := ⟨k - 1, by omega⟩
    obtain ⟨b1, b2⟩ := hZ t (by omega)
    have i5 : ib (iz (t : Int)) 500 := iz_ib (by omega)
    have t1 : iz (t : Int) + (1 : Int32) = iz ((t + 1 : Nat) : Int) := iz_add t 1
    have L := c_lt Z0.1 N (Z t) d b2
    have st : ∀ R, (if isLt (Z t) = true then F_X6_step_104 Z0.1 N k 94 (si d 94 4 (iz ((t + 1 : Nat) : Int))) else some d) = R → F_X6_step_104 Z0.1 N (k + 1) 94 d = R := fun R hR => by
      rw [F_X6_step_104_s, h1, h4, if_neg (iz_nle (by omega)), if_pos i5, r_94_0, tnn _ t rfl (by omega), b1, nr_b b2]
      refine bnd L ?_
      by_cases z : isLt (Z t) = true
      · rw [if_pos z] at hR
        rw [← hR]
        show (if (if isLt (Z t) = true then (1 : Int32) else 0) = 0 then _ else _) = _
        rw [if_pos z, if_neg (by decide), bd_eq, h4, t1]
      · rw [if_neg z] at hR
        rw [← hR]
        show (if (if isLt (Z t) = true then (1 : Int32) else 0) = 0 then _ else _) = _
        rw [if_neg z, if_pos rfl]
    rw [rn_s]
    by_cases z : isLt (Z t) = true
    · obtain ⟨e, u1, u2, u3, u4⟩ := ih (t + 1) k (si d 94 4 (iz ((t + 1 : Nat) : Int))) (by omega) (by omega) (by rw [gi_si_if, if_neg (by omega)]; exact h1) (by rw [gi_si_if, if_pos ⟨rfl, rfl⟩]) (fun i hi => by rw [gi_si_if, if_neg (by omega)]; exact hZ i hi)
      rw [if_pos z]
      exact ⟨e, st _ (by rw [if_pos z]; exact u1), u2, fun x i h => by rw [u3 x i h, gi_si_if, if_neg h], fun x i => u4 x i⟩
    · rw [if_neg z]
      exact ⟨d, st _ (by rw [if_neg z]), h4, fun _ _ _ => rfl, fun _ _ => rfl⟩
/-- the number from f on -/
def dV (Z : Nat → Int) (f : Nat) : Nat → Int
  | 0 => 0
  | n + 1 => 10 * dV Z f n + Z (f + n) - 48
theorem dV_b (Z : Nat → Int) (f : Nat) : ∀ n : Nat, n ≤ 3 → (∀ i : Nat, f ≤ i → i < f + n → isDg (Z i) = true) → 0 ≤ dV Z f n ∧ dV Z f n ≤ 999 ∧ (n ≤ 2 → dV Z f n ≤ 99) ∧ (n ≤ 1 → dV Z f n ≤ 9) ∧ (n = 0 → dV Z f n = 0)
  | 0, _, _ => ⟨by show (0 : Int) ≤ 0; omega, by show (0 : Int) ≤ 999; omega, fun _ => by show (0 : Int) ≤ 99; omega, fun _ => by show (0 : Int) ≤ 9; omega, fun _ => rfl⟩
  | n + 1, h, hd => by
    obtain ⟨a, b, c, d, e⟩ := dV_b Z f n (by omega) (fun i h1 h2 => hd i h1 (by omega))
    have q := hd (f + n) (by omega) (by omega)
    unfold isDg at q
    rw [decide_eq_true_eq] at q
    show 0 ≤ 10 * dV Z f n + Z (f + n) - 48 ∧ 10 * dV Z f n + Z (f + n) - 48 ≤ 999 ∧ (n + 1 ≤ 2 → 10 * dV Z f n + Z (f + n) - 48 ≤ 99) ∧ (n + 1 ≤ 1 → 10 * dV Z f n + Z (f + n) - 48 ≤ 9) ∧ (n + 1 = 0 → _)
    have : n ≤ 2 := by omega
    have c := c this
    refine ⟨by omega, by omega, fun h => ?_, fun h => ?_, fun h => by omega⟩
    · have := d (by omega); omega
    · have := e (by omega); omega
theorem c_158 (N sz f : Nat) (Z : Nat → Int) (h5 : sz ≤ 500) : ∀ (q t k : Nat) (d : DY), t + q = sz → f ≤ t → q < k → gi d 94 1 = iz sz → gi d 94 3 = iz f → gi d 94 4 = iz t → BYT d Z → (∀ i : Nat, f ≤ i → i < t → isDg (Z i) = true) → (t - f ≤ 3 → gi d 94 5 = iz (dV Z f (t - f))) → ∃ e : DY, F_X6_step_158 Z0.1 N k 94 d = some e ∧ gi e 94 4 = iz (rn Z isDg q t : Nat) ∧ gi e 94 2 = (if rn Z isDg q t - f ≤ 3 then 2 else 4) ∧ (rn Z isDg q t - f ≤ 3 → gi e 94 5 = iz (dV Z f (rn Z isDg q t - f))) ∧ (∀ x i : Nat, ¬ (x = 94 ∧ (i = 2 ∨ i = 4 ∨ i = 5)) → gi e x i = gi d x i) ∧ ∀ x i : Nat, gl e x i = gl d x i := by
  have fin : ∀ (t : Nat) (d : DY), f ≤ t → t ≤ 500 → gi d 94 3 = iz f → gi d 94 4 = iz t → F_X6_step_227 Z0.1 N 94 d = some (si d 94 2 (if t - f ≤ 3 then 2 else 4)) := fun t d h1 h2 h3 h4 => by
    rw [F_X6_step_227_s, h3, h4, iz_sub, F_X6_step_246_s, F_X6_step_246_s, bd_eq, bd_eq]
    by_cases z : t - f ≤ 3
    · rw [if_pos z, if_neg (show ¬ (3 : Int32) < iz ((t : Int) - f) from iz_nlt (a := 3) (by omega))]
    · rw [if_neg z, if_pos (show (3 : Int32) < iz ((t : Int) - f) from iz_lti (a := 3) (by omega))]
  intro q
  induction q with
  | zero =>
    intro t k d hq hf hk h1 h3 h4 hZ hd hv
    obtain ⟨k, rfl⟩ : ∃ j, k = j + 1 := ⟨k - 1, by omega⟩
    refine ⟨si d 94 2 (if t - f ≤ 3 then 2 else 4), ?_, ?_, ?_, fun z => ?_, fun x i h => ?_, fun _ _ => rfl⟩
    · rw [F_X6_step_158_s, h1, h4, if_pos (iz_lei (by omega))]
      exact fin t d hf (by omega) h3 h4
    · rw [gi_si_if, if_neg (by omega)]; exact h4
    · rw [gi_si_if, if_pos ⟨rfl, rfl⟩]; rfl
    · rw [gi_si_if, if_neg (by omega)]; exact hv z
    · rw [gi_si_if, if_neg (by omega)]
  | succ q ih =>
    intro t k d hq hf hk h1 h3 h4 hZ hd hv
    obtain ⟨k, rfl⟩ : ∃ j, k = j + 1 := ⟨k - 1, by omega⟩
    obtain ⟨b1, b2⟩ := hZ t (by omega)
    have i5 : ib (iz (t : Int)) 500 := iz_ib (by omega)
    have t1 : iz (t : Int) + (1 : Int32) = iz ((t + 1 : Nat) : Int) := iz_add t 1
    have L := c_dg Z0.1 N (Z t) d b2
    rw [rn_s]
    by_cases z : isDg (Z t) = true
    · rw [if_pos z] at L
      obtain ⟨w, hw⟩ : ∃ w : Int32, w = (if (1000 : Int32) < gi d 94 5 * (10 : Int32) + iz (Z t) - (48 : Int32) then (1000 : Int32) else gi d 94 5 * (10 : Int32) + iz (Z t) - (48 : Int32)) := ⟨_, rfl⟩
      have hd' : ∀ i : Nat, f ≤ i → i < t + 1 → isDg (Z i) = true := fun i q1 q2 => by
        by_cases y : i = t
        · rw [y]; exact z
        · exact hd i q1 (by omega)
      obtain ⟨e, u1, u2, u3, u4, u5, u6⟩ := ih (t + 1) k (si (si d 94 5 w) 94 4 (iz ((t + 1 : Nat) : Int))) (by omega) (by omega) (by omega) (by rw [gi_si_if, if_neg (by omega), gi_si_if, if_neg (by omega)]; exact h1) (by rw [gi_si_if, if_neg (by omega), gi_si_if, if_neg (by omega)]; exact h3) (by rw [gi_si_if, if_pos ⟨rfl, rfl⟩]) (fun i hi => by rw [gi_si_if, if_neg (by omega), gi_si_if, if_neg (by omega)]; exact hZ i hi) hd' (fun h => by
        rw [gi_si_if, if_neg (by omega), gi_si_if, if_pos ⟨rfl, rfl⟩, hw, hv (by omega), show t + 1 - f = t - f + 1 by omega]
        have bb := dV_b Z f (t - f + 1) (by omega) (fun i q1 q2 => hd' i q1 (by omega))
        have e : dV Z f (t - f + 1) = 10 * dV Z f (t - f) + Z t - 48 := by
          show 10 * dV Z f (t - f) + Z (f + (t - f)) - 48 = _
          rw [show f + (t - f) = t by omega]
        rw [l_10, iz_mul, iz_add, show (48 : Int32) = iz 48 from rfl, iz_sub, show dV Z f (t - f) * 10 + Z t - 48 = dV Z f (t - f + 1) by omega, if_neg (show ¬ (1000 : Int32) < iz (dV Z f (t - f + 1)) from iz_nlt (a := 1000) (by omega))])
      rw [if_pos z]
      refine ⟨e, ?_, u2, u3, u4, fun x i h => by rw [u5 x i h, gi_si_if, if_neg (by omega), gi_si_if, if_neg (by omega)], fun x i => u6 x i⟩
      rw [F_X6_step_158_s, h1, h4, if_neg (iz_nle (by omega)), if_pos i5, r_94_0, tnn _ t rfl (by omega), b1, nr_b b2]
      refine bnd L ((if_neg (show ¬ (1 : Int32) = 0 by decide)).trans ?_)
      rw [h4, if_pos i5, tnn _ t rfl (by omega), b1, nr_b b2, bd_eq, bd_eq]
      rw [show gi (si d 94 5 (if (1000 : Int32) < gi d 94 5 * (10 : Int32) + iz (Z t) - (48 : Int32) then (1000 : Int32) else gi d 94 5 * (10 : Int32) + iz (Z t) - (48 : Int32))) 94 4 = iz t from by rw [gi_si_if, if_neg (by omega)]; exact h4, t1, ← hw]
      exact u1
    · rw [if_neg z] at L
      rw [if_neg z]
      refine ⟨si d 94 2 (if t - f ≤ 3 then 2 else 4), ?_, ?_, ?_, fun z => ?_, fun x i h => ?_, fun _ _ => rfl⟩
      · rw [F_X6_step_158_s, h1, h4, if_neg (iz_nle (by omega)), if_pos i5, r_94_0, tnn _ t rfl (by omega), b1, nr_b b2]
        exact bnd L ((if_pos rfl).trans (fin t d hf (by omega) h3 h4))
      · rw [gi_si_if, if_neg (by omega)]; exact h4
      · rw [gi_si_if, if_pos ⟨rfl, rfl⟩]
      · rw [gi_si_if, if_neg (by omega)]; exact hv z
      · rw [gi_si_if, if_neg (by omega)]
/-- kind and end of the token that begins at f -/
def tE (Z : Nat → Int) (sz f : Nat) : Nat := if sz ≤ f then f else if isLt (Z f) = true then rn Z isLt (sz - f) f else if isDg (Z f) = true then rn Z isDg (sz - f) f else f + 1
def kD (Z : Nat → Int) (sz f : Nat) : Nat := if sz ≤ f then 0 else if isLt (Z f) = true then 1 else if isDg (Z f) = true then (if tE Z sz f - f ≤ 3 then 2 else 4) else if isSg (Z f) = true then 3 else 4
theorem c_52 (N sz f : Nat) (Z : Nat → Int) (d : DY) (hN : 501 ≤ N) (h5 : sz ≤ 500) (hf : f ≤ sz) (h1 : gi d 94 1 = iz sz) (h4 : gi d 94 4 = iz f) (hZ : BYT d Z) : ∃ e : DY, F_X6_step_52 Z0.1 N 94 d = some e ∧ gi e 94 3 = iz f ∧ gi e 94 2 = iz (kD Z sz f : Nat) ∧ gi e 94 4 = iz (tE Z sz f : Nat) ∧ (kD Z sz f = 2 → gi e 94 5 = iz (dV Z f (tE Z sz f - f))) ∧ frX d e := by
  obtain ⟨d2, hd2⟩ : ∃ d2 : DY, d2 = si (si d 94 3 (iz f)) 94 5 0 := ⟨_, rfl⟩
  have o : ∀ x i : Nat, ¬ (x = 94 ∧ (i = 3 ∨ i = 5)) → gi d2 x i = gi d x i := fun x i h => by rw [hd2, gi_si_if, if_neg (by omega), gi_si_if, if_neg (by omega)]
  have g1 : gi d2 94 1 = iz sz := (o 94 1 (by omega)).trans h1
  have g4 : gi d2 94 4 = iz f := (o 94 4 (by omega)).trans h4
  have g3 : gi d2 94 3 = iz f := by rw [hd2, gi_si_if, if_neg (by omega), gi_si_if, if_pos ⟨rfl, rfl⟩]
  have g5 : gi d2 94 5 = 0 := by rw [hd2, gi_si_if, if_pos ⟨rfl, rfl⟩]
  have f2 : frX d d2 := by rw [hd2]; exact frX_tr (frX_si d 3 _ (by omega)) (frX_si _ 5 _ (by omega))
  have F := F_X6_step_52_s Z0.1 N 94 d
  rw [h4, bd_eq, bd_eq, ← hd2, g3, g1] at F
  unfold kD tE
  by_cases e : sz ≤ f
  · rw [if_neg (show ¬ iz (f : Int) < iz (sz : Int) from iz_nlt (by omega)), bd_eq] at F
    rw [if_pos e, if_pos e]
    refine ⟨si d2 94 2 0, F, ?_, ?_, ?_, fun z => by omega, frX_tr f2 (frX_si d2 2 _ (by omega))⟩
    · rw [gi_si_if, if_neg (by omega)]; exact g3
    · rw [gi_si_if, if_pos ⟨rfl, rfl⟩]; rfl
    · rw [gi_si_if, if_neg (by omega)]; exact g4
  · have hZ2 : BYT d2 Z := BYT_fr hZ f2
    obtain ⟨b1, b2⟩ := hZ2 f (by omega)
    have i5 : ib (iz (f : Int)) 500 := iz_ib (by omega)
    rw [if_pos (show iz (f : Int) < iz (sz : Int) from iz_lti (by omega)), if_pos i5, r_94_0, tnn _ f rfl (by omega), b1, nr_b b2, c_lt Z0.1 N (Z f) d2 b2, sb_eq] at F
    rw [if_neg e, if_neg e]
    by_cases L : isLt (Z f) = true
    · rw [if_pos L, if_neg (show ¬ (1 : Int32) = 0 by decide), bd_eq] at F
      rw [if_pos L, if_pos L]
      obtain ⟨e', u1, u2, u3, u4⟩ := c_104 N sz Z h5 (sz - f) f N (si d2 94 2 1) (by omega) (by omega) (by rw [gi_si_if, if_neg (by omega)]; exact g1) (by rw [gi_si_if, if_neg (by omega)]; exact g4) (BYT_fr hZ2 (frX_si d2 2 _ (by omega)))
      refine ⟨e', F.trans u1, ?_, ?_, u2, fun z => by omega, frX_tr f2 (frX_tr (frX_si d2 2 1 (by omega)) ⟨fun x i h => u3 x i (by omega), u4⟩)⟩
      · rw [u3 _ _ (by omega), gi_si_if, if_neg (by omega)]; exact g3
      · rw [u3 _ _ (by omega), gi_si_if, if_pos ⟨rfl, rfl⟩]; rfl
    · rw [if_neg L, if_pos rfl, if_pos (by rw [g3]; exact i5), g3, tnn _ f rfl (by omega), b1, nr_b b2, c_dg Z0.1 N (Z f) d2 b2, sb_eq] at F
      rw [if_neg L, if_neg L]
      by_cases D : isDg (Z f) = true
      · rw [if_pos D, if_neg (show ¬ (1 : Int32) = 0 by decide)] at F
        rw [if_pos D, if_pos D]
        obtain ⟨e', u1, u2, u3, u4, u5, u6⟩ := c_158 N sz f Z h5 (sz - f) f N d2 (by omega) (by omega) (by omega) g1 g3 g4 hZ2 (fun i q1 q2 => by omega) (fun _ => by rw [g5, Nat.sub_self]; rfl)
        refine ⟨e', F.trans u1, ?_, ?_, u2, fun z => ?_, frX_tr f2 ⟨fun x i h => u5 x i (by omega), u6⟩⟩
        · rw [u5 _ _ (by omega)]; exact g3
        · rw [u3]
          by_cases y : rn Z isDg (sz - f) f - f ≤ 3
          · rw [if_pos y, if_pos y]; rfl
          · rw [if_neg y, if_neg y]; rfl
        · by_cases y : rn Z isDg (sz - f) f - f ≤ 3
          · exact u4 y
          · rw [if_neg y] at z
            omega
      · rw [if_neg D, if_pos rfl, if_pos (by rw [g3]; exact i5), g3, tnn _ f rfl (by omega), b1, nr_b b2] at F
        rw [if_neg D, if_neg D]
        have s298 : ∀ v : Int32, F_X6_step_298 Z0.1 N 94 94 v d2 = some (si (si d2 94 2 v) 94 4 (iz ((f + 1 : Nat) : Int))) := fun v => by
          rw [F_X6_step_298_s, bd_eq, bd_eq, show gi (si d2 94 2 v) 94 4 = iz f from by rw [gi_si_if, if_neg (by omega)]; exact g4, show iz (f : Int) + (1 : Int32) = iz ((f + 1 : Nat) : Int) from iz_add f 1]
        have res : ∀ k : Nat, 2 < k → F_X6_step_52 Z0.1 N 94 d = F_X6_step_298 Z0.1 N 94 94 (iz k) d2 → ∃ e : DY, F_X6_step_52 Z0.1 N 94 d = some e ∧ gi e 94 3 = iz f ∧ gi e 94 2 = iz k ∧ gi e 94 4 = iz ((f + 1 : Nat) : Int) ∧ (k = 2 → gi e 94 5 = iz (dV Z f (f + 1 - f))) ∧ frX d e := fun k hk hF => by
          refine ⟨_, hF.trans (s298 _), ?_, ?_, ?_, fun z => by omega, frX_tr f2 (frX_tr (frX_si d2 2 _ (by omega)) (frX_si _ 4 _ (by omega)))⟩
          · rw [gi_si_if, if_neg (by omega), gi_si_if, if_neg (by omega)]; exact g3
          · rw [gi_si_if, if_neg (by omega), gi_si_if, if_pos ⟨rfl, rfl⟩]
          · rw [gi_si_if, if_pos ⟨rfl, rfl⟩]
        have cmp : ∀ k : Nat, k < 128 → (iz (Z f) = iz (k : Int) ↔ Z f = k) := fun k hk => iz_inj (by omega) (by omega) (by omega) (by omega)
        have c58 : (iz (Z f) = (58 : Int32) ↔ Z f = 58) := cmp 58 (by omega)
        have c59 : (iz (Z f) = (59 : Int32) ↔ Z f = 59) := cmp 59 (by omega)
        have c60 : (iz (Z f) = (60 : Int32) ↔ Z f = 60) := cmp 60 (by omega)
        have c62 : (iz (Z f) = (62 : Int32) ↔ Z f = 62) := cmp 62 (by omega)
        have c61 : (iz (Z f) = (61 : Int32) ↔ Z f = 61) := cmp 61 (by omega)
        by_cases G : isSg (Z f) = true
        · rw [if_pos G]
          refine res 3 (by omega) (F.trans ?_)
          unfold isSg at G
          rw [decide_eq_true_eq] at G
          show _ = F_X6_step_298 Z0.1 N 94 94 (3 : Int32) d2
          by_cases q1 : Z f = 58
          · rw [if_pos (c58.mpr q1)]
          rw [if_neg (fun y => q1 (c58.mp y))]
          by_cases q2 : Z f = 59
          · rw [if_pos (c59.mpr q2)]
          rw [if_neg (fun y => q2 (c59.mp y))]
          by_cases q3 : Z f = 60
          · rw [if_pos (c60.mpr q3)]
          rw [if_neg (fun y => q3 (c60.mp y))]
          by_cases q4 : Z f = 62
          · rw [if_pos (c62.mpr q4)]
          rw [if_neg (fun y => q4 (c62.mp y)), if_pos (c61.mpr (by omega))]
        · rw [if_neg G]
          refine res 4 (by omega) (F.trans ?_)
          unfold isSg at G
          rw [decide_eq_true_eq] at G
          show _ = F_X6_step_298 Z0.1 N 94 94 (4 : Int32) d2
          rw [if_neg (fun y => G (by have := c58.mp y; omega)), if_neg (fun y => G (by have := c59.mp y; omega)), if_neg (fun y => G (by have := c60.mp y; omega)), if_neg (fun y => G (by have := c62.mp y; omega)), if_neg (fun y => G (by have := c61.mp y; omega))]
/-- where the next token begins -/
def fF (Z : Nat → Int) (sz t : Nat) : Nat := rn Z isSp (sz - t) t
theorem c_step (N sz : Nat) (Z : Nat → Int) (hN : 501 ≤ N) (h5 : sz ≤ 500) : ∀ (q t k : Nat) (d : DY), t + q = sz → q < k → gi d 94 1 = iz sz → gi d 94 4 = iz t → BYT d Z → ∃ e : DY, F_X6_step_0 Z0.1 N k 94 d = some e ∧ gi e 94 3 = iz (rn Z isSp q t : Nat) ∧ gi e 94 2 = iz (kD Z sz (rn Z isSp q t) : Nat) ∧ gi e 94 4 = iz (tE Z sz (rn Z isSp q t) : Nat) ∧ (kD Z sz (rn Z isSp q t) = 2 → gi e 94 5 = iz (dV Z (rn Z isSp q t) (tE Z sz (rn Z isSp q t) - rn Z isSp q t))) ∧ frX d e := by
  intro q
  induction q with
  | zero =>
    intro t k d hq hk h1 h4 hZ
    obtain ⟨k, rfl⟩ : ∃ j, k = j + 1 := ⟨k - 1, by omega⟩
    rw [F_X6_step_0_s, h1, h4, if_pos (show iz (sz : Int) ≤ iz (t : Int) from iz_lei (by omega))]
    exact c_52 N sz t Z d hN h5 (by omega) h1 h4 hZ
  | succ q ih =>
    intro t k d hq hk h1 h4 hZ
    obtain ⟨k, rfl⟩ : ∃ j, k = j + 1 := ⟨k - 1, by omega⟩
    obtain ⟨b1, b2⟩ := hZ t (by omega)
    have i5 : ib (iz (t : Int)) 500 := iz_ib (by omega)
    have t1 : iz (t : Int) + (1 : Int32) = iz ((t + 1 : Nat) : Int) := iz_add t 1
    have c32 : (iz (Z t) = (32 : Int32) ↔ Z t = 32) := iz_inj (b := 32) (by omega) (by omega) (by omega) (by omega)
    have c10 : (iz (Z t) = (10 : Int32) ↔ Z t = 10) := iz_inj (b := 10) (by omega) (by omega) (by omega) (by omega)
    rw [rn_s, F_X6_step_0_s, h1, h4, if_neg (show ¬ iz (sz : Int) ≤ iz (t : Int) from iz_nle (by omega)), if_pos i5, if_pos i5, r_94_0, tnn _ t rfl (by omega), b1, nr_b b2, F_X6_step_39_s, bd_eq, h4, t1]
    by_cases z : isSp (Z t) = true
    · obtain ⟨e, u1, u2, u3, u4, u5, u6⟩ := ih (t + 1) k (si d 94 4 (iz ((t + 1 : Nat) : Int))) (by omega) (by omega) (by rw [gi_si_if, if_neg (by omega)]; exact h1) (by rw [gi_si_if, if_pos ⟨rfl, rfl⟩]) (BYT_fr hZ (frX_si d 4 _ (by omega)))
      rw [if_pos z]
      refine ⟨e, ?_, u2, u3, u4, u5, frX_tr (frX_si d 4 _ (by omega)) u6⟩
      unfold isSp at z
      rw [decide_eq_true_eq] at z
      by_cases y : Z t = 32
      · rw [if_pos (c32.mpr y)]; exact u1
      · rw [if_neg (fun w => y (c32.mp w)), if_pos (c10.mpr (by omega))]; exact u1
    · rw [if_neg z]
      unfold isSp at z
      rw [decide_eq_true_eq] at z
      rw [if_neg (fun w => z (Or.inl (c32.mp w))), if_neg (fun w => z (Or.inr (c10.mp w)))]
      exact c_52 N sz t Z d hN h5 (by omega) h1 h4 hZ
