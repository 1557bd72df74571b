/-! reading, the small steps of both sides -/
def frP (c e : DY) : Prop := (∀ x k : Nat, ¬ (x = 94 ∧ 2 ≤ k ∧ k ≤ 7) → gi e x k = gi c x k) ∧ ∀ x k : Nat, gl e x k = gl c x k
def frQ (m e : DY) : Prop := (∀ x k : Nat, ¬ (x = 510 ∧ ((18 ≤ k ∧ k ≤ 28 ∧ k ≠ 19) ∨ k = 35)) → gi e x k = gi m x k) ∧ ∀ x k : Nat, ¬ (x = 510 ∧ k = 23) → gl e x k = gl m x k
theorem frP_re (c : DY) : frP c c := ⟨fun _ _ _ => rfl, fun _ _ => rfl⟩
theorem frQ_re (c : DY) : frQ c c := ⟨fun _ _ _ => rfl, fun _ _ _ => rfl⟩
theorem frP_tr {a b c : DY} (h : frP a b) (k : frP b c) : frP a c := ⟨fun x y q => (k.1 x y q).trans (h.1 x y q), fun x y => (k.2 x y).trans (h.2 x y)⟩
theorem frQ_tr {a b c : DY} (h : frQ a b) (k : frQ b c) : frQ a c := ⟨fun x y q => (k.1 x y q).trans (h.1 x y q), fun x y q => (k.2 x y q).trans (h.2 x y q)⟩
theorem frP_X {a b : DY} (h : frX a b) : frP a b := ⟨fun x y q => h.1 x y (by omega), h.2⟩
theorem frQ_Y {a b : DY} (h : frY a b) : frQ a b := ⟨fun x y q => h.1 x y (by omega), h.2⟩
theorem frP_si (c : DY) (k : Nat) (v : Int32) (h : 2 ≤ k ∧ k ≤ 7) : frP c (si c 94 k v) := ⟨fun x y q => by rw [gi_si_if, if_neg (by omega)], fun _ _ => rfl⟩
theorem frQ_si (c : DY) (k : Nat) (v : Int32) (h : (18 ≤ k ∧ k ≤ 28 ∧ k ≠ 19) ∨ k = 35) : frQ c (si c 510 k v) := ⟨fun x y q => by rw [gi_si_if, if_neg (by omega)], fun _ _ _ => rfl⟩
/-- the FAULT found so far: ahead of P -/
def FLT (c m : DY) (P : Nat) : Prop := (gi c 94 6 = 0 ∧ gi c 94 7 = -1 ∧ gi m 510 25 = 0) ∨ ∃ F p : Nat, (2 ≤ F ∧ F ≤ 4) ∧ (p < P ∧ p ≤ 500) ∧ gi c 94 6 = iz F ∧ gi c 94 7 = iz p ∧ gi m 510 25 = iz F ∧ gi m 510 26 = iz p
/-- the same, or at it: too many -/
def FL3 (c m : DY) (P : Nat) : Prop := (gi c 94 6 = 0 ∧ gi c 94 7 = -1 ∧ gi m 510 25 = 0) ∨ ∃ F p : Nat, (2 ≤ F ∧ F ≤ 4) ∧ ((p < P ∨ p = P ∧ F = 3) ∧ p ≤ 500) ∧ gi c 94 6 = iz F ∧ gi c 94 7 = iz p ∧ gi m 510 25 = iz F ∧ gi m 510 26 = iz p
theorem FLT_up {c m : DY} {P Q : Nat} (h : FLT c m P) (hq : P ≤ Q) : FLT c m Q := by
  rcases h with z | ⟨F, p, a, b, r⟩
  · exact Or.inl z
  · exact Or.inr ⟨F, p, a, by omega, r⟩
theorem FL3_of {c m : DY} {P : Nat} (h : FLT c m P) : FL3 c m P := by
  rcases h with z | ⟨F, p, a, b, r⟩
  · exact Or.inl z
  · exact Or.inr ⟨F, p, a, by omega, r⟩
theorem FLT_of3 {c m : DY} {P Q : Nat} (h : FL3 c m P) (hq : P < Q) : FLT c m Q := by
  rcases h with z | ⟨F, p, a, b, r⟩
  · exact Or.inl z
  · exact Or.inr ⟨F, p, a, by omega, r⟩
theorem FLT_cells {c m c' m' : DY} {P : Nat} (h : FLT c m P) (h6 : gi c' 94 6 = gi c 94 6) (h7 : gi c' 94 7 = gi c 94 7) (h5 : gi m' 510 25 = gi m 510 25) (h8 : gi m' 510 26 = gi m 510 26) : FLT c' m' P := by
  unfold FLT
  rw [h6, h7, h5, h8]
  exact h
theorem FL3_cells {c m c' m' : DY} {P : Nat} (h : FL3 c m P) (h6 : gi c' 94 6 = gi c 94 6) (h7 : gi c' 94 7 = gi c 94 7) (h5 : gi m' 510 25 = gi m 510 25) (h8 : gi m' 510 26 = gi m 510 26) : FL3 c' m' P := by
  unfold FL3
  rw [h6, h7, h5, h8]
  exact h
theorem FLT_n1 {c m : DY} {P : Nat} (h : FLT c m P) : gi c 94 6 ≠ 1 := by
  rcases h with z | ⟨F, p, a, b, r, _⟩
  · rw [z.1]; decide
  · rw [r]; exact iz_nei (b := 1) (by omega)
theorem FL3_n1 {c m : DY} {P : Nat} (h : FL3 c m P) : gi c 94 6 ≠ 1 := by
  rcases h with z | ⟨F, p, a, b, r, _⟩
  · rw [z.1]; decide
  · rw [r]; exact iz_nei (b := 1) (by omega)
theorem FL3_iff {c m : DY} {P : Nat} (h : FL3 c m P) : gi c 94 6 = 0 ↔ gi m 510 25 = 0 := by
  rcases h with z | ⟨F, p, a, b, r, _, s, _⟩
  · exact ⟨fun _ => z.2.2, fun _ => z.1⟩
  · rw [r, s]
theorem note_both (N : Nat) {c m : DY} {at_ F0 : Nat} (ha : at_ ≤ 500) (hF : 2 ≤ F0 ∧ F0 ≤ 4) (h : FLT c m at_ ∨ FL3 c m at_ ∧ 3 ≤ F0) : ∃ c' m' : DY, F_X6_note Z0.1 N 94 (iz F0) (iz at_) c = some c' ∧ F_X10_later Z0.1 N 510 (iz F0) (iz at_) m = some m' ∧ FLT c' m' (at_ + 1) ∧ gi c' 94 6 ≠ 0 ∧ (F0 = 3 → FL3 c' m' at_) ∧ (∀ x k : Nat, ¬ (x = 94 ∧ (k = 6 ∨ k = 7)) → gi c' x k = gi c x k) ∧ (∀ x k : Nat, gl c' x k = gl c x k) ∧ (∀ x k : Nat, ¬ (x = 510 ∧ (k = 25 ∨ k = 26)) → gi m' x k = gi m x k) ∧ ∀ x k : Nat, gl m' x k = gl m x k := by
  have h3 : FL3 c m at_ := by
    rcases h with z | z
    · exact FL3_of z
    · exact z.1
  rcases h3 with ⟨z1, z2, z3⟩ | ⟨F, p, f1, f2, f3, f4, f5, f6⟩
  · refine ⟨si (si c 94 6 (iz F0)) 94 7 (iz at_), si (si m 510 25 (iz F0)) 510 26 (iz at_), ?_, ?_, Or.inr ⟨F0, at_, hF, ⟨by omega, ha⟩, ?_, ?_, ?_, ?_⟩, ?_, fun e => Or.inr ⟨F0, at_, hF, ⟨Or.inr ⟨rfl, e⟩, ha⟩, ?_, ?_, ?_, ?_⟩, fun x k q => ?_, fun _ _ => rfl, fun x k q => ?_, fun _ _ => rfl⟩
    · rw [F_X6_note_s, if_pos z1, bd_eq, bd_eq]
    · rw [F_X10_later_s, if_pos z3, F_X10_later_31_s, bd_eq, bd_eq]
    · rw [gi_si_if, if_neg (by omega), gi_si_if, if_pos ⟨rfl, rfl⟩]
    · rw [gi_si_if, if_pos ⟨rfl, rfl⟩]
    · rw [gi_si_if, if_neg (by omega), gi_si_if, if_pos ⟨rfl, rfl⟩]
    · rw [gi_si_if, if_pos ⟨rfl, rfl⟩]
    · rw [gi_si_if, if_neg (by omega), gi_si_if, if_pos ⟨rfl, rfl⟩]; exact iz_nei (b := 0) (by omega)
    · rw [gi_si_if, if_neg (by omega), gi_si_if, if_pos ⟨rfl, rfl⟩]
    · rw [gi_si_if, if_pos ⟨rfl, rfl⟩]
    · rw [gi_si_if, if_neg (by omega), gi_si_if, if_pos ⟨rfl, rfl⟩]
    · rw [gi_si_if, if_pos ⟨rfl, rfl⟩]
    · rw [gi_si_if, if_neg (by omega), gi_si_if, if_neg (by omega)]
    · rw [gi_si_if, if_neg (by omega), gi_si_if, if_neg (by omega)]
  · have nz0 : ¬ iz (F : Int) = 0 := iz_nei (b := 0) (by omega)
    refine ⟨c, m, ?_, ?_, Or.inr ⟨F, p, f1, by omega, f3, f4, f5, f6⟩, by rw [f3]; exact nz0, fun _ => Or.inr ⟨F, p, f1, f2, f3, f4, f5, f6⟩, fun _ _ _ => rfl, fun _ _ => rfl, fun _ _ _ => rfl, fun _ _ => rfl⟩
    · rw [F_X6_note_s, f3, if_neg nz0]
    · rw [F_X10_later_s, f5, f6, if_neg nz0, if_neg (show ¬ iz (at_ : Int) < iz (p : Int) from iz_nlt (by omega))]
      by_cases y : p = at_
      · rw [if_pos (by rw [y])]
        rcases h with z | ⟨_, z⟩
        · exfalso
          rcases z with w | ⟨F', p', _, q2, q3, q4, _⟩
          · rw [f3] at w
            exact nz0 w.1
          · have := f4.symm.trans q4
            rw [iz_inj (by omega) (by omega) (by omega) (by omega)] at this
            omega
        · rw [if_pos (show iz (F : Int) ≤ iz (F0 : Int) from iz_lei (by omega))]
      · rw [if_neg (show ¬ iz (at_ : Int) = iz (p : Int) from iz_nei (by omega))]
/-- the class has broken off at w, the reference has stopped there -/
def BRK (c m : DY) (w : Nat) : Prop := gi c 94 6 = 1 ∧ gi c 94 7 = iz w ∧ gi m 510 24 = iz w ∧ w ≤ 500
theorem c_break (N f : Nat) (c : DY) (h : gi c 94 6 ≠ 1) (h3 : gi c 94 3 = iz f) : F_X6_breakOff Z0.1 N 94 c = some (si (si c 94 6 1) 94 7 (iz f)) := by
  rw [F_X6_breakOff_s, if_neg h, bd_eq, bd_eq, show gi (si c 94 6 1) 94 3 = iz f from by rw [gi_si_if, if_neg (by omega)]; exact h3]
theorem m_stops (N f : Nat) (m : DY) (h : gi m 510 20 = iz f) : F_X10_stops Z0.1 N 510 m = some (0, si m 510 24 (iz f)) := by
  rw [F_X10_stops_s, bd_eq, h]
theorem brk_both {c m : DY} {f : Nat} (hf : f ≤ 500) : BRK (si (si c 94 6 1) 94 7 (iz f)) (si m 510 24 (iz f)) f ∧ frP c (si (si c 94 6 1) 94 7 (iz f)) ∧ frQ m (si m 510 24 (iz f)) := by
  refine ⟨⟨?_, ?_, ?_, hf⟩, frP_tr (frP_si c 6 _ (by omega)) (frP_si _ 7 _ (by omega)), frQ_si m 24 _ (by omega)⟩
  · rw [gi_si_if, if_neg (by omega), gi_si_if, if_pos ⟨rfl, rfl⟩]
  · rw [gi_si_if, if_pos ⟨rfl, rfl⟩]
  · rw [gi_si_if, if_pos ⟨rfl, rfl⟩]
/-! broken off: nothing changes -/
theorem b_isWord (N w : Nat) (c : DY) (h : gi c 94 6 = 1) : F_X6_isWord Z0.1 N 94 w c = some (0, c) := by rw [F_X6_isWord_s, if_pos h]
theorem b_takes (N w : Nat) (c : DY) (h : gi c 94 6 = 1) : F_X6_takesWord Z0.1 N 94 w c = some (0, c) := by
  rw [F_X6_takesWord_s, b_isWord N w c h, sb_eq, if_pos rfl, if_pos (show zb (0 : Int32) by decide)]
theorem b_break (N : Nat) (c : DY) (h : gi c 94 6 = 1) : F_X6_breakOff Z0.1 N 94 c = some c := by rw [F_X6_breakOff_s, if_pos h]
theorem b_needWord (N w : Nat) (c : DY) (h : gi c 94 6 = 1) : F_X6_needWord Z0.1 N 94 w c = some c := by
  rw [F_X6_needWord_s, b_takes N w c h, sb_eq, if_pos rfl, b_break N c h, sb_eq]
theorem b_isSign (N : Nat) (s : Int32) (c : DY) (h : gi c 94 6 = 1) : F_X6_isSign Z0.1 N 94 s c = some (0, c) := by rw [F_X6_isSign_s, if_pos h]
theorem b_needSign (N : Nat) (s : Int32) (c : DY) (h : gi c 94 6 = 1) : F_X6_needSign Z0.1 N 94 s c = some c := by
  rw [F_X6_needSign_s, b_isSign N s c h, sb_eq, if_pos rfl, b_break N c h, sb_eq]
theorem b_num (N : Nat) (c : DY) (h : gi c 94 6 = 1) : F_X6_needNumber Z0.1 N 94 c = some (0, c) := by
  rw [F_X6_needNumber_s, if_pos h, F_X6_needNumber_16_s, b_break N c h, sb_eq]
theorem b_note (N : Nat) (a b : Int32) (c : DY) (h : gi c 94 6 = 1) : F_X6_note Z0.1 N 94 a b c = some c := by
  rw [F_X6_note_s, if_neg (by rw [h]; decide)]
theorem b_num_ (N : Nat) (a b : Int32) (c : DY) (h : gi c 94 6 = 1) : F_X6_needNumber_ Z0.1 N 94 a b c = some (0, c) := by
  have q : ∀ x4 : Int32, F_X6_needNumber__23 Z0.1 N 94 (gi c 94 3) x4 c = some (x4, c) := fun x4 => by
    rw [F_X6_needNumber__23_s, b_note N _ _ c h, sb_eq]
  rw [F_X6_needNumber__s, b_num N c h, sb_eq, q]
  by_cases z : (0 : Int32) < a
  · rw [if_pos z]
  · rw [if_neg z]
    by_cases y : (0 : Int32) ≤ b
    · rw [if_pos y]
    · rw [if_neg y]
theorem b_sound (N : Nat) (c : DY) (h : gi c 94 6 = 1) : F_X6_isSound Z0.1 N 94 c = some (0, c) := by rw [F_X6_isSound_s, if_neg (by rw [h]; decide)]
theorem c_sound (N : Nat) (c : DY) : F_X6_isSound Z0.1 N 94 c = some (if gi c 94 6 = 0 then 1 else 0, c) := by
  rw [F_X6_isSound_s]
  by_cases z : gi c 94 6 = 0
  · rw [if_pos z, if_pos z]
  · rw [if_neg z, if_neg z]
theorem srt_eq (k : Nat) (h : k ≤ 4) : srt k ≤ 4 ∧ (srt k = 0 ↔ k = 0) ∧ (srt k = 3 ↔ k = 2) ∧ (srt k = 4 ↔ k = 3) ∧ (srt k = 2 ↔ k = 1) := by
  have : k = 0 ∨ k = 1 ∨ k = 2 ∨ k = 3 ∨ k = 4 := by omega
  rcases this with rfl | rfl | rfl | rfl | rfl <;> decide
theorem kinds {c m : DY} {Z : Nat → Int} {sz f : Nat} (hT : TKS c m Z sz f) : (gi c 94 2 = 0 ↔ kD Z sz f = 0) ∧ (gi m 510 21 = 0 ↔ kD Z sz f = 0) ∧ (gi c 94 2 = 2 ↔ kD Z sz f = 2) ∧ (gi m 510 21 = 3 ↔ kD Z sz f = 2) ∧ (gi c 94 2 = 3 ↔ kD Z sz f = 3) ∧ (gi m 510 21 = 4 ↔ kD Z sz f = 3) ∧ (gi c 94 2 = 1 ↔ kD Z sz f = 1) ∧ (gi m 510 21 = 2 ↔ kD Z sz f = 1) := by
  obtain ⟨⟨h5, hf⟩, _, _, _, _, ⟨e1, e2⟩, _⟩ := hT
  have k4 := (tE_b Z sz f hf).2.2.2
  obtain ⟨s4, s0, s3, s44, s2⟩ := srt_eq _ k4
  rw [e1, e2]
  have I : ∀ (a : Nat) (b : Nat), a ≤ 4 → b ≤ 4 → (iz (a : Int) = iz (b : Int) ↔ a = b) := fun a b ha hb => (iz_inj (by omega) (by omega) (by omega) (by omega)).trans (by omega)
  exact ⟨I _ 0 k4 (by omega), (I _ 0 s4 (by omega)).trans s0, I _ 2 k4 (by omega), (I _ 3 s4 (by omega)).trans s3, I _ 3 k4 (by omega), (I _ 4 s4 (by omega)).trans s44, I _ 1 k4 (by omega), (I _ 2 s4 (by omega)).trans s2⟩
theorem TKS_fr {c m c' m' : DY} {Z : Nat → Int} {sz f : Nat} (hT : TKS c m Z sz f) (hc : ∀ x k : Nat, (x = 3 ∨ x = 94 ∧ k ≤ 5) → gi c' x k = gi c x k) (hm : ∀ x k : Nat, (x = 511 ∨ x = 510 ∧ 18 ≤ k ∧ k ≤ 22) → gi m' x k = gi m x k) (hl : gl m' 510 23 = gl m 510 23) : TKS c' m' Z sz f := by
  obtain ⟨a, ⟨b1, b2⟩, ⟨c1, c2⟩, ⟨d1, d2⟩, ⟨e1, e2⟩, ⟨f1, f2⟩, g, h, i⟩ := hT
  refine ⟨a, ⟨(hc 94 1 (by omega)).trans b1, (hm 510 19 (by omega)).trans b2⟩, ⟨fun i hi => by rw [hc 3 i (by omega)]; exact c1 i hi, fun i hi => by rw [hm 511 i (by omega)]; exact c2 i hi⟩, ⟨(hc 94 3 (by omega)).trans d1, (hm 510 20 (by omega)).trans d2⟩, ⟨(hc 94 4 (by omega)).trans e1, (hm 510 18 (by omega)).trans e2⟩, ⟨(hc 94 2 (by omega)).trans f1, (hm 510 21 (by omega)).trans f2⟩, fun z => ?_, fun z => ?_, fun z => ?_⟩
  · rw [hc 94 5 (by omega), hm 510 22 (by omega)]; exact g z
  · rw [hm 510 22 (by omega)]; exact h z
  · rw [hl]; exact i z
theorem dV_999 {Z : Nat → Int} {sz f : Nat} (h : kD Z sz f = 2) : 0 ≤ dV Z f (tE Z sz f - f) ∧ dV Z f (tE Z sz f - f) ≤ 999 := by
  have kd := h
  unfold kD at kd
  by_cases e : sz ≤ f
  · rw [if_pos e] at kd; omega
  rw [if_neg e] at kd
  by_cases L : isLt (Z f) = true
  · rw [if_pos L] at kd; omega
  rw [if_neg L] at kd
  by_cases D : isDg (Z f) = true
  · rw [if_pos D] at kd
    by_cases y : tE Z sz f - f ≤ 3
    · have te : tE Z sz f = rn Z isDg (sz - f) f := by
        unfold tE
        rw [if_neg e, if_neg L, if_pos D]
      have b := rn_b Z isDg (sz - f) f
      rw [te] at y ⊢
      have := dV_b Z f (rn Z isDg (sz - f) f - f) y (fun i q1 q2 => b.2.2 i q1 (by omega))
      exact ⟨this.1, this.2.1⟩
    · rw [if_neg y] at kd; omega
  · rw [if_neg D] at kd
    by_cases G : isSg (Z f) = true
    · rw [if_pos G] at kd; omega
    · rw [if_neg G] at kd; omega
/-- a NUMBER on both sides -/
theorem num_both {c m : DY} {Z : Nat → Int} {sz f : Nat} (N : Nat) (lo hi hi' : Int) (hN : 900 ≤ N) (hT : TKS c m Z sz f) (hF : FLT c m f) (b1 : -10 ≤ lo ∧ lo ≤ 10) (b2 : -10 ≤ hi ∧ hi ≤ 1000) (b3 : -10 ≤ hi' ∧ hi' ≤ 1000) (hs : gi c 94 6 = 0 → hi = hi') : (∃ c' m' : DY, F_X6_needNumber_ Z0.1 N 94 (iz lo) (iz hi) c = some (0, c') ∧ F_X10_number Z0.1 N 510 (iz lo) (iz hi') m = some (0, m') ∧ BRK c' m' f ∧ frP c c' ∧ frQ m m') ∨ ∃ (v : Int) (c' m' : DY), (0 ≤ v ∧ v ≤ 999) ∧ F_X6_needNumber_ Z0.1 N 94 (iz lo) (iz hi) c = some (iz v, c') ∧ F_X10_number Z0.1 N 510 (iz lo) (iz hi') m = some (1, m') ∧ TKS c' m' Z sz (nx Z sz f) ∧ FLT c' m' (f + 1) ∧ f < nx Z sz f ∧ gi m' 510 27 = iz v ∧ frP c c' ∧ frQ m m' ∧ ((lo ≤ v ∧ v ≤ hi' ∧ gi m' 510 28 = gi m 510 28 ∧ gi m' 510 25 = gi m 510 25 ∧ gi m' 510 26 = gi m 510 26) ∨ gi m' 510 28 = 0) ∧ (gi c' 94 6 = 0 → gi c 94 6 = 0 ∧ lo ≤ v ∧ v ≤ hi ∧ gi m' 510 28 = gi m 510 28) ∧ (gi c 94 6 = 0 → gi c' 94 6 ≠ 0 → gi m' 510 28 = 0) := by
  obtain ⟨kc0, km0, kc2, km3, kc3, km4, _, _⟩ := kinds hT
  have n6 := FLT_n1 hF
  obtain ⟨⟨h5, hf⟩, _, _, ⟨c3, m20⟩, _, _, hv, _⟩ := id hT
  by_cases k2 : kD Z sz f = 2
  · refine Or.inr ?_
    obtain ⟨v5, v22⟩ := hv k2
    obtain ⟨v0, v9⟩ := dV_999 k2
    generalize dV Z f (tE Z sz f - f) = v at v5 v22 v0 v9
    obtain ⟨c1, m1, s1, s2, s3, s4, s5⟩ := both_step N hN hT
    have nf := (nx_b Z sz f hf).2.2 (by omega)
    have rC : F_X6_needNumber Z0.1 N 94 c = some (iz v, c1) := by
      rw [F_X6_needNumber_s, if_neg n6, if_pos (kc2.mpr k2), v5]
      exact bnd s1 rfl
    have c23 : ∀ x4 : Int32, F_X6_needNumber__23 Z0.1 N 94 (iz (f : Int)) x4 c1 = (F_X6_note Z0.1 N 94 2 (iz f) c1).bind fun u1 => some (x4, u1) := fun x4 => by rw [F_X6_needNumber__23_s]
    have fC : FLT c1 m1 f := FLT_cells hF (s4.1 94 6 (by omega)) (s4.1 94 7 (by omega)) (s5.1 510 25 (by omega)) (s5.1 510 26 (by omega))
    -- the reference looks before it goes on
    have fR : FLT c (si m 510 27 (iz v)) f := FLT_cells hF rfl rfl (by rw [gi_si_if, if_neg (by omega)]) (by rw [gi_si_if, if_neg (by omega)])
    have tR : ∀ m2 : DY, (∀ x k : Nat, ¬ (x = 510 ∧ (k = 25 ∨ k = 26 ∨ k = 27 ∨ k = 28)) → gi m2 x k = gi m x k) → (∀ x k : Nat, gl m2 x k = gl m x k) → ∃ m3 : DY, F_X10_number_47 Z0.1 N 510 m2 = some (1, m3) ∧ TKS c1 m3 Z sz (nx Z sz f) ∧ frY m2 m3 := fun m2 o2 l2 => by
      have hT2 : TKS c m2 Z sz f := TKS_fr hT (fun _ _ _ => rfl) (fun x k q => o2 x k (by omega)) (l2 _ _)
      obtain ⟨c3', m3, t1, t2, t3, t4, t5⟩ := both_step N hN hT2
      have e : c3' = c1 := Option.some.inj (t1.symm.trans s1)
      subst e
      exact ⟨m3, by rw [F_X10_number_47_s]; exact bnd t2 rfl, t3, t5⟩
    have inR : F_X10_in Z0.1 N (iz v) (iz lo) (iz hi') (si m 510 27 (iz v)) = some (if lo ≤ v ∧ v ≤ hi' then 1 else 0, si m 510 27 (iz v)) := by
      rw [m_in]
      by_cases a : v < lo
      · rw [if_pos (show iz v < iz lo from iz_lti (by omega)), if_neg (by omega)]
      · rw [if_neg (show ¬ iz v < iz lo from iz_nlt (by omega))]
        by_cases b : hi' < v
        · rw [if_pos (show iz hi' < iz v from iz_lti (by omega)), if_neg (by omega)]
        · rw [if_neg (show ¬ iz hi' < iz v from iz_nlt (by omega)), if_pos (by omega)]
    have F := F_X10_number_s Z0.1 N 510 (iz lo) (iz hi') m
    rw [if_pos (km3.mpr k2), bd_eq, v22, show gi (si m 510 27 (iz v)) 510 22 = iz v from by rw [gi_si_if, if_neg (by omega)]; exact v22, inR, sb_eq, show gi (si m 510 27 (iz v)) 510 20 = iz f from by rw [gi_si_if, if_neg (by omega)]; exact m20] at F
    -- the class's look behind it
    have G := F_X6_needNumber__s Z0.1 N 94 (iz lo) (iz hi) c
    rw [rC, sb_eq, c3, c23] at G
    by_cases inC : lo ≤ v ∧ v ≤ hi
    · rw [if_neg (show ¬ iz v < iz lo from iz_nlt (by omega)), if_pos (show iz v ≤ iz hi from iz_lei (by omega))] at G
      by_cases inM : lo ≤ v ∧ v ≤ hi'
      · rw [if_pos inM, if_neg (show ¬ (1 : Int32) = 0 by decide)] at F
        obtain ⟨m3, t1, t2, t3⟩ := tR (si m 510 27 (iz v)) (fun x k q => by rw [gi_si_if, if_neg (by omega)]) (fun _ _ => rfl)
        have g : ∀ k : Nat, k = 25 ∨ k = 26 ∨ k = 28 → gi m3 510 k = gi m 510 k := fun k hk => by rw [t3.1 510 k (by omega), gi_si_if, if_neg (by omega)]
        refine ⟨v, c1, m3, ⟨v0, v9⟩, G, F.trans t1, t2, FLT_up (FLT_cells hF (s4.1 94 6 (by omega)) (s4.1 94 7 (by omega)) (g 25 (by omega)) (g 26 (by omega))) (by omega), nf, ?_, frP_X s4, frQ_tr (frQ_si m 27 _ (by omega)) (frQ_Y t3), Or.inl ⟨inM.1, inM.2, g 28 (by omega), g 25 (by omega), g 26 (by omega)⟩, fun z => ⟨(s4.1 94 6 (by omega)).symm.trans z, inC.1, inC.2, g 28 (by omega)⟩, fun z z2 => absurd ((s4.1 94 6 (by omega)).trans z) z2⟩
        rw [t3.1 510 27 (by omega), gi_si_if, if_pos ⟨rfl, rfl⟩]
      · -- only when there is a FAULT already
        have uns : gi c 94 6 ≠ 0 := fun z => inM (by have := hs z; omega)
        rw [if_neg inM, if_pos rfl] at F
        obtain ⟨c9, m2, q1, q2, q3, q4, _, q6, _, q8, q9⟩ := note_both N (c := c) (m := si m 510 27 (iz v)) (at_ := f) (F0 := 2) (by omega) (by omega) (Or.inl fR)
        have ec : c9 = c := by
          have : F_X6_note Z0.1 N 94 (iz ((2 : Nat) : Int)) (iz f) c = some c := by rw [F_X6_note_s, if_neg uns]
          exact Option.some.inj (q1.symm.trans this)
        subst ec
        have F2 := F.trans (bnd q2 rfl)
        rw [bd_eq] at F2
        obtain ⟨m3, t1, t2, t3⟩ := tR (si m2 510 28 0) (fun x k q => by rw [gi_si_if, if_neg (by omega), q8 x k (by omega), gi_si_if, if_neg (by omega)]) (fun x k => q9 x k)
        refine ⟨v, c1, m3, ⟨v0, v9⟩, G, F2.trans t1, t2, FLT_cells q3 (s4.1 94 6 (by omega)) (s4.1 94 7 (by omega)) (by rw [t3.1 510 25 (by omega), gi_si_if, if_neg (by omega)]) (by rw [t3.1 510 26 (by omega), gi_si_if, if_neg (by omega)]), nf, ?_, frP_X s4, ?_, Or.inr ?_, fun z => absurd ((s4.1 94 6 (by omega)).symm.trans z) uns, fun z => absurd z uns⟩
        · rw [t3.1 510 27 (by omega), gi_si_if, if_neg (by omega), q8 510 27 (by omega), gi_si_if, if_pos ⟨rfl, rfl⟩]
        · refine frQ_tr (frQ_si m 27 _ (by omega)) (frQ_tr (b := m2) ⟨fun x k q => q8 x k (by omega), fun x k _ => q9 x k⟩ (frQ_tr (frQ_si m2 28 0 (by omega)) (frQ_Y t3)))
        · rw [t3.1 510 28 (by omega), gi_si_if, if_pos ⟨rfl, rfl⟩]
    · -- the class notes it
      have G2 : F_X6_needNumber_ Z0.1 N 94 (iz lo) (iz hi) c = (F_X6_note Z0.1 N 94 2 (iz f) c1).bind fun u1 => some (iz v, u1) := by
        rw [G]
        by_cases a : v < lo
        · rw [if_pos (show iz v < iz lo from iz_lti (by omega))]
        · rw [if_neg (show ¬ iz v < iz lo from iz_nlt (by omega)), if_neg (show ¬ iz v ≤ iz hi from iz_nle (by omega))]
      by_cases inM : lo ≤ v ∧ v ≤ hi'
      · have uns : gi c 94 6 ≠ 0 := fun z => inC (by have := hs z; omega)
        rw [if_pos inM, if_neg (show ¬ (1 : Int32) = 0 by decide)] at F
        have nt : F_X6_note Z0.1 N 94 2 (iz f) c1 = some c1 := by rw [F_X6_note_s, if_neg (by rw [s4.1 94 6 (by omega)]; exact uns)]
        obtain ⟨m3, t1, t2, t3⟩ := tR (si m 510 27 (iz v)) (fun x k q => by rw [gi_si_if, if_neg (by omega)]) (fun _ _ => rfl)
        have g : ∀ k : Nat, k = 25 ∨ k = 26 ∨ k = 28 → gi m3 510 k = gi m 510 k := fun k hk => by rw [t3.1 510 k (by omega), gi_si_if, if_neg (by omega)]
        refine ⟨v, c1, m3, ⟨v0, v9⟩, G2.trans (bnd nt rfl), F.trans t1, t2, FLT_up (FLT_cells hF (s4.1 94 6 (by omega)) (s4.1 94 7 (by omega)) (g 25 (by omega)) (g 26 (by omega))) (by omega), nf, ?_, frP_X s4, frQ_tr (frQ_si m 27 _ (by omega)) (frQ_Y t3), Or.inl ⟨inM.1, inM.2, g 28 (by omega), g 25 (by omega), g 26 (by omega)⟩, fun z => absurd ((s4.1 94 6 (by omega)).symm.trans z) uns, fun z => absurd z uns⟩
        rw [t3.1 510 27 (by omega), gi_si_if, if_pos ⟨rfl, rfl⟩]
      · rw [if_neg inM, if_pos rfl] at F
        have fB : FLT c1 (si m 510 27 (iz v)) f := FLT_cells hF (s4.1 94 6 (by omega)) (s4.1 94 7 (by omega)) (by rw [gi_si_if, if_neg (by omega)]) (by rw [gi_si_if, if_neg (by omega)])
        obtain ⟨c2, m2, q1, q2, q3, q4, _, q6, q7, q8, q9⟩ := note_both N (c := c1) (m := si m 510 27 (iz v)) (at_ := f) (F0 := 2) (by omega) (by omega) (Or.inl fB)
        have F2 := F.trans (bnd q2 rfl)
        rw [bd_eq] at F2
        obtain ⟨m3, t1, t2, t3⟩ := tR (si m2 510 28 0) (fun x k q => by rw [gi_si_if, if_neg (by omega), q8 x k (by omega), gi_si_if, if_neg (by omega)]) (fun x k => q9 x k)
        refine ⟨v, c2, m3, ⟨v0, v9⟩, G2.trans (bnd q1 rfl), F2.trans t1, TKS_fr t2 (fun x k q => q6 x k (by omega)) (fun _ _ _ => rfl) rfl, FLT_cells q3 rfl rfl (by rw [t3.1 510 25 (by omega), gi_si_if, if_neg (by omega)]) (by rw [t3.1 510 26 (by omega), gi_si_if, if_neg (by omega)]), nf, ?_, frP_tr (frP_X s4) ⟨fun x k q => q6 x k (by omega), q7⟩, ?_, Or.inr ?_, fun z => absurd z q4, fun _ _ => ?_⟩
        · rw [t3.1 510 27 (by omega), gi_si_if, if_neg (by omega), q8 510 27 (by omega), gi_si_if, if_pos ⟨rfl, rfl⟩]
        · refine frQ_tr (frQ_si m 27 _ (by omega)) (frQ_tr (b := m2) ⟨fun x k q => q8 x k (by omega), fun x k _ => q9 x k⟩ (frQ_tr (frQ_si m2 28 0 (by omega)) (frQ_Y t3)))
        · rw [t3.1 510 28 (by omega), gi_si_if, if_pos ⟨rfl, rfl⟩]
        · rw [t3.1 510 28 (by omega), gi_si_if, if_pos ⟨rfl, rfl⟩]
  · refine Or.inl ?_
    obtain ⟨br, p1, p2⟩ := brk_both (c := c) (m := m) (f := f) (by omega)
    refine ⟨_, _, ?_, ?_, br, p1, p2⟩
    · have r : F_X6_needNumber Z0.1 N 94 c = some (0, si (si c 94 6 1) 94 7 (iz f)) := by
        rw [F_X6_needNumber_s, if_neg n6, if_neg (fun z => k2 (kc2.mp z)), F_X6_needNumber_16_s, c_break N f c n6 c3, sb_eq]
      have q : ∀ x3 x4 : Int32, F_X6_needNumber__23 Z0.1 N 94 x3 x4 (si (si c 94 6 1) 94 7 (iz f)) = some (x4, si (si c 94 6 1) 94 7 (iz f)) := fun x3 x4 => by
        rw [F_X6_needNumber__23_s, b_note N _ _ _ br.1, sb_eq]
      rw [F_X6_needNumber__s, r, sb_eq, q]
      by_cases z : (0 : Int32) < iz lo
      · rw [if_pos z]
      · rw [if_neg z]
        by_cases y : (0 : Int32) ≤ iz hi
        · rw [if_pos y]
        · rw [if_neg y]
    · rw [F_X10_number_s, if_neg (fun z => k2 (km3.mp z)), m_stops N f m m20, sb_eq, if_pos (show zb (0 : Int32) by decide)]
/-- a sign on both sides -/
theorem sign_both {c m : DY} {Z : Nat → Int} {sz f : Nat} (N ch : Nat) (hch : ch < 128) (hT : TKS c m Z sz f) (h6 : gi c 94 6 ≠ 1) : ∃ b : Int32, (b = 0 ∨ b = 1) ∧ F_X6_isSign Z0.1 N 94 (iz ch) c = some (b, c) ∧ F_X10_isSignOf Z0.1 N 510 (iz ch) m = some (b, m) ∧ (b = 1 → kD Z sz f = 3) := by
  obtain ⟨kc0, km0, kc2, km3, kc3, km4, _, _⟩ := kinds hT
  obtain ⟨⟨h5, hf⟩, ⟨a1, _⟩, ⟨bc, _⟩, ⟨c3, m20⟩, _, _, _, hv, _⟩ := id hT
  by_cases k3 : kD Z sz f = 3
  · have fs := ((tE_b Z sz f hf).2.2.1 (by omega)).2
    obtain ⟨z1, z2⟩ := bc f (by omega)
    refine ⟨if iz (Z f) = iz (ch : Int) then 1 else 0, ?_, ?_, ?_, fun _ => k3⟩
    · by_cases z : iz (Z f) = iz (ch : Int)
      · rw [if_pos z]; exact Or.inr rfl
      · rw [if_neg z]; exact Or.inl rfl
    · rw [F_X6_isSign_s, if_neg h6, if_pos (kc3.mpr k3), a1, c3, if_neg (iz_nle (by omega)), if_pos (show ib (iz (f : Int)) 500 from iz_ib (by omega)), r_94_0, tnn _ f rfl (by omega), z1, nr_b z2]
      by_cases z : iz (Z f) = iz (ch : Int)
      · rw [if_pos z, if_pos z]
      · rw [if_neg z, if_neg z]
    · rw [F_X10_isSignOf_s, if_pos (km4.mpr k3), hv k3]
      by_cases z : iz (Z f) = iz (ch : Int)
      · rw [if_pos z, if_pos z]
      · rw [if_neg z, if_neg z]
  · refine ⟨0, Or.inl rfl, ?_, ?_, fun z => absurd z (by decide)⟩
    · rw [F_X6_isSign_s, if_neg h6, if_neg (fun z => k3 (kc3.mp z))]
    · rw [F_X10_isSignOf_s, if_neg (fun z => k3 (km4.mp z))]
/-- the end of a line -/
theorem pass_both {c m : DY} {Z : Nat → Int} {sz f : Nat} (N : Nat) (hN : 900 ≤ N) (hT : TKS c m Z sz f) (h6 : gi c 94 6 ≠ 1) : (∃ c' m' : DY, F_X6_needSign Z0.1 N 94 59 c = some c' ∧ F_X10_passes Z0.1 N 510 m = some (0, m') ∧ BRK c' m' f ∧ frP c c' ∧ frQ m m') ∨ ∃ c' m' : DY, F_X6_needSign Z0.1 N 94 59 c = some c' ∧ F_X10_passes Z0.1 N 510 m = some (1, m') ∧ TKS c' m' Z sz (nx Z sz f) ∧ f < nx Z sz f ∧ frX c c' ∧ frY m m' := by
  obtain ⟨b, b0, b1, b2, b3⟩ := sign_both N 59 (by omega) hT h6
  obtain ⟨⟨h5, hf⟩, _, _, ⟨c3, m20⟩, _⟩ := id hT
  rcases b0 with z | z
  · refine Or.inl ?_
    obtain ⟨br, p1, p2⟩ := brk_both (c := c) (m := m) (f := f) (by omega)
    rw [z] at b1 b2
    refine ⟨_, _, ?_, ?_, br, p1, p2⟩
    · rw [F_X6_needSign_s]
      exact bnd b1 ((if_pos rfl).trans (bnd (c_break N f c h6 c3) rfl))
    · rw [F_X10_passes_s]
      exact bnd b2 ((if_pos rfl).trans (bnd (m_stops N f m m20) (if_pos (show zb (0 : Int32) by decide))))
  · refine Or.inr ?_
    obtain ⟨c1, m1, s1, s2, s3, s4, s5⟩ := both_step N hN hT
    rw [z] at b1 b2
    have n1 : ¬ (1 : Int32) = 0 := by decide
    refine ⟨c1, m1, ?_, ?_, s3, (nx_b Z sz f hf).2.2 (by have := b3 z; omega), s4, s5⟩
    · rw [F_X6_needSign_s]
      exact bnd b1 ((if_neg n1).trans (bnd s1 rfl))
    · rw [F_X10_passes_s]
      exact bnd b2 ((if_neg n1).trans (bnd s2 rfl))
/-- a word is taken, or it is not that word -/
theorem take_both {c m : DY} {Z : Nat → Int} {sz f : Nat} (N w : Nat) (W : Int64) (hN : 900 ≤ N) (hT : TKS c m Z sz f) (h6 : gi c 94 6 ≠ 1) (hw : WOK w W) : (F_X6_takesWord Z0.1 N 94 w c = some (0, c) ∧ F_X10_isWord Z0.1 N 510 W m = some (0, m) ∧ ¬ lg_cmp (if gi m 510 21 = 2 then gl m 510 23 else 0) W = 0) ∨ ∃ c' m' : DY, F_X6_takesWord Z0.1 N 94 w c = some (1, c') ∧ F_X10_isWord Z0.1 N 510 W m = some (1, m) ∧ F_X10_token Z0.1 N 510 m = some m' ∧ lg_cmp (if gi m 510 21 = 2 then gl m 510 23 else 0) W = 0 ∧ TKS c' m' Z sz (nx Z sz f) ∧ f < nx Z sz f ∧ frX c c' ∧ frY m m' := by
  obtain ⟨b, b0, b1, b2, b3, b4⟩ := word_both N w W hN hT h6 hw
  rcases b0 with z | z
  · rw [z] at b1 b2 b4
    refine Or.inl ⟨?_, b2, fun q => absurd (b4.mp q) (by decide)⟩
    rw [F_X6_takesWord_s]
    exact bnd b1 ((if_pos rfl).trans (if_pos (show zb (0 : Int32) by decide)))
  · obtain ⟨c1, m1, s1, s2, s3, s4, s5⟩ := both_step N hN hT
    have kd := b3 z
    rw [z] at b1 b2 b4
    refine Or.inr ⟨c1, m1, ?_, b2, s2, b4.mpr rfl, s3, (nx_b Z sz f hT.1.2).2.2 (by omega), s4, s5⟩
    rw [F_X6_takesWord_s]
    exact bnd b1 ((if_neg (show ¬ (1 : Int32) = 0 by decide)).trans (bnd s1 (if_pos (show zb (1 : Int32) by decide))))
