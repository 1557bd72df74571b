/-! slack: one's late is another -/
theorem RRx_upd {d e : DY} {ι : Nat → Nat} {L W n M : Nat} (h : RRx d 95 105 112 4 ι L W n M) (h1 : ∀ x k : Nat, x < 510 → x ≠ 96 → x ≠ 101 → ¬ (x = 95 ∧ k = 2) → gi e x k = gi d x k) (h2 : ∀ y : Nat, y < 720 → (y < 256 ∨ 352 ≤ y) → ¬ (16 ≤ y ∧ y < 256 ∧ (y - 16) % 20 = 10) → gi e 531 (720 * 4 + y) = gi d 531 (720 * 4 + y)) (hw : ∀ i : Nat, i < 96 → gi e 96 i = gi e 531 (720 * 4 + 256 + i) ∧ (gi e 96 i = 0 ∨ gi e 96 i = 1)) (ht : ∀ i : Nat, i < n → ∃ p : Nat, p ≤ 3 ∧ gi e 101 i = iz p ∧ gi e 531 (720 * 4 + 16 + 20 * ι i + 10) = iz p) : RRx e 95 105 112 4 ι L W n M := by
  obtain ⟨k1, k2, k3, k4, k5, k6, k7, k8, k9, k10, k11, od, o1, o2, o3⟩ := h
  have o0 := h2 0 (by omega) (by omega) (by omega)
  rw [Nat.add_zero] at o0
  have hh : ∀ i : Nat, hsI e 95 i = hsI d 95 i := fun i => by
    unfold hsI
    rw [h1 _ _ (by omega) (by omega) (by omega) (by omega)]
  refine ⟨k1, ?_, ?_, ?_, hw, ?_, ?_, k8, ?_, ?_, ?_, od, ?_, ?_, o3⟩
  · rw [h1 95 0 (by omega) (by omega) (by omega) (by omega), o0]; exact k2
  · rw [h1 95 1 (by omega) (by omega) (by omega) (by omega), h2 1 (by omega) (by omega) (by omega)]; exact k3
  · rw [h1 95 3 (by omega) (by omega) (by omega) (by omega), h2 2 (by omega) (by omega) (by omega)]; exact k4
  · refine LR_of k6 ⟨fun f hf => h1 _ _ (by omega) (by omega) (by omega) (by omega), fun p hp i _ => h1 _ _ (by have := lC_le p hp; omega) (by omega) (by omega) (by omega)⟩ (h2 9 (by omega) (by omega) (by omega)) (fun i hi => ?_)
    have := h2 (352 + i) (by omega) (by omega) (by omega)
    rw [← Nat.add_assoc] at this
    exact this
  · rw [h1 112 2 (by omega) (by omega) (by omega) (by omega), h1 112 3 (by omega) (by omega) (by omega) (by omega), h1 112 4 (by omega) (by omega) (by omega) (by omega), h1 112 5 (by omega) (by omega) (by omega) (by omega), h1 112 6 (by omega) (by omega) (by omega) (by omega), h1 112 7 (by omega) (by omega) (by omega) (by omega), h2 3 (by omega) (by omega) (by omega), h2 4 (by omega) (by omega) (by omega), h2 5 (by omega) (by omega) (by omega), h2 6 (by omega) (by omega) (by omega), h2 7 (by omega) (by omega) (by omega), h2 8 (by omega) (by omega) (by omega)]
    exact k7
  · intro m hm ha t ht'
    have := k9 m hm ha t ht'
    have e1 := h2 (16 + 20 * m + t) (by omega) (by omega) (by omega)
    have e2 := h2 (16 + 20 * m + 4 + t) (by omega) (by omega) (by omega)
    rw [← Nat.add_assoc, ← Nat.add_assoc] at e1
    rw [← Nat.add_assoc, ← Nat.add_assoc, ← Nat.add_assoc] at e2
    rw [e1, e2]
    exact this
  · intro i hi
    obtain ⟨m1, ⟨t1, t2, _, t4, t5⟩, m3, m4, m5⟩ := k10 i hi
    have hι := k8.1 i hi
    have q : ∀ x : Nat, x < 20 → x ≠ 10 → gi e 531 (720 * 4 + 16 + 20 * ι i + x) = gi d 531 (720 * 4 + 16 + 20 * ι i + x) := fun x hx hx' => by
      have := h2 (16 + 20 * ι i + x) (by omega) (by omega) (by omega)
      rw [← Nat.add_assoc, ← Nat.add_assoc] at this
      exact this
    have q8 : ∀ x : Nat, x < 12 → x ≠ 2 → gi e 531 (720 * 4 + 16 + 20 * ι i + 8 + x) = gi d 531 (720 * 4 + 16 + 20 * ι i + 8 + x) := fun x hx hx' => by
      rw [Nat.add_assoc]
      exact q (8 + x) (by omega) (by omega)
    have c : ∀ x : Nat, 2 ≤ x → x ≤ 9 → x ≠ 6 → gi e (95 + x) i = gi d (95 + x) i := fun x _ _ _ => h1 _ _ (by omega) (by omega) (by omega) (by omega)
    have w : ∀ x k : Nat, 1 ≤ x → x ≤ 11 → gi e (112 + x) k = gi d (112 + x) k := fun x k _ _ => h1 _ _ (by omega) (by omega) (by omega) (by omega)
    refine ⟨fun t ht' => ?_, ⟨?_, ?_, ht i hi, ?_, ?_⟩, ?_, ?_, ?_⟩
    · have := m1 t ht'
      unfold PO at this ⊢
      have q4 := q (4 + t) (by omega) (by omega)
      rw [← Nat.add_assoc] at q4
      rw [w 1 _ (by omega) (by omega), w 2 _ (by omega) (by omega), q t (by omega) (by omega), q4]
      exact this
    · have q0 := q 8 (by omega) (by omega)
      rw [c 4 (by omega) (by omega) (by omega), q0]; exact t1
    · rw [c 5 (by omega) (by omega) (by omega), q8 1 (by omega) (by omega)]; exact t2
    · rw [c 7 (by omega) (by omega) (by omega), q8 3 (by omega) (by omega)]; exact t4
    · rw [c 8 (by omega) (by omega) (by omega), q8 4 (by omega) (by omega)]; exact t5
    · rw [c 9 (by omega) (by omega) (by omega), q 13 (by omega) (by omega)]; exact m3
    · rw [w 3 i (by omega) (by omega), w 4 i (by omega) (by omega), w 5 i (by omega) (by omega), w 6 i (by omega) (by omega), q 14 (by omega) (by omega), q 15 (by omega) (by omega), q 16 (by omega) (by omega), q 17 (by omega) (by omega)]; exact m4
    · rw [w 7 i (by omega) (by omega), q 18 (by omega) (by omega)]; exact m5
  · intro x hx
    have e : ∀ y : Nat, y < 5 → gi e 531 (720 * 4 + 640 + 5 * x + y) = gi d 531 (720 * 4 + 640 + 5 * x + y) := fun y hy => by
      have := h2 (640 + 5 * x + y) (by omega) (by omega) (by omega)
      rw [← Nat.add_assoc, ← Nat.add_assoc] at this
      exact this
    have e0 := e 0 (by omega)
    rw [Nat.add_zero] at e0
    have cd : ∀ k : Nat, gi _ (112 + 11) k = gi d (112 + 11) k := fun k => h1 _ _ (by omega) (by omega) (by omega) (by omega)
    rw [cd, cd, cd, cd, cd, e0, e 1 (by omega), e 2 (by omega), e 3 (by omega), e 4 (by omega)]
    exact k11 x hx
  · intro p hp
    rw [h1 _ _ (by omega) (by omega) (by omega) (by omega)]
    exact o1 p hp
  · intro p q h3 h4
    unfold bef
    rw [hh, hh]
    exact o2 p q h3 h4
def gfr (c c' : DY) : Prop := ∀ x i : Nat, ¬ (94 ≤ x ∧ x ≤ 239) → gi c' x i = gi c x i
def rfr (m m' : DY) : Prop := ∀ x i : Nat, x ≠ 510 → (x < 532 ∨ 545 < x) → ¬ (x = 531 ∧ 2880 ≤ i) → gi m' x i = gi m x i
theorem gfr_tr {a b c : DY} (h : gfr a b) (k : gfr b c) : gfr a c := fun x i q => (k x i q).trans (h x i q)
theorem rfr_tr {a b c : DY} (h : rfr a b) (k : rfr b c) : rfr a c := fun x i q1 q2 q3 => (k x i q1 q2 q3).trans (h x i q1 q2 q3)
theorem gfr_re (a : DY) : gfr a a := fun _ _ _ => rfl
theorem rfr_re (a : DY) : rfr a a := fun _ _ _ _ _ => rfl
theorem gfr_of {a b : DY} (h : frT1 a b) : gfr a b := fun x i q => h.1 x i (by omega)
theorem rfr_of {a b : DY} (h : frT2 a b) : rfr a b := fun x i q1 q2 q3 => h.1 x i q1 (by omega) (by omega)
theorem sameM_rfr {a b c : DY} (h : sameM a b) (k : rfr b c) : sameM a c := fun x i q1 q2 => (k x i (by omega) (by omega) (by omega)).trans (h x i q1 q2)
theorem rfr_531 (m : DY) (y : Nat) (v : Int32) (h : 2880 ≤ y) : rfr m (si m 531 y v) := fun x i q1 q2 q3 => by rw [gi_si_if, if_neg (by omega)]
theorem frT2_531 (m : DY) (y : Nat) (v : Int32) (h : 2880 ≤ y ∧ y < 3600) : frT2 m (si m 531 y v) := ⟨fun x i q1 q2 q3 => by rw [gi_si_if, if_neg (by omega)], fun _ _ => rfl⟩
theorem ex_fun {P : Nat → Nat → Prop} (Q : Nat → Prop) (h : ∀ v : Nat, Q v → ∃ A : Nat, P v A) : ∃ A : Nat → Nat, ∀ v : Nat, Q v → P v (A v) := by
  have h' : ∀ v : Nat, ∃ A : Nat, Q v → P v A := fun v => by
    by_cases q : Q v
    · obtain ⟨A, hA⟩ := h v q
      exact ⟨A, fun _ => hA⟩
    · exact ⟨0, fun z => absurd z q⟩
  obtain ⟨A, hA⟩ := Classical.axiomOfChoice h'
  exact ⟨A, hA⟩
/-- c with the walls and the lates of c0 -/
def rst (c0 c : DY) : DY := (fun x i => if x = 96 ∨ x = 101 ∨ (x = 95 ∧ i = 2) then gi c0 x i else gi c x i, c.2)
theorem rst_1 (c0 c : DY) (x i : Nat) (h : x = 96 ∨ x = 101 ∨ (x = 95 ∧ i = 2)) : gi (rst c0 c) x i = gi c0 x i := if_pos h
theorem rst_2 (c0 c : DY) (x i : Nat) (h : ¬ (x = 96 ∨ x = 101 ∨ (x = 95 ∧ i = 2))) : gi (rst c0 c) x i = gi c x i := if_neg h
/-- all but walls and lates, which are wl, lt -/
def sameU (n : Nat) (wl lt : Nat → Int32) (c0 c : DY) : Prop := (∀ x i : Nat, 95 ≤ x → x ≤ 111 → ¬ (x = 96 ∨ x = 101 ∨ (x = 95 ∧ i = 2)) → gi c x i = gi c0 x i) ∧ (∀ i : Nat, i < 96 → gi c 96 i = wl i) ∧ ∀ i : Nat, i < n → gi c 101 i = lt i
def upU (wl lt : Nat → Int32) (c0 : DY) : DY := (fun x i => if x = 96 then wl i else if x = 101 then lt i else gi c0 x i, c0.2)
theorem upU_1 (wl lt : Nat → Int32) (c0 : DY) (i : Nat) : gi (upU wl lt c0) 96 i = wl i := by
  show (if 96 = 96 then wl i else if 96 = 101 then lt i else gi c0 96 i) = _
  rw [if_pos rfl]
theorem upU_2 (wl lt : Nat → Int32) (c0 : DY) (i : Nat) : gi (upU wl lt c0) 101 i = lt i := by
  show (if 101 = 96 then wl i else if 101 = 101 then lt i else gi c0 101 i) = _
  rw [if_neg (by omega), if_pos rfl]
theorem upU_3 (wl lt : Nat → Int32) (c0 : DY) (x i : Nat) (h : x ≠ 96) (h2 : x ≠ 101) : gi (upU wl lt c0) x i = gi c0 x i := by
  show (if x = 96 then wl i else if x = 101 then lt i else gi c0 x i) = _
  rw [if_neg h, if_neg h2]
theorem sameU_tr {n : Nat} {wl lt : Nat → Int32} {a b c : DY} (h : sameU n wl lt a b) (k : frT1 b c) : sameU n wl lt a c := ⟨fun x i q1 q2 q3 => (k.1 x i (by omega)).trans (h.1 x i q1 q2 q3), fun i hi => (k.1 _ _ (by omega)).trans (h.2.1 i hi), fun i hi => (k.1 _ _ (by omega)).trans (h.2.2 i hi)⟩
theorem spec_upd {k j L W n : Nat} (N n0 : Nat) (seed : Int32) (c0 m0 : DY) (hN : 900 ≤ N) (h2 : n0 ≤ 200) (k3 : k < 3) (j3 : j < 3) (hP : PREP (mixD c0 m0) k j id L W n n) (wl lt : Nat → Int32) (hwl : ∀ i : Nat, i < 96 → wl i = 0 ∨ wl i = 1) (hlt : ∀ i : Nat, i < n → ∃ p : Nat, p ≤ 3 ∧ lt i = iz p) (up : DY → DY) (hu0 : ∀ (m : DY) (x i : Nat), ¬ (x = 531 ∧ (720 * 4 + 256 ≤ i ∧ i < 720 * 4 + 352 ∨ 720 * 4 + 16 ≤ i ∧ i < 720 * 4 + 256 ∧ (i - (720 * 4 + 16)) % 20 = 10)) → gi (up m) x i = gi m x i) (hu1 : ∀ (m : DY) (x i : Nat), gl (up m) x i = gl m x i) (hu2 : ∀ m : DY, (∀ i : Nat, i < 96 → gi m 531 (720 * 4 + 256 + i) = gi c0 96 i) → (∀ i : Nat, i < n → gi m 531 (720 * 4 + 16 + 20 * i + 10) = gi c0 101 i) → (∀ i : Nat, i < 96 → gi (up m) 531 (720 * 4 + 256 + i) = wl i) ∧ ∀ i : Nat, i < n → gi (up m) 531 (720 * 4 + 16 + 20 * i + 10) = lt i) : ∃ A : Nat, A ≤ n ∧ (∀ c : DY, sameU n wl lt c0 c → ∃ c' : DY, F_X9_arrivals Z0.1 N 1 seed (iz n0) c = some (iz A, c') ∧ frT1 c c') ∧ ∀ m : DY, sameM m0 m → ∃ m1 m' : DY, F_X10_lay Z0.1 N 510 4 (iz k) (iz j) seed 12 (-1) m = some m1 ∧ F_X10_tryOn Z0.1 N 510 (iz n0) (up m1) = some m' ∧ gi m' 531 2886 = iz A ∧ frT2 m m' := by
  have n12 : n ≤ 12 := hP.1.1.2.2.1
  obtain ⟨A, T, a1, a2, a3, a4⟩ := spec_gen N n0 L W n id n seed hN h2 (sameU n wl lt c0) (sameM m0) (fun m => (F_X10_lay Z0.1 N 510 4 (iz k) (iz j) seed 12 (-1) m).bind fun m1 => some (up m1)) (fun c m hc hm => by
    obtain ⟨hc, hcw, hcl⟩ := hc
    have hP' : PREP (mixD (rst c0 c) m) k j id L W n n := PREP_mix hP (fun x i q1 q2 => by
      by_cases z : x = 96 ∨ x = 101 ∨ (x = 95 ∧ i = 2)
      · rw [rst_1 _ _ _ _ z]
      · rw [rst_2 _ _ _ _ z]
        exact hc x i q1 q2 z) hm
    obtain ⟨⟨_, _, _, ⟨g3, m518⟩, _, _, kw⟩, _⟩ := id hP'
    rw [mix_c _ _ _ _ (by omega), rst_2 _ _ _ _ (by omega)] at g3
    rw [mix_m _ _ _ _ (by omega)] at m518
    obtain ⟨c', E3, B3, O3⟩ := c_begin (g := 95) (l := 105) (w := 112) N c n seed (by omega) cvg_try n12 g3 (fun o ho => by
      obtain ⟨_, _, ⟨_, _, _, ⟨u, u9, u2, _⟩, _⟩, _⟩ := kw o ho
      rw [mix_c _ _ _ _ (by omega), rst_2 _ _ _ _ (by omega)] at u2
      exact ⟨u, u9, u2⟩)
    obtain ⟨m1, E4, A4⟩ := m_lay N 4 k j n seed 12 (-1) m hN (by omega) (by omega) (by omega) n12 m518
    have B3' : BEG (rst c0 c) (rst c0 c') 95 112 seed := by
      obtain ⟨b1, b2, b3, b4, b5, b6⟩ := id B3
      refine ⟨?_, fun t i ht hi => ?_, fun i hi => ?_, fun i hi => ?_, fun x i hx => ?_, b6⟩
      · rw [rst_2 c0 c' 112 3 (by omega), rst_2 c0 c' 112 2 (by omega), rst_2 c0 c' 112 4 (by omega), rst_2 c0 c' 112 5 (by omega), rst_2 c0 c' 112 6 (by omega), rst_2 c0 c' 112 7 (by omega)]
        exact b1
      · rw [rst_2 c0 c' (112 + 1) _ (by omega), rst_2 c0 c' (112 + 2) _ (by omega), rst_2 c0 c (95 + 2) i (by omega), rst_2 c0 c (95 + 3) i (by omega)]
        exact b2 t i ht hi
      · rw [rst_2 c0 c' (112 + 3) _ (by omega), rst_2 c0 c' (112 + 4) _ (by omega), rst_2 c0 c' (112 + 5) _ (by omega), rst_2 c0 c' (112 + 6) _ (by omega), rst_2 c0 c' (112 + 7) _ (by omega)]
        exact b3 i hi
      · rw [rst_2 c0 c' (112 + 11) _ (by omega)]
        exact b4 i hi
      · by_cases z : x = 96 ∨ x = 101 ∨ (x = 95 ∧ i = 2)
        · rw [rst_1 _ _ _ _ z, rst_1 _ _ _ _ z]
        · rw [rst_2 _ _ _ _ z, rst_2 _ _ _ _ z]
          exact b5 x i hx
    have O3' : ORD (rst c0 c') 95 112 n := by
      have hh : ∀ i : Nat, hsI (rst c0 c') 95 i = hsI c' 95 i := fun i => by
        unfold hsI
        rw [rst_2 _ _ _ _ (by omega)]
      obtain ⟨od, o1, o2, o3⟩ := O3
      refine ⟨od, fun p hp => ?_, fun p q hpq hq => ?_, o3⟩
      · rw [rst_2 _ _ _ _ (by omega)]
        exact o1 p hp
      · unfold bef
        rw [hh, hh]
        exact o2 p q hpq hq
    have hR := layB cvg_try hP'.1 hP'.2 (awy_none n12) B3' O3' A4
    obtain ⟨_, _, _, _, kwall, _, _, _, _, k10, _⟩ := id hR
    obtain ⟨v1, v2⟩ := hu2 m1 (fun i hi => by
      have q := (kwall i hi).1
      rw [mix_c _ _ _ _ (by omega), mix_m _ _ _ _ (by omega), rst_1 _ _ _ _ (by omega)] at q
      exact q.symm) (fun i hi => by
      obtain ⟨_, ⟨_, _, ⟨p, _, p1, p2⟩, _⟩, _⟩ := k10 i hi
      rw [mix_c _ _ _ _ (by omega), rst_1 _ _ _ _ (by omega)] at p1
      rw [mix_m _ _ _ _ (by omega)] at p2
      exact p2.trans p1.symm)
    have c96 : ∀ i : Nat, i < 96 → gi c' 96 i = wl i := fun i hi => (B3.2.2.2.2.1 96 i (by omega)).trans (hcw i hi)
    have c101 : ∀ i : Nat, i < n → gi c' 101 i = lt i := fun i hi => (B3.2.2.2.2.1 101 i (by omega)).trans (hcl i hi)
    refine ⟨c', up m1, E3, bnd E4 rfl, RRx_upd hR (fun x i h1 h2 h3 h4 => ?_) (fun y h1 h2 h3 => ?_) (fun i hi => ?_) (fun i hi => ?_), BG0_of B3 hP'.1 (fun i => by rw [mix_c _ _ _ _ (by omega), rst_2 _ _ _ _ (by omega)]), frT1_beg B3, frT2_tr (frT2_laid A4) ⟨fun x i h1 h2 h3 => hu0 m1 x i (by omega), hu1 m1⟩⟩
    · rw [mix_c _ _ _ _ h1, mix_c _ _ _ _ h1, rst_2 _ _ _ _ (by omega)]
    · rw [mix_m _ _ _ _ (by omega), mix_m _ _ _ _ (by omega)]
      exact hu0 m1 _ _ (by omega)
    · rw [mix_c _ _ _ _ (by omega), mix_m _ _ _ _ (by omega), c96 i hi, v1 i hi]
      exact ⟨rfl, hwl i hi⟩
    · obtain ⟨p, p3, p4⟩ := hlt i hi
      exact ⟨p, p3, (mix_c _ _ _ _ (by omega)).trans ((c101 i hi).trans p4), (mix_m _ _ _ _ (by omega)).trans ((v2 i hi).trans p4)⟩) (upU wl lt c0) m0 ⟨fun x i q1 q2 q3 => upU_3 wl lt c0 x i (by omega) (by omega), fun i hi => upU_1 wl lt c0 i, fun i hi => upU_2 wl lt c0 i⟩ (fun _ _ _ _ => rfl)
  refine ⟨A, a1, fun c hc => ?_, fun m hm => ?_⟩
  · obtain ⟨c', q1, _, q3⟩ := a3 c hc
    exact ⟨c', q1, q3⟩
  · obtain ⟨m1, m', q1, q2, q3, _, q5⟩ := a4 m hm
    obtain ⟨u, u1, u2⟩ := Option.bind_eq_some_iff.mp q1
    refine ⟨u, m', u1, ?_, q3, q5⟩
    rw [Option.some.inj u2]
    exact q2
/-- all but the late of w -/
def sameL (w : Nat) (c0 c : DY) : Prop := ∀ x i : Nat, 95 ≤ x → x ≤ 111 → ¬ (x = 101 ∧ i = w) → gi c x i = gi c0 x i
theorem spec_slack {k j L W n : Nat} (N n0 : Nat) (seed : Int32) (c0 m0 : DY) (hN : 900 ≤ N) (h2 : n0 ≤ 200) (k3 : k < 3) (j3 : j < 3) (hP : PREP (mixD c0 m0) k j id L W n n) (w v : Nat) (hw : w < n) (hv : v ≤ 3) : ∃ A : Nat, A ≤ n ∧ (∀ c : DY, sameL w c0 c → gi c 101 w = iz v → ∃ c' : DY, F_X9_arrivals Z0.1 N 1 seed (iz n0) c = some (iz A, c') ∧ frT1 c c') ∧ ∀ m : DY, sameM m0 m → ∃ m1 m' : DY, F_X10_lay Z0.1 N 510 4 (iz k) (iz j) seed 12 (-1) m = some m1 ∧ F_X10_tryOn Z0.1 N 510 (iz n0) (si m1 531 (720 * 4 + 16 + 20 * w + 10) (iz v)) = some m' ∧ gi m' 531 2886 = iz A ∧ frT2 m m' := by
  have n12 : n ≤ 12 := hP.1.1.2.2.1
  obtain ⟨A, a1, a2, a3⟩ := spec_upd N n0 seed c0 m0 hN h2 k3 j3 hP (gi c0 96) (fun i => if i = w then iz v else gi c0 101 i) (fun i hi => by
    have := (hP.1.2.2.2.2.1 i hi).2
    rw [mix_c _ _ _ _ (by omega)] at this
    exact this) (fun i hi => by
    by_cases z : i = w
    · exact ⟨v, hv, if_pos z⟩
    · obtain ⟨_, _, ⟨_, _, ⟨p, p1, p2, _⟩, _⟩, _⟩ := hP.1.2.2.2.2.2.2 i hi
      rw [mix_c _ _ _ _ (by omega)] at p2
      exact ⟨p, p1, (if_neg z).trans p2⟩) (fun m => si m 531 (720 * 4 + 16 + 20 * w + 10) (iz v)) (fun m x i q => by rw [gi_si_if, if_neg (by omega)]) (fun _ _ _ => rfl) (fun m q1 q2 => ⟨fun i hi => by rw [gi_si_if, if_neg (by omega)]; exact q1 i hi, fun i hi => by
    rw [gi_si_if]
    by_cases z : i = w
    · rw [if_pos (by omega), if_pos z]
    · rw [if_neg (by omega), if_neg z]
      exact q2 i hi⟩)
  refine ⟨A, a1, fun c hc hcv => a2 c ⟨fun x i q1 q2 q3 => hc x i q1 q2 (by omega), fun i hi => hc 96 i (by omega) (by omega) (by omega), fun i hi => ?_⟩, a3⟩
  show gi c 101 i = if i = w then iz v else gi c0 101 i
  by_cases z : i = w
  · rw [if_pos z, z]; exact hcv
  · rw [if_neg z]; exact hc 101 i (by omega) (by omega) (by omega)
def slR (A : Nat → Nat) (n : Nat) : Nat → Int32
  | 0 => -1
  | v + 1 => if A v = n then iz v else slR A n v
theorem eq_slack (N : Nat) (pa la s na wa : Int32) (dy : DY) (hN : 900 ≤ N) (h : Inv dy) : ∃ r dy1 dy2, F_X9_slack Z0.1 N 1 pa la s na wa dy = some (r, dy1) ∧ F_X10_slack Z0.1 N 510 pa la s na wa dy1 = some (r, dy2) ∧ Inv dy2 := by
  obtain ⟨u, rfl, u1, u2⟩ := iz_ex wa
  have n1 : ¬ (1 : Int32) = 0 := by decide
  refine wrap_trial N 200 pa la na (-1) dy (by omega) h (fun d => (F_X4_has Z0.1 N (gr Z0.1 1 4) (iz u) d).bind fun u6 => (if u6.1 = 0 then some ((-1 : Int32), u6.2) else (F_X9_slack_37 Z0.1 N N) 1 s na (iz u) (3 : Int32) u6.2)) (fun d => if ib pa 12 then (F_X10_in Z0.1 N (iz u) (0 : Int32) ((gi d (gr Z0.1 510 8) pa.toNatClampNeg) - (1 : Int32)) d).bind fun u5 => (if u5.1 = 0 then some ((-1 : Int32), u5.2) else (F_X10_slack_41 Z0.1 N N) 510 pa la s na (iz u) (3 : Int32) u5.2) else none) (fun k j n0 L W n c hpa hla hna k3 j3 n01 n02 hC m518 hP => ?_)
  subst hpa hla hna
  have n12 : n ≤ 12 := hP.1.1.2.2.1
  have g3 : gi c 95 3 = iz n := by
    have := hP.1.2.2.2.1.1
    rw [mix_c _ _ _ _ (by omega)] at this
    exact this
  have cd : ∀ x i : Nat, 511 ≤ x → gi c x i = gi dy x i := fun x i hx => hC.2.2.1 x i (by omega)
  have i12 : ib (iz (k : Int)) 12 := iz_ib (by omega)
  have hasM : ∀ d : DY, gi d 518 k = iz n → (if ib (iz (k : Int)) 12 then (F_X10_in Z0.1 N (iz u) (0 : Int32) ((gi d (gr Z0.1 510 8) (iz (k : Int)).toNatClampNeg) - (1 : Int32)) d).bind fun u5 => (if u5.1 = 0 then some ((-1 : Int32), u5.2) else (F_X10_slack_41 Z0.1 N N) 510 (iz (k : Int)) (iz (j : Int)) s (iz (n0 : Int)) (iz u) (3 : Int32) u5.2) else none) = if (if 0 ≤ u ∧ u < n then (1 : Int32) else 0) = 0 then some ((-1 : Int32), d) else (F_X10_slack_41 Z0.1 N N) 510 (iz (k : Int)) (iz (j : Int)) s (iz (n0 : Int)) (iz u) (3 : Int32) d := fun d hd => by
    rw [if_pos i12, r_510_8, tnn _ k rfl (by omega), hd, has_two _ _ n u _ n12 u1 u2, sb_eq]
  by_cases hu : 0 ≤ u ∧ u < n
  · obtain ⟨w, rfl⟩ : ∃ w : Nat, u = w := ⟨u.toNat, by omega⟩
    have w12 : w < n := by omega
    obtain ⟨A, hA⟩ := ex_fun (P := fun v A => A ≤ n ∧ (∀ c1 : DY, sameL w c c1 → gi c1 101 w = iz v → ∃ c' : DY, F_X9_arrivals Z0.1 N 1 s (iz n0) c1 = some (iz A, c') ∧ frT1 c1 c') ∧ ∀ m : DY, sameM dy m → ∃ m1 m' : DY, F_X10_lay Z0.1 N 510 4 (iz k) (iz j) s 12 (-1) m = some m1 ∧ F_X10_tryOn Z0.1 N 510 (iz n0) (si m1 531 (720 * 4 + 16 + 20 * w + 10) (iz v)) = some m' ∧ gi m' 531 2886 = iz A ∧ frT2 m m') (fun v => v ≤ 3) (fun v hv => spec_slack N n0 s c dy hN (by omega) k3 j3 hP w v w12 hv)
    have LC : ∀ (q k' : Nat) (c1 : DY), q ≤ 4 → q < k' → sameL w c c1 → ∃ c' : DY, F_X9_slack_37 Z0.1 N k' 1 s (iz n0) (iz (w : Int)) (iz ((q : Int) - 1)) c1 = some (slR A n q, c') ∧ gfr c1 c' := by
      intro q
      induction q with
      | zero =>
        intro k' c1 _ hk _
        obtain ⟨k', rfl⟩ : ∃ j, k' = j + 1 := ⟨k' - 1, by omega⟩
        refine ⟨c1, ?_, gfr_re _⟩
        rw [F_X9_slack_37_s, if_pos (show iz (((0 : Nat) : Int) - 1) < 0 by decide)]
        rfl
      | succ q ih =>
        intro k' c1 hq hk hs
        obtain ⟨k', rfl⟩ : ∃ j, k' = j + 1 := ⟨k' - 1, by omega⟩
        obtain ⟨a1, a2, _⟩ := hA q (by omega)
        have e1 : (((q + 1 : Nat) : Int) - 1) = (q : Int) := by omega
        have iw : ib (iz (w : Int)) 12 := iz_ib (by omega)
        obtain ⟨c2, b1, b2⟩ := a2 (si c1 101 w (iz q)) (fun x i q1 q2 q3 => by rw [gi_si_if, if_neg q3]; exact hs x i q1 q2 q3) (by rw [gi_si_if, if_pos ⟨rfl, rfl⟩])
        have s2 : gfr c1 c2 := fun x i hx => by rw [b2.1 x i (by omega), gi_si_if, if_neg (by omega)]
        have g3' : gi c2 95 3 = iz n := by rw [b2.1 95 3 (by omega), gi_si_if, if_neg (by omega), hs 95 3 (by omega) (by omega) (by omega), g3]
        rw [e1, F_X9_slack_37_s, if_neg (show ¬ iz (q : Int) < 0 from iz_nlt0 ⟨by omega, by omega⟩), if_pos iw, bd_eq, r_1_4, tnn _ w rfl (by omega), show gr Z0.1 95 9 = 101 from cv_g6 cvg_try]
        unfold slR
        by_cases z : A q = n
        · refine ⟨c2, bnd b1 ?_, s2⟩
          show (if iz (A q : Int) = gi c2 95 3 then _ else _) = _
          rw [g3', z, if_pos rfl, if_pos rfl]
        · obtain ⟨c', y1, y2⟩ := ih k' c2 (by omega) (by omega) (fun x i q1 q2 q3 => by rw [b2.1 x i (by omega), gi_si_if, if_neg q3]; exact hs x i q1 q2 q3)
          refine ⟨c', bnd b1 ?_, gfr_tr s2 y2⟩
          show (if iz (A q : Int) = gi c2 95 3 then _ else _) = _
          rw [g3', if_neg (show ¬ iz (A q : Int) = iz (n : Int) from iz_nei (by omega)), if_neg z, show iz (q : Int) + (-1 : Int32) = iz ((q : Int) - 1) from by rw [l_m1, iz_add]; exact congrArg iz (by omega)]
          exact y1
    have LM : ∀ (q k' : Nat) (m : DY), q ≤ 4 → q < k' → sameM dy m → ∃ m' : DY, F_X10_slack_41 Z0.1 N k' 510 (iz k) (iz j) s (iz n0) (iz (w : Int)) (iz ((q : Int) - 1)) m = some (slR A n q, m') ∧ rfr m m' := by
      intro q
      induction q with
      | zero =>
        intro k' c1 _ hk _
        obtain ⟨k', rfl⟩ : ∃ j, k' = j + 1 := ⟨k' - 1, by omega⟩
        refine ⟨c1, ?_, rfr_re _⟩
        rw [F_X10_slack_41_s, if_pos (show iz (((0 : Nat) : Int) - 1) < 0 by decide)]
        rfl
      | succ q ih =>
        intro k' m hq hk hs
        obtain ⟨k', rfl⟩ : ∃ j, k' = j + 1 := ⟨k' - 1, by omega⟩
        obtain ⟨a1, _, a2⟩ := hA q (by omega)
        have e1 : (((q + 1 : Nat) : Int) - 1) = (q : Int) := by omega
        obtain ⟨m1, m2, b1, b2, b3, b4⟩ := a2 m hs
        have g18 : gi m2 518 k = iz n := by rw [b4.1 518 k (by omega) (by omega) (by omega), hs 518 k (by omega) (by omega), m518]
        have tail : ∀ R, (if iz (A q : Int) = iz (n : Int) then some (iz (q : Int), m2) else F_X10_slack_41 Z0.1 N k' 510 (iz k) (iz j) s (iz n0) (iz (w : Int)) (iz ((q : Int) - 1)) m2) = R → F_X10_slack_41 Z0.1 N (k' + 1) 510 (iz k) (iz j) s (iz n0) (iz (w : Int)) (iz (q : Int)) m = R := fun R hR => by
          rw [F_X10_slack_41_s, if_neg (show ¬ iz (q : Int) < 0 from iz_nlt0 ⟨by omega, by omega⟩)]
          refine bnd b1 (bnd (m_at _ _ 4 w m1) ?_)
          show (if ib (iz ((720 * 4 + 16 + 20 * w : Nat) : Int) + (10 : Int32)) 10080 then _ else _) = _
          rw [show iz ((720 * 4 + 16 + 20 * w : Nat) : Int) + (10 : Int32) = iz ((720 * 4 + 16 + 20 * w + 10 : Nat) : Int) from iz_add _ 10, if_pos (ibr _ (by omega)), bd_eq, r_510_39, tnn _ (720 * 4 + 16 + 20 * w + 10) rfl (by omega)]
          refine bnd b2 ?_
          rw [if_pos (by decide), if_pos i12, r_510_8, tnn _ k rfl (by omega), g18, show (2886 : Int32).toNatClampNeg = 2886 from rfl, b3, show iz (q : Int) + (-1 : Int32) = iz ((q : Int) - 1) from by rw [l_m1, iz_add]; exact congrArg iz (by omega)]
          exact hR
        rw [e1]
        unfold slR
        by_cases z : A q = n
        · exact ⟨m2, tail _ (by rw [z, if_pos rfl, if_pos rfl]), rfr_of b4⟩
        · obtain ⟨m', y1, y2⟩ := ih k' m2 (by omega) (by omega) (sameM_tr hs b4)
          exact ⟨m', tail _ (by rw [if_neg (show ¬ iz (A q : Int) = iz (n : Int) from iz_nei (by omega)), if_neg z]; exact y1), rfr_tr (rfr_of b4) y2⟩
    obtain ⟨c', x1, x2⟩ := LC 4 N c (by omega) (by omega) (fun _ _ _ _ _ => rfl)
    have sM : sameM dy (si c' 510 0 0) := fun x i q1 q2 => by rw [gi_si_if, if_neg (by omega), x2 x i (by omega), cd x i q1]
    obtain ⟨m', x3, x4⟩ := LM 4 N (si c' 510 0 0) (by omega) (by omega) sM
    refine ⟨slR A n 4, c', m', ?_, x2, ?_, fun x i q1 q2 q3 => by rw [x4 x i q1 q2 q3, gi_si_if, if_neg (by omega)]⟩
    · rw [r_1_4, c_hasG _ _ 95 _ n c u1 u2 g3 n12, sb_eq, if_pos hu, if_neg n1]
      exact x1
    · rw [hasM _ ((sM 518 k (by omega) (by omega)).trans m518), if_pos hu, if_neg n1]
      exact x3
  · refine ⟨-1, c, si c 510 0 0, ?_, gfr_re _, ?_, fun x i q1 q2 q3 => by rw [gi_si_if, if_neg (by omega)]⟩
    · rw [r_1_4, c_hasG _ _ 95 _ n c u1 u2 g3 n12, sb_eq, if_neg hu, if_pos rfl]
    · rw [hasM _ (by rw [gi_si_if, if_neg (by omega), cd _ _ (by omega), m518]), if_neg hu, if_pos rfl]
