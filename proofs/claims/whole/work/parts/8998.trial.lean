/-! trials: what passes, tenth by tenth -/
theorem seq_ex {α : Type} {P : α → Prop} {R : α → α → Prop} (h : ∀ x : α, P x → ∃ y : α, P y ∧ R x y) (x0 : α) (h0 : P x0) : ∃ f : Nat → α, f 0 = x0 ∧ (∀ t : Nat, P (f t)) ∧ ∀ t : Nat, R (f t) (f (t + 1)) := by
  have nx : ∀ x : {x : α // P x}, ∃ y : {y : α // P y}, R x.1 y.1 := fun x => by
    obtain ⟨y, h1, h2⟩ := h x.1 x.2
    exact ⟨⟨y, h1⟩, h2⟩
  obtain ⟨g, hg⟩ := Classical.axiomOfChoice nx
  exact ⟨fun t => (Nat.rec (motive := fun _ => {x : α // P x}) ⟨x0, h0⟩ (fun _ y => g y) t).1, rfl, fun t => (Nat.rec (motive := fun _ => {x : α // P x}) ⟨x0, h0⟩ (fun _ y => g y) t).2, fun t => hg _⟩
/-- a tenth of a trial, from C and D at t to those at t + 1 -/
def TEN (N n : Nat) (C D C' D' : DY) : Prop := ∃ s : Int32, F_X8_pass Z0.1 N 112 C = some (s, C') ∧ F_X10_step Z0.1 N 510 4 D = some (s, D') ∧ frT1 C C' ∧ frT2 D D' ∧ ATT C C' 112 n
theorem frT1_tr {a b c : DY} (h : frT1 a b) (k : frT1 b c) : frT1 a c := ⟨fun x y q => (k.1 x y q).trans (h.1 x y q), fun x y => (k.2 x y).trans (h.2 x y)⟩
theorem frT2_tr {a b c : DY} (h : frT2 a b) (k : frT2 b c) : frT2 a c := ⟨fun x y q1 q2 q3 => (k.1 x y q1 q2 q3).trans (h.1 x y q1 q2 q3), fun x y => (k.2 x y).trans (h.2 x y)⟩
theorem frT1_re (a : DY) : frT1 a a := ⟨fun _ _ _ => rfl, fun _ _ => rfl⟩
theorem frT2_re (a : DY) : frT2 a a := ⟨fun _ _ _ _ _ => rfl, fun _ _ => rfl⟩
theorem trial_seq (N : Nat) (L W n : Nat) (ι : Nat → Nat) (M : Nat) (c m : DY) (hN : 400 ≤ N) (hR : RRx (mixD c m) 95 105 112 4 ι L W n M) (h45 : gi m 510 45 = 0) : ∃ C D : Nat → DY, C 0 = c ∧ D 0 = m ∧ ∀ t : Nat, (RRx (mixD (C t) (D t)) 95 105 112 4 ι L W n M ∧ gi (D t) 510 45 = 0) ∧ TEN N n (C t) (D t) (C (t + 1)) (D (t + 1)) := by
  obtain ⟨f, f0, f1, f2⟩ := seq_ex (α := DY × DY) (P := fun x => RRx (mixD x.1 x.2) 95 105 112 4 ι L W n M ∧ gi x.2 510 45 = 0) (R := fun x y => TEN N n x.1 x.2 y.1 y.2) (fun x hx => by
    obtain ⟨s, c', m', u1, u2, u3, u4, u5, u6⟩ := tenth_at N x.1 x.2 (by omega) cvg_try (by omega) hx.1 hx.2
    exact ⟨(c', m'), ⟨u3, (u5.1 510 45 (by omega) (by omega) (by omega)).trans hx.2⟩, iz s, u1, u2, ⟨fun y k hy => u4.1 y k (by omega) (by omega), u4.2⟩, ⟨fun y k h1 h2 h3 => u5.1 y k (by omega) h2 (by omega), u5.2⟩, u6⟩) (c, m) ⟨hR, h45⟩
  exact ⟨fun t => (f t).1, fun t => (f t).2, congrArg Prod.fst f0, congrArg Prod.snd f0, fun t => ⟨f1 t, f2 t⟩⟩
/-- nobody has arrived -/
def BG0 (c : DY) (n : Nat) : Prop := gi c 112 2 = 0 ∧ gi c 112 5 = 0 ∧ ∀ i : Nat, i < n → gi c 113 i ≠ -1 ∧ gi c 115 i = -1
theorem AWn_none {c : DY} {w : Nat} : ∀ n : Nat, (∀ i : Nat, i < n → gi c (w + 1) i ≠ -1) → AWn c w n = 0
  | 0, _ => rfl
  | n + 1, h => by
    show AWn c w n + _ = 0
    rw [AWn_none n (fun i hi => h i (by omega)), if_neg (h n (by omega))]
theorem seq_arv {N n : Nat} {C D : Nat → DY} (h : ∀ t : Nat, TEN N n (C t) (D t) (C (t + 1)) (D (t + 1))) (h0 : BG0 (C 0) n) : ∀ t : Nat, gi (C t) 112 2 = iz t ∧ gi (C t) 112 5 = iz (AWn (C t) 112 n : Nat) := by
  intro t
  induction t with
  | zero =>
    rw [AWn_none n (fun i hi => (h0.2.2 i hi).1)]
    exact ⟨h0.1, h0.2.1⟩
  | succ t ih =>
    obtain ⟨_, _, _, _, _, _, a2, k, a3, a4⟩ := h t
    refine ⟨?_, ?_⟩
    · rw [a2, ih.1]
      exact iz_add t 1
    · rw [a3, a4, ih.2, iz_add]
      rfl
theorem seq_fate {N n : Nat} {C D : Nat → DY} (h : ∀ t : Nat, TEN N n (C t) (D t) (C (t + 1)) (D (t + 1))) (h0 : BG0 (C 0) n) (i : Nat) (hi : i < n) : ∀ t : Nat, (gi (C t) 115 i = -1 ∧ ∀ s : Nat, s ≤ t → gi (C s) 113 i ≠ -1) ∨ ∃ v : Nat, v < t ∧ gi (C t) 115 i = iz v ∧ ∀ s : Nat, s ≤ t → (gi (C s) 113 i = -1 ↔ v < s) := by
  intro t
  induction t with
  | zero =>
    refine Or.inl ⟨(h0.2.2 i hi).2, fun s hs => ?_⟩
    have : s = 0 := by omega
    rw [this]
    exact (h0.2.2 i hi).1
  | succ t ih =>
    obtain ⟨_, _, _, _, _, a1, _⟩ := h t
    obtain ⟨b1, b2⟩ := a1 i hi
    have b1 : gi (C t) 113 i = -1 → gi (C (t + 1)) 113 i = -1 ∧ gi (C (t + 1)) 115 i = gi (C t) 115 i := b1
    have b2 : gi (C t) 113 i ≠ -1 → (gi (C (t + 1)) 113 i ≠ -1 ∧ gi (C (t + 1)) 115 i = gi (C t) 115 i) ∨ (gi (C (t + 1)) 113 i = -1 ∧ gi (C (t + 1)) 115 i = gi (C t) 112 2) := b2
    rcases ih with ⟨p1, p2⟩ | ⟨v, v1, v2, v3⟩
    · rcases b2 (p2 t (by omega)) with ⟨q1, q2⟩ | ⟨q1, q2⟩
      · refine Or.inl ⟨q2.trans p1, fun s hs => ?_⟩
        rcases Nat.lt_or_ge t s with z | z
        · have : s = t + 1 := by omega
          rw [this]; exact q1
        · exact p2 s z
      · refine Or.inr ⟨t, by omega, q2.trans (seq_arv h h0 t).1, fun s hs => ?_⟩
        rcases Nat.lt_or_ge t s with z | z
        · have : s = t + 1 := by omega
          rw [this]
          exact ⟨fun _ => by omega, fun _ => q1⟩
        · exact ⟨fun y => absurd y (p2 s z), fun y => absurd y (by omega)⟩
    · obtain ⟨q1, q2⟩ := b1 ((v3 t (by omega)).mpr v1)
      refine Or.inr ⟨v, by omega, q2.trans v2, fun s hs => ?_⟩
      rcases Nat.lt_or_ge t s with z | z
      · have : s = t + 1 := by omega
        rw [this]
        exact ⟨fun _ => by omega, fun _ => q1⟩
      · exact v3 s z
theorem seq_stay {N n : Nat} {C D : Nat → DY} (h : ∀ t : Nat, TEN N n (C t) (D t) (C (t + 1)) (D (t + 1))) (t : Nat) (ha : ∀ i : Nat, i < n → gi (C t) 113 i = -1) : ∀ d : Nat, (∀ i : Nat, i < n → gi (C (t + d)) 113 i = -1 ∧ gi (C (t + d)) 115 i = gi (C t) 115 i) := by
  intro d
  induction d with
  | zero => exact fun i hi => ⟨ha i hi, rfl⟩
  | succ d ih =>
    intro i hi
    obtain ⟨_, _, _, _, _, a1, _⟩ := h (t + d)
    obtain ⟨b1, b2⟩ := ih i hi
    obtain ⟨q1, q2⟩ := (a1 i hi).1 b1
    exact ⟨q1, q2.trans b2⟩
theorem AWn_full {c : DY} {w : Nat} : ∀ n : Nat, (∀ i : Nat, i < n → gi c (w + 1) i = -1) → AWn c w n = n
  | 0, _ => rfl
  | n + 1, h => by
    show AWn c w n + _ = n + 1
    rw [AWn_full n (fun i hi => h i (by omega)), if_pos (h n (by omega))]
theorem seq_fr {N n : Nat} {C D : Nat → DY} (h : ∀ t : Nat, TEN N n (C t) (D t) (C (t + 1)) (D (t + 1))) : ∀ t : Nat, frT1 (C 0) (C t) ∧ frT2 (D 0) (D t) := by
  intro t
  induction t with
  | zero => exact ⟨frT1_re _, frT2_re _⟩
  | succ t ih =>
    obtain ⟨_, _, _, a1, a2, _⟩ := h t
    exact ⟨frT1_tr ih.1 a1, frT2_tr ih.2 a2⟩
theorem seq_tryOn {N n : Nat} {C D : Nat → DY} (h : ∀ t : Nat, TEN N n (C t) (D t) (C (t + 1)) (D (t + 1))) (n0 : Nat) (hn : n0 < 1000) : ∀ q t k : Nat, t + q = n0 → q < k → F_X10_tryOn_7 Z0.1 N k 510 (iz n0) (iz t) (D t) = some (D n0) := by
  intro q
  induction q with
  | zero =>
    intro t k hq hk
    obtain ⟨k, rfl⟩ : ∃ j, k = j + 1 := ⟨k - 1, by omega⟩
    obtain rfl : t = n0 := by omega
    rw [F_X10_tryOn_7_s, if_pos (Int32.le_refl _)]
  | succ q ih =>
    intro t k hq hk
    obtain ⟨k, rfl⟩ : ∃ j, k = j + 1 := ⟨k - 1, by omega⟩
    obtain ⟨s, _, a2, _⟩ := h t
    rw [F_X10_tryOn_7_s, if_neg (show ¬ iz (n0 : Int) ≤ iz (t : Int) from iz_nle (by omega)), show iz (t : Int) + (1 : Int32) = iz ((t + 1 : Nat) : Int) from iz_add t 1]
    exact bnd a2 (ih (t + 1) k (by omega) (by omega))
theorem seq_arrivals {N n : Nat} {C D : Nat → DY} (h : ∀ t : Nat, TEN N n (C t) (D t) (C (t + 1)) (D (t + 1))) (n12 : n ≤ 12) (h3 : gi (C 0) 95 3 = iz n) (n0 : Nat) (hn : n0 < 1000) : ∀ q t k : Nat, t + q = n0 → q < k → ∃ t' : Nat, t' ≤ n0 ∧ F_X9_arrivals_10 Z0.1 N k 1 (iz n0) (iz t) (C t) = some (gi (C t') 112 5, C t') ∧ (t' = n0 ∨ iz n ≤ gi (C t') 112 5) := by
  intro q
  induction q with
  | zero =>
    intro t k hq hk
    obtain ⟨k, rfl⟩ : ∃ j, k = j + 1 := ⟨k - 1, by omega⟩
    obtain rfl : t = n0 := by omega
    refine ⟨t, by omega, ?_, Or.inl rfl⟩
    rw [F_X9_arrivals_10_s, if_pos (Int32.le_refl _), r_1_6]
  | succ q ih =>
    intro t k hq hk
    obtain ⟨k, rfl⟩ : ∃ j, k = j + 1 := ⟨k - 1, by omega⟩
    have g3 : gi (C t) 95 3 = iz n := ((seq_fr h t).1.1 95 3 (by omega)).trans h3
    by_cases z : iz (n : Int) ≤ gi (C t) 112 5
    · refine ⟨t, by omega, ?_, Or.inr z⟩
      rw [F_X9_arrivals_10_s, if_neg (show ¬ iz (n0 : Int) ≤ iz (t : Int) from iz_nle (by omega)), r_1_4, r_1_6, g3, if_pos z]
    · obtain ⟨s, a1, _⟩ := h t
      obtain ⟨t', u1, u2, u3⟩ := ih (t + 1) k (by omega) (by omega)
      refine ⟨t', u1, ?_, u3⟩
      rw [F_X9_arrivals_10_s, if_neg (show ¬ iz (n0 : Int) ≤ iz (t : Int) from iz_nle (by omega)), r_1_4, r_1_6, g3, if_neg z, show iz (t : Int) + (1 : Int32) = iz ((t + 1 : Nat) : Int) from iz_add t 1]
      exact bnd a1 u2
/-- a trial of n0 tenths on both sides: how many arrived, when each did -/
theorem trial (N : Nat) (L W n : Nat) (ι : Nat → Nat) (M : Nat) (c m : DY) (n0 : Nat) (hN : 900 ≤ N) (h2 : n0 ≤ 200) (hR : RRx (mixD c m) 95 105 112 4 ι L W n M) (hB : BG0 c n) : ∃ (A : Nat) (T : Nat → Int32) (c' m' : DY), A ≤ n ∧ F_X9_arrivals_10 Z0.1 N N 1 (iz n0) 0 c = some (iz A, c') ∧ F_X10_tryOn Z0.1 N 510 (iz n0) m = some m' ∧ gi m' 531 2886 = iz A ∧ gi c' 112 5 = iz A ∧ (∀ i : Nat, i < n → gi c' 115 i = T i ∧ gi m' 531 (720 * 4 + 16 + 20 * ι i + 14) = T i ∧ (T i = -1 ∨ ∃ v : Nat, v < n0 ∧ T i = iz v)) ∧ frT1 c c' ∧ frT2 m m' ∧ gi m' 531 2882 = iz M := by
  have n12 : n ≤ 12 := hR.1.2.2.1
  have g3 : gi c 95 3 = iz n := by
    have := hR.2.2.2.1.1
    rw [mix_c _ _ _ _ (by omega)] at this
    exact this
  obtain ⟨C, D, rfl, hD, h⟩ := trial_seq N L W n ι M c (si m 510 45 0) (by omega) (RRx_cells cvg_try hR (fun x k hx => by
    by_cases z : x < 510
    · rw [mix_c _ _ _ _ z, mix_c _ _ _ _ z]
    · rw [mix_m _ _ _ _ (by omega), mix_m _ _ _ _ (by omega), gi_si_if, if_neg (by omega)])) (by rw [gi_si_if, if_pos ⟨rfl, rfl⟩])
  have hT := fun t => (h t).2
  obtain ⟨t', u1, u2, u3⟩ := seq_arrivals hT n12 g3 n0 (by omega) n0 0 N (by omega) (by omega)
  have cnt := seq_arv hT hB
  have le := AWn_le (C t') 112 n
  have same : AWn (C t') 112 n = AWn (C n0) 112 n ∧ ∀ i : Nat, i < n → gi (C t') 115 i = gi (C n0) 115 i := by
    rcases u3 with z | z
    · rw [z]
      exact ⟨rfl, fun _ _ => rfl⟩
    · rw [(cnt t').2] at z
      have full : AWn (C t') 112 n = n := by
        rcases Nat.lt_or_ge (AWn (C t') 112 n) n with y | y
        · exact absurd z (iz_nle (by omega))
        · omega
      have st := seq_stay hT t' (AWn_all n full) (n0 - t')
      rw [show t' + (n0 - t') = n0 by omega] at st
      exact ⟨full.trans (AWn_full n (fun i hi => (st i hi).1)).symm, fun i hi => (st i hi).2.symm⟩
  have hRn := (h n0).1.1
  have f1 := (seq_fr hT t').1
  have f2 := (seq_fr hT n0).2
  rw [hD] at f2
  refine ⟨AWn (C n0) 112 n, fun i => gi (C n0) 115 i, C t', D n0, AWn_le _ _ _, ?_, ?_, ?_, ?_, fun i hi => ⟨same.2 i hi, ?_, ?_⟩, f1, ⟨fun x k q1 q2 q3 => ?_, fun x k => f2.2 x k⟩, ?_⟩
  · rw [← same.1, ← (cnt t').2]
    exact u2
  · rw [F_X10_tryOn_s, bd_eq, ← hD]
    exact seq_tryOn hT n0 (by omega) n0 0 N (by omega) (by omega)
  · have := hRn.2.2.2.2.2.2.1.2.2.2.1
    rw [mix_c _ _ _ _ (by omega), mix_m _ _ _ _ (by omega), (cnt n0).2] at this
    exact this.symm
  · rw [(cnt t').2, same.1]
  · obtain ⟨_, _, _, ⟨q, _⟩, _⟩ := hRn.2.2.2.2.2.2.2.2.2.1 i hi
    rw [mix_c _ _ _ _ (by omega), mix_m _ _ _ _ (by omega)] at q
    exact q.symm
  · rcases seq_fate hT hB i hi n0 with z | ⟨v, v1, v2, _⟩
    · exact Or.inl z.1
    · exact Or.inr ⟨v, v1, v2⟩
  · rw [f2.1 x k q1 q2 q3, gi_si_if, if_neg (by omega)]
  · have := hRn.2.2.2.1.2
    rw [mix_m _ _ _ _ (by omega)] at this
    exact this
