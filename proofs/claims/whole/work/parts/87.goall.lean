/-! all go -/
def SMn (m : DY) (ι : Nat → Nat) : Nat → Nat
  | 0 => 0
  | k + 1 => SMn m ι k + (gi m 535 (ι k)).toNatClampNeg
theorem SMn_same (m m' : DY) (ι : Nat → Nat) : ∀ n : Nat, (∀ o : Nat, o < n → gi m' 535 (ι o) = gi m 535 (ι o)) → SMn m' ι n = SMn m ι n
  | 0, _ => rfl
  | n + 1, h => by
    show SMn m' ι n + _ = SMn m ι n + _
    rw [SMn_same m m' ι n (fun o ho => h o (by omega)), h n (by omega)]
theorem SMn_upd (m m' : DY) (ι : Nat → Nat) (i mv : Nat) (hmv : mv ≤ 1) (h1 : gi m 535 (ι i) = 0) (h2 : gi m' 535 (ι i) = iz mv) : ∀ n : Nat, i < n → (∀ o : Nat, o < n → o ≠ i → gi m' 535 (ι o) = gi m 535 (ι o)) → SMn m' ι n = SMn m ι n + mv
  | 0, h, _ => absurd h (by omega)
  | n + 1, h, ho => by
    show SMn m' ι n + _ = SMn m ι n + _ + mv
    by_cases q : i = n
    · rw [← q, SMn_same m m' ι i (fun o ho' => ho o (by omega) (by omega)), h1, h2, tnn _ mv rfl (by omega)]
      show SMn m ι i + mv = SMn m ι i + 0 + mv
      omega
    · rw [SMn_upd m m' ι i mv hmv h1 h2 n (by omega) (fun o h3 h4 => ho o (by omega) h4), ho n (by omega) (fun z => q z.symm)]
      omega
/-- the class's own count of one who has gone -/
def fin1 (c : DY) (w i mv : Nat) : DY := if mv = 0 then si c (w + 7) i (wtI (gi c (w + 7) i)) else si (si c (w + 4) i (gi c (w + 4) i + 1)) (w + 7) i 0
theorem c_m36 {g l w : Nat} (N k n p i mv : Nat) (c c' : DY) (mvd : Nat) (hG : CVg g l w) (n12 : n ≤ 12) (hp : p < n) (hi : i < n) (g3 : gi c g 3 = iz n) (h9 : gi c (w + 9) p = iz i) (hmv : mv ≤ 1) (hF : F_X8_goes Z0.1 N w (iz i) c = some (iz mv, c')) : F_X8_move_36 Z0.1 N (k + 1) w (iz mvd) (iz p) c = F_X8_move_36 Z0.1 N k w (iz ((mvd + mv : Nat) : Int)) (iz ((p + 1 : Nat) : Int)) (fin1 c' w i mv) := by
  have ip : ib (iz (p : Int)) 12 := iz_ib (by omega)
  have ii : ib (iz (i : Int)) 12 := iz_ib (by omega)
  have tt : (iz (i : Int)).toNatClampNeg = i := tnn _ _ rfl (by omega)
  have a1 : iz (p : Int) + (1 : Int32) = iz ((p + 1 : Nat) : Int) := iz_add p 1
  rw [F_X8_move_36_s, cv_r0 hG, g3, if_neg (show ¬ iz (n : Int) ≤ iz (p : Int) from iz_nle (by omega)), if_pos ip, cv_w9 hG, tnn _ p rfl (by omega), h9]
  refine bnd hF ?_
  rw [if_pos ii, if_pos ii, if_pos ii, if_pos ii, cv_w7 hG, cv_w4 hG, tt, a1, bd_eq, bd_eq, if_pos ii, bd_eq]
  have B : mv = 0 ∨ mv = 1 := by omega
  unfold fin1
  rcases B with rfl | rfl
  · rw [if_pos rfl]
    rfl
  · rw [if_neg (show ¬ iz ((1 : Nat) : Int) = 0 by decide), if_neg (by decide), show iz ((mvd + 1 : Nat) : Int) = iz (mvd : Int) + 1 from (iz_add (mvd : Int) 1).symm]
theorem fin1_GW {D c c' m m' : DY} {g w r : Nat} {ι : Nat → Nat} {L W i mv : Nat} (hmv : mv ≤ 1) (h7 : gi c (w + 7) i = gi D (w + 7) i) (h : GON D c c' m m' w r ι L W i mv) (p : Prop) (hp : p) : GW D (fin1 c' w i mv) m' g w r ι L W i p ∧ chC w i c (fin1 c' w i mv) ∧ GDo (fin1 c' w i mv) m' w r := by
  obtain ⟨h1, h2, ⟨h3, h3'⟩, ⟨px, py, ⟨a1, a2, a3, a4⟩, a5, a6⟩, b, ⟨d1, d2, d3, d4⟩, e, _⟩ := h
  have B : mv = 0 ∨ mv = 1 := by omega
  have B1 : gi m' 535 (ι i) = 0 ∨ gi m' 535 (ι i) = 1 := by
    rcases B with rfl | rfl
    · exact Or.inl b
    · exact Or.inr b
  have o : ∀ x k : Nat, ¬ (x = w + 7 ∧ k = i) → ¬ (x = w + 4 ∧ k = i) → gi (fin1 c' w i mv) x k = gi c' x k := fun x k q1 q2 => by
    unfold fin1
    by_cases z : mv = 0
    · rw [if_pos z, gi_si_if, if_neg q1]
    · rw [if_neg z, gi_si_if, if_neg q1, gi_si_if, if_neg q2]
  have l : ∀ x k : Nat, gl (fin1 c' w i mv) x k = gl c' x k := fun x k => by
    unfold fin1
    by_cases z : mv = 0
    · rw [if_pos z]; rfl
    · rw [if_neg z]; rfl
  have o4 : gi (fin1 c' w i mv) (w + 4) i = gi c' (w + 4) i + iz mv := by
    unfold fin1
    rcases B with rfl | rfl
    · rw [if_pos rfl, gi_si_if, if_neg (by omega)]
      exact (Int32.add_zero _).symm
    · rw [if_neg (by decide), gi_si_if, if_neg (by omega), gi_si_if, if_pos ⟨rfl, rfl⟩]
      rfl
  have o7 : gi (fin1 c' w i mv) (w + 7) i = if gi m' 535 (ι i) = 1 then 0 else wtI (gi D (w + 7) i) := by
    unfold fin1
    rcases B with rfl | rfl
    · rw [if_pos rfl, gi_si_if, if_pos ⟨rfl, rfl⟩, e, h7, b, if_neg (by decide)]
    · rw [if_neg (by decide), gi_si_if, if_pos ⟨rfl, rfl⟩, b, if_pos (show iz ((1 : Nat) : Int) = 1 from rfl)]
  refine ⟨⟨⟨px, py, ⟨?_, ?_, a3, a4⟩, a5, fun z => absurd hp z, fun _ => a6⟩, ⟨?_, ?_, ?_, ?_⟩, B1, fun z => absurd hp z, fun _ => o7⟩, ⟨fun x k q1 q2 q3 => ?_, fun x k => (l x k).trans (h1.2 x k)⟩, ⟨?_, fun x hx => ?_⟩⟩
  · rw [o _ _ (by omega) (by omega)]; exact a1
  · rw [o _ _ (by omega) (by omega)]; exact a2
  · rw [o _ _ (by omega) (by omega)]; exact d1
  · rw [o4]; exact d2
  · rw [o _ _ (by omega) (by omega)]; exact d3
  · rw [o _ _ (by omega) (by omega)]; exact d4
  · rw [o _ _ (by omega) (by omega)]; exact h1.1 x k q1 q2 q3
  · rw [o _ _ (by omega) (by omega)]; exact h3
  · rw [o _ _ (by omega) (by omega), o _ _ (by omega) (by omega), o _ _ (by omega) (by omega), o _ _ (by omega) (by omega), o _ _ (by omega) (by omega)]; exact h3' x hx
/-- how many are away -/
def AWn (c : DY) (w : Nat) : Nat → Nat
  | 0 => 0
  | k + 1 => AWn c w k + (if gi c (w + 1) k = -1 then 1 else 0)
theorem AWn_same {c c' : DY} {w : Nat} : ∀ n : Nat, (∀ o : Nat, o < n → (gi c' (w + 1) o = -1 ↔ gi c (w + 1) o = -1)) → AWn c' w n = AWn c w n
  | 0, _ => rfl
  | n + 1, h => by
    show AWn c' w n + _ = AWn c w n + _
    rw [AWn_same n (fun o ho => h o (by omega))]
    by_cases z : gi c (w + 1) n = -1
    · rw [if_pos z, if_pos ((h n (by omega)).mpr z)]
    · rw [if_neg z, if_neg (fun y => z ((h n (by omega)).mp y))]
theorem AWn_upd {c c' : DY} {w i : Nat} (h1 : gi c (w + 1) i ≠ -1) (h2 : gi c' (w + 1) i = -1) : ∀ n : Nat, i < n → (∀ o : Nat, o < n → o ≠ i → (gi c' (w + 1) o = -1 ↔ gi c (w + 1) o = -1)) → AWn c' w n = AWn c w n + 1
  | 0, h, _ => absurd h (by omega)
  | n + 1, h, ho => by
    show AWn c' w n + _ = AWn c w n + _ + 1
    by_cases q : i = n
    · rw [← q, AWn_same i (fun o ho' => ho o (by omega) (by omega)), if_pos h2, if_neg h1]
    · rw [AWn_upd h1 h2 n (by omega) (fun o h3 h4 => ho o (by omega) h4)]
      by_cases z : gi c (w + 1) n = -1
      · rw [if_pos z, if_pos ((ho n (by omega) (fun z => q z.symm)).mpr z)]
      · rw [if_neg z, if_neg (fun y => z ((ho n (by omega) (fun z => q z.symm)).mp y))]
theorem AWn_le (c : DY) (w : Nat) : ∀ n : Nat, AWn c w n ≤ n
  | 0 => Nat.le_refl _
  | n + 1 => by
    have := AWn_le c w n
    show AWn c w n + _ ≤ n + 1
    by_cases z : gi c (w + 1) n = -1
    · rw [if_pos z]; omega
    · rw [if_neg z]; omega
theorem AWn_all {c : DY} {w : Nat} : ∀ n : Nat, AWn c w n = n → ∀ i : Nat, i < n → gi c (w + 1) i = -1
  | 0, _, _, h => absurd h (by omega)
  | n + 1, h, i, hi => by
    have := AWn_le c w n
    have e : AWn c w n + (if gi c (w + 1) n = -1 then 1 else 0) = n + 1 := h
    by_cases z : gi c (w + 1) n = -1
    · rw [if_pos z] at e
      rcases Nat.lt_or_ge i n with y | y
      · exact AWn_all n (by omega) i y
      · have : i = n := by omega
        rw [this]; exact z
    · rw [if_neg z] at e
      omega
/-- who was there and who is, when some have gone; who arrived -/
def ATn (c c' : DY) (w n : Nat) : Prop := (∀ i : Nat, i < n → (gi c (w + 1) i = -1 → gi c' (w + 1) i = -1 ∧ gi c' (w + 3) i = gi c (w + 3) i) ∧ (gi c (w + 1) i ≠ -1 → (gi c' (w + 1) i ≠ -1 ∧ gi c' (w + 3) i = gi c (w + 3) i) ∨ (gi c' (w + 1) i = -1 ∧ gi c' (w + 3) i = gi c w 2))) ∧ gi c' w 2 = gi c w 2 ∧ ∃ k : Nat, gi c' w 5 = gi c w 5 + iz k ∧ AWn c' w n = AWn c w n + k
theorem ATn_same {c c' : DY} {w n : Nat} (h1 : ∀ i : Nat, i < n → gi c' (w + 1) i = gi c (w + 1) i ∧ gi c' (w + 3) i = gi c (w + 3) i) (h2 : gi c' w 2 = gi c w 2) (h3 : gi c' w 5 = gi c w 5) : ATn c c' w n := by
  refine ⟨fun i hi => ?_, h2, 0, ?_, AWn_same n (fun o ho => by rw [(h1 o ho).1])⟩
  · obtain ⟨a, b⟩ := h1 i hi
    rw [a, b]
    exact ⟨fun z => ⟨z, rfl⟩, fun z => Or.inl ⟨z, rfl⟩⟩
  · rw [h3]
    exact (Int32.add_zero _).symm
theorem ATn_trans {a b c : DY} {w n : Nat} (h : ATn a b w n) (k : ATn b c w n) : ATn a c w n := by
  obtain ⟨h1, h2, p, h3, h4⟩ := h
  obtain ⟨k1, k2, q, k3, k4⟩ := k
  refine ⟨fun i hi => ⟨fun z => ?_, fun z => ?_⟩, k2.trans h2, p + q, ?_, by omega⟩
  · obtain ⟨x, y⟩ := (h1 i hi).1 z
    obtain ⟨x', y'⟩ := (k1 i hi).1 x
    exact ⟨x', y'.trans y⟩
  · rcases (h1 i hi).2 z with ⟨x, y⟩ | ⟨x, y⟩
    · rcases (k1 i hi).2 x with ⟨x', y'⟩ | ⟨x', y'⟩
      · exact Or.inl ⟨x', y'.trans y⟩
      · exact Or.inr ⟨x', y'.trans h2⟩
    · obtain ⟨x', y'⟩ := (k1 i hi).1 x
      exact Or.inr ⟨x', y'.trans y⟩
  · rw [k3, h3, Int32.add_assoc, iz_add]
    rfl
theorem ATn_one {c c' : DY} {w i n : Nat} (hi : i < n) (n12 : n ≤ 12) (h : AT1 c c' w i) (hc : chC w i c c') : ATn c c' w n := by
  have o1 : ∀ o : Nat, o ≠ i → gi c' (w + 1) o = gi c (w + 1) o := fun o h => hc.1 _ _ (by omega) (by omega) (by omega)
  have o3 : ∀ o : Nat, o ≠ i → gi c' (w + 3) o = gi c (w + 3) o := fun o h => hc.1 _ _ (by omega) (by omega) (by omega)
  have e2 : gi c' w 2 = gi c w 2 := hc.1 _ _ (by omega) (by omega) (by omega)
  rcases h with ⟨a1, a2, a3, a4⟩ | ⟨a1, a2, a3⟩
  · refine ⟨fun o ho => ?_, e2, 1, a4, AWn_upd a1 a2 n hi (fun o _ h => by rw [o1 o h])⟩
    by_cases z : o = i
    · rw [z]
      exact ⟨fun y => absurd y a1, fun _ => Or.inr ⟨a2, a3⟩⟩
    · rw [o1 o z, o3 o z]
      exact ⟨fun y => ⟨y, rfl⟩, fun y => Or.inl ⟨y, rfl⟩⟩
  · refine ⟨fun o ho => ?_, e2, 0, ?_, AWn_same n (fun o _ => ?_)⟩
    · by_cases z : o = i
      · rw [z]
        exact ⟨fun y => ⟨a1.mpr y, a2⟩, fun y => Or.inl ⟨fun x => y (a1.mp x), a2⟩⟩
      · rw [o1 o z, o3 o z]
        exact ⟨fun y => ⟨y, rfl⟩, fun y => Or.inl ⟨y, rfl⟩⟩
    · rw [a3]
      exact (Int32.add_zero _).symm
    · by_cases z : o = i
      · rw [z]; exact a1
      · rw [o1 o z]
theorem fin1_o (c : DY) (w i mv x k : Nat) (h1 : x ≠ w + 7) (h2 : x ≠ w + 4) : gi (fin1 c w i mv) x k = gi c x k := by
  unfold fin1
  by_cases z : mv = 0
  · rw [if_pos z, gi_si_if, if_neg (by omega)]
  · rw [if_neg z, gi_si_if, if_neg (by omega), gi_si_if, if_neg (by omega)]
theorem ATn_fin1 {c c' : DY} {w i n mv : Nat} (hi : i < n) (n12 : n ≤ 12) (h : AT1 c c' w i) (hc : chC w i c c') : ATn c (fin1 c' w i mv) w n := ATn_trans (ATn_one hi n12 h hc) (ATn_same (fun o _ => ⟨fin1_o _ _ _ _ _ _ (by omega) (by omega), fin1_o _ _ _ _ _ _ (by omega) (by omega)⟩) (fin1_o _ _ _ _ _ _ (by omega) (by omega)) (fin1_o _ _ _ _ _ _ (by omega) (by omega)))
/-- who has gone before the reference comes to haste h, number mi -/
def Pr (D : DY) (g : Nat) (ι : Nat → Nat) (h : Int) (mi o : Nat) : Prop := h < hsI D g o ∨ (hsI D g o = h ∧ ι o < mi)
theorem GW_iff {D c m : DY} {g w r : Nat} {ι : Nat → Nat} {L W i : Nat} {p q : Prop} (h : p ↔ q) (k : GW D c m g w r ι L W i p) : GW D c m g w r ι L W i q := by
  rw [← propext h]; exact k
theorem going (N : Nat) (D : DY) (g l w r : Nat) (ι : Nat → Nat) (L W n M : Nat) (od : Nat → Nat) (x2 : Int32) (K) (hN : 20 ≤ N) (hG : CVg g l w) (r14 : r < 14) (hR : RRx D g l w r ι L W n M) (hAi : AIMS D D g w ι n) (o1 : ∀ p : Nat, p < n → od p < n ∧ gi D (w + 9) p = iz (od p : Nat)) (o2 : ∀ p q : Nat, p < q → q < n → bef D g (od p) (od q)) (o3 : ∀ i : Nat, i < n → ∃ p : Nat, p < n ∧ od p = i) (h : Int) (hh : 0 ≤ h ∧ h ≤ 9) : ∀ (q mi p kC kM mvd : Nat) (c m : DY), mi + q = M → q < kM → n - p < kC → p ≤ n → GS D c m w r → (∀ o : Nat, o < n → GW D c m g w r ι L W o (Pr D g ι h mi o)) → GA m ι n M → GDo c m w r → (∀ o : Nat, o < n → (Pr D g ι h mi o ↔ ∃ x : Nat, x < p ∧ od x = o)) → mvd = SMn m ι n → ∃ (p' kC' : Nat) (c' m' : DY), n - p' < kC' ∧ p' ≤ n ∧ F_X8_move_36 Z0.1 N kC w (iz mvd) (iz p) c = F_X8_move_36 Z0.1 N kC' w (iz (SMn m' ι n : Nat)) (iz p') c' ∧ F_X10_step_107 Z0.1 N K kM 510 (iz r) x2 (iz M) (iz h) (iz mi) m = K 510 (iz r) x2 (iz M) (iz (h - 1)) m' ∧ GS D c' m' w r ∧ (∀ o : Nat, o < n → GW D c' m' g w r ι L W o (Pr D g ι h M o)) ∧ GA m' ι n M ∧ GDo c' m' w r ∧ (∀ o : Nat, o < n → (Pr D g ι h M o ↔ ∃ x : Nat, x < p' ∧ od x = o)) ∧ (∀ x k : Nat, (x < w ∨ w + 11 < x) → gi c' x k = gi c x k) ∧ (∀ x k : Nat, gl c' x k = gl c x k) ∧ (∀ x k : Nat, (x < 535 ∨ 537 < x) → ¬ (x = 531 ∧ 720 * r ≤ k ∧ k < 720 * r + 720) → gi m' x k = gi m x k) ∧ (∀ x k : Nat, gl m' x k = gl m x k) ∧ ATn c c' w n := by
  have hv := RRx_CV hG hR
  have hM := RRx_MV hG r14 hR
  obtain ⟨dj, dj2⟩ := cv_dj hG
  obtain ⟨_, ⟨L16, W6, n12⟩, ⟨e0, e1, e3⟩, _⟩ := id hv
  obtain ⟨⟨_, _, _, _, M12⟩, _, _, ⟨hι, hmono⟩, _, mpos, _⟩ := id hM
  intro q
  induction q with
  | zero =>
    intro mi p kC kM mvd c m hq hkM hkC hp hS hW hA hD hP hmvd
    obtain ⟨kM, rfl⟩ : ∃ j, kM = j + 1 := ⟨kM - 1, by omega⟩
    obtain rfl : mi = M := by omega
    refine ⟨p, kC, c, m, hkC, hp, by rw [hmvd], ?_, hS, hW, hA, hD, hP, fun _ _ _ => rfl, fun _ _ => rfl, fun _ _ _ _ => rfl, fun _ _ => rfl, ATn_same (fun _ _ => ⟨rfl, rfl⟩) rfl rfl⟩
    rw [F_X10_step_107_s, if_pos (Int32.le_refl _), show iz h + (-1 : Int32) = iz (h - 1) from by rw [l_m1, iz_add]; exact congrArg iz (by omega)]
  | succ q ih =>
    intro mi p kC kM mvd c m hq hkM hkC hp hS hW hA hD hP hmvd
    obtain ⟨kM, rfl⟩ : ∃ j, kM = j + 1 := ⟨kM - 1, by omega⟩
    obtain ⟨s1, s2, s3, s4, s5, s6, s7, s8⟩ := id hS
    have b11 : iz ((720 * r + 16 + 20 * mi : Nat) : Int) + (11 : Int32) = iz ((720 * r + 16 + 20 * mi + 11 : Nat) : Int) := iz_add _ 11
    have j11 := ibr (720 * r + 16 + 20 * mi + 11) (by omega)
    have a1 : iz (mi : Int) + (1 : Int32) = iz ((mi + 1 : Nat) : Int) := iz_add mi 1
    have st : ∀ R, (if gi m 531 (720 * r + 16 + 20 * mi + 11) = iz h then (F_X10_isThere Z0.1 N 510 (iz r) (iz mi) m).bind fun u4 => (if u4.1 = 0 then F_X10_step_107 Z0.1 N K kM 510 (iz r) x2 (iz M) (iz h) (iz ((mi + 1 : Nat) : Int)) u4.2 else (F_X10_goes Z0.1 N 510 (iz r) (iz mi) u4.2).bind fun u6 => F_X10_step_107 Z0.1 N K kM 510 (iz r) x2 (iz M) (iz h) (iz ((mi + 1 : Nat) : Int)) u6) else F_X10_step_107 Z0.1 N K kM 510 (iz r) x2 (iz M) (iz h) (iz ((mi + 1 : Nat) : Int)) m) = R → F_X10_step_107 Z0.1 N K (kM + 1) 510 (iz r) x2 (iz M) (iz h) (iz mi) m = R := fun R hR' => by
      rw [F_X10_step_107_s, if_neg (show ¬ iz (M : Int) ≤ iz (mi : Int) from iz_nle (by omega)), a1]
      refine bnd (m_at _ _ r mi m) ?_
      show (if ib (iz ((720 * r + 16 + 20 * mi : Nat) : Int) + (11 : Int32)) 10080 then _ else _) = _
      rw [b11, if_pos j11, r_510_39, tnn _ (720 * r + 16 + 20 * mi + 11) rfl (by omega)]
      exact hR'
    have thM : F_X10_isThere Z0.1 N 510 (iz r) (iz mi) m = some (if gi m 531 (720 * r + 16 + 20 * mi) = -1 then 0 else 1, m) := by
      rw [F_X10_isThere_s]
      refine bnd (m_at _ _ r mi m) ?_
      show (if ib (iz ((720 * r + 16 + 20 * mi : Nat) : Int)) 10080 then _ else _) = _
      rw [if_pos (ibr _ (by omega)), r_510_39, tnn _ (720 * r + 16 + 20 * mi) rfl (by omega)]
      show (if gi m 531 (720 * r + 16 + 20 * mi) = -1 then _ else _) = _
      by_cases z : gi m 531 (720 * r + 16 + 20 * mi) = -1
      · rw [if_pos z, if_pos z]
      · rw [if_neg z, if_neg z]
    by_cases img : ∃ i : Nat, i < n ∧ ι i = mi ∧ hsI D g i = h
    · obtain ⟨i, hi, him, hih⟩ := img
      have nP : ¬ Pr D g ι h mi i := fun z => by
        rcases z with z | z <;> omega
      obtain ⟨pi, hpi, hpo⟩ := o3 i hi
      have ppi : p = pi := by
        rcases Nat.lt_trichotomy p pi with z | z | z
        · exfalso
          have hb := o2 p pi z hpi
          have : ¬ Pr D g ι h mi (od p) := fun y => by
            obtain ⟨x, hx, hxo⟩ := (hP (od p) (o1 p (by omega)).1).mp y
            have hb2 := o2 x p hx (by omega)
            rw [hxo] at hb2
            unfold bef at hb2
            omega
          apply this
          unfold bef at hb
          rw [hpo] at hb
          rcases hb with y | ⟨y1, y2⟩
          · exact Or.inl (by omega)
          · exact Or.inr ⟨by omega, by have := hmono (od p) i y2 hi; omega⟩
        · exact z
        · exact absurd ((hP i hi).mpr ⟨pi, z, hpo⟩) nP
      subst ppi
      obtain ⟨kC, rfl⟩ : ∃ j, kC = j + 1 := ⟨kC - 1, by omega⟩
      obtain ⟨c', m', mv, mv1, F1, F2, F3, hgo⟩ := goes_both N D c m g l w r ι L W n M i (Pr D g ι h mi) hN hG r14 hR hS hW hA hD hAi hi nP
      obtain ⟨w0, w1⟩ := (hW i hi).2.2.2.1 nP
      obtain ⟨k1, k2, k3⟩ := fin1_GW (g := g) mv1 w1 hgo (Pr D g ι h (mi + 1) i) (Or.inr ⟨hih, by omega⟩)
      have hchM := hgo.2.1
      have g3 : gi c g 3 = iz n := by rw [s1 g 3 (by omega) (by omega)]; exact e3
      have st36 := c_m36 N kC n p i mv c c' mvd hG n12 (by omega) hi g3 (by rw [s4, (o1 p hpi).2, hpo]) mv1 F1
      have h11 : gi m 531 (720 * r + 16 + 20 * mi + 11) = iz h := by
        have y := s7 (16 + 20 * mi + 11) (by omega) (by unfold cntP; omega)
        rw [← Nat.add_assoc, ← Nat.add_assoc] at y
        have z := (RRx_one hR i hi).2.2.1
        rw [him] at z
        rw [y, z, ← hih]
        unfold hsI
        exact (iz_self _).symm
      have h0 : gi m 531 (720 * r + 16 + 20 * mi) = iz (cx D w 0 i) := by
        have y := s7 (16 + 20 * mi) (by omega) (by unfold cntP; omega)
        rw [← Nat.add_assoc] at y
        have z := (mpos 0 i (by omega) hi).1
        rw [him, Nat.add_zero] at z
        rw [y, z]
      have mst : F_X10_step_107 Z0.1 N K (kM + 1) 510 (iz r) x2 (iz M) (iz h) (iz mi) m = F_X10_step_107 Z0.1 N K kM 510 (iz r) x2 (iz M) (iz h) (iz ((mi + 1 : Nat) : Int)) m' := by
        refine st _ ?_
        rw [if_pos h11]
        by_cases z : cx D w 0 i = -1
        · rw [h0, z, if_pos (show iz (-1) = -1 from rfl)] at thM
          refine bnd thM ?_
          show (if (0 : Int32) = 0 then _ else _) = _
          rw [if_pos rfl, F2 z]
        · have p3 := (mpos 0 i (by omega) hi).2.2
          unfold inS at p3
          rw [h0, if_neg (show ¬ iz (cx D w 0 i) = -1 from iz_nei (b := -1) (by omega))] at thM
          refine bnd thM ?_
          show (if (1 : Int32) = 0 then _ else _) = _
          rw [if_neg (by decide : ¬ (1 : Int32) = 0), ← him]
          exact bnd (F3 z) rfl
      have i12 : i < 12 := by omega
      have hιi := hι i hi
      have oth : ∀ o : Nat, o < n → o ≠ i → GW D (fin1 c' w i mv) m' g w r ι L W o (Pr D g ι h (mi + 1) o) := fun o ho hoi => by
        have hιo := hι o ho
        have ne : ι o ≠ ι i := fun z => hoi (ι_inj hmono o i ho hi z)
        refine GW_iff ?_ (GW_ch (n := n) (M := M) hoi ne (by omega) (by omega) (by omega) (hW o ho) k2 hchM)
        unfold Pr
        omega
      obtain ⟨p', kC', c'', m'', u1, u2, u3, u4, u5, u6, u7, u8, u9, v1, v2, v3, v4, v5⟩ := ih (mi + 1) (p + 1) kC kM (mvd + mv) (fin1 c' w i mv) m' (by omega) (by omega) (by omega) (by omega) (GS_ch hS i12 (by omega) k2 hchM) (fun o ho => by
        by_cases z : o = i
        · rw [z]; exact k1
        · exact oth o ho z) (GA_ch hi hA hchM) k3 (fun o ho => by
        by_cases z : o = i
        · rw [z]
          exact ⟨fun _ => ⟨p, by omega, hpo⟩, fun _ => Or.inr ⟨hih, by omega⟩⟩
        · have ne : ι o ≠ ι i := fun y => z (ι_inj hmono o i ho hi y)
          have k : Pr D g ι h (mi + 1) o ↔ Pr D g ι h mi o := by
            unfold Pr
            omega
          rw [k, hP o ho]
          refine ⟨fun ⟨x, hx, hxo⟩ => ⟨x, by omega, hxo⟩, fun ⟨x, hx, hxo⟩ => ?_⟩
          rcases Nat.lt_or_ge x p with y | y
          · exact ⟨x, y, hxo⟩
          · have : x = p := by omega
            rw [this, hpo] at hxo
            exact absurd hxo.symm z) (by
        rw [hmvd]
        exact (SMn_upd m m' ι i mv mv1 w0 hgo.2.2.2.2.1 n hi (fun o ho hoi => by
          have ne : ι o ≠ ι i := fun y => hoi (ι_inj hmono o i ho hi y)
          exact hchM.1 535 _ (by omega) (by omega))).symm)
      refine ⟨p', kC', c'', m'', u1, u2, st36.trans u3, mst.trans u4, u5, u6, u7, u8, u9, fun x k hx => ?_, fun x k => (v2 x k).trans (k2.2 x k), fun x k h1 h2 => ?_, fun x k => (v4 x k).trans (hchM.2 x k), ATn_trans (ATn_fin1 hi n12 hgo.2.2.2.2.2.2.2 hgo.1) v5⟩
      · rw [v1 x k hx]
        exact k2.1 x k (by omega) (by omega) (by omega)
      · rw [v3 x k h1 h2]
        exact hchM.1 x k (by omega) (by omega)
    · have same : ∀ o : Nat, o < n → (Pr D g ι h mi o ↔ Pr D g ι h (mi + 1) o) := fun o ho => by
        have : ¬ (ι o = mi ∧ hsI D g o = h) := fun z => img ⟨o, ho, z.1, z.2⟩
        unfold Pr
        omega
      have skip : F_X10_step_107 Z0.1 N K (kM + 1) 510 (iz r) x2 (iz M) (iz h) (iz mi) m = F_X10_step_107 Z0.1 N K kM 510 (iz r) x2 (iz M) (iz h) (iz ((mi + 1 : Nat) : Int)) m := by
        refine st _ ?_
        by_cases hz : gi m 531 (720 * r + 16 + 20 * mi + 11) = iz h
        · rw [if_pos hz]
          have aw : gi m 531 (720 * r + 16 + 20 * mi) = -1 := by
            have y := s7 (16 + 20 * mi) (by omega) (by unfold cntP; omega)
            rw [← Nat.add_assoc] at y
            rw [y]
            by_cases im : ∃ i : Nat, i < n ∧ ι i = mi
            · exfalso
              obtain ⟨i, hi, him⟩ := im
              refine img ⟨i, hi, him, ?_⟩
              have y2 := s7 (16 + 20 * mi + 11) (by omega) (by unfold cntP; omega)
              rw [← Nat.add_assoc, ← Nat.add_assoc] at y2
              have z := (RRx_one hR i hi).2.2.1
              rw [him] at z
              unfold hsI
              rw [← z, ← y2, hz, iz_toInt (by omega) (by omega)]
            · have := (hM.2.2.2.2.1 mi (by omega) (fun i hi z => im ⟨i, hi, z⟩) 0 (by omega)).1
              rw [Nat.add_zero] at this
              exact this
          rw [aw, if_pos rfl] at thM
          refine bnd thM ?_
          rfl
        · rw [if_neg hz]
      obtain ⟨p', kC', c'', m'', u1, u2, u3, u4, u5⟩ := ih (mi + 1) p kC kM mvd c m (by omega) (by omega) hkC hp hS (fun o ho => GW_iff (same o ho) (hW o ho)) hA hD (fun o ho => by rw [← same o ho]; exact hP o ho) hmvd
      exact ⟨p', kC', c'', m'', u1, u2, u3, skip.trans u4, u5⟩
