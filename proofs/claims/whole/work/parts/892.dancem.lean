/-! the reference's loops over those who danced -/
def fr8 (r : Nat) (m m' : DY) : Prop := (∀ x k : Nat, ¬ (x = 531 ∧ k = 720 * r + 8) → gi m' x k = gi m x k) ∧ ∀ x k : Nat, gl m' x k = gl m x k
theorem dM_fr {r : Nat} {m m' : DY} (h : fr8 r m m') (i j : Nat) : dM m' r i j = dM m r i j := by
  unfold dM
  rw [h.1 535 i (by omega), h.1 535 j (by omega), h.1 534 i (by omega), h.1 534 j (by omega), h.1 537 i (by omega), h.1 537 j (by omega), h.1 531 (720 * r + 16 + 20 * i + 8) (by omega), h.1 531 (720 * r + 16 + 20 * j + 8) (by omega), h.1 531 (720 * r + 16 + 20 * i) (by omega), h.1 531 (720 * r + 16 + 20 * j) (by omega), h.1 531 (720 * r + 16 + 20 * i + 4) (by omega), h.1 531 (720 * r + 16 + 20 * j + 4) (by omega)]
theorem dM_b (m : DY) (r i j : Nat) : dM m r i j = 0 ∨ dM m r i j = 1 := by
  unfold dM
  repeat' split
  all_goals first | exact Or.inl rfl | exact Or.inr rfl
theorem m_188 (N : Nat) (K) (r M mi : Nat) (m0 : DY) (v x4 : Int32) (r14 : r < 14) (hM : M ≤ 12) (hmi : mi < M) : ∀ (q mj k s : Nat) (m : DY), mj + q = mi → q < k → fr8 r m0 m → gi m 531 (720 * r + 8) = v + iz ((s + S1 (fun j => dM m0 r mi j) mj : Nat) : Int) → ∃ m' : DY, F_X10_step_188 Z0.1 N K k 510 (iz r) (iz ((720 * r : Nat) : Int)) (iz M) x4 (iz mi) (iz mj) m = K 510 (iz r) (iz ((720 * r : Nat) : Int)) (iz M) x4 (iz ((mi + 1 : Nat) : Int)) m' ∧ fr8 r m0 m' ∧ gi m' 531 (720 * r + 8) = v + iz ((s + S1 (fun j => dM m0 r mi j) mi : Nat) : Int) := by
  intro q
  induction q with
  | zero =>
    intro mj k s m hq hk hf hv
    obtain ⟨k, rfl⟩ : ∃ j, k = j + 1 := ⟨k - 1, by omega⟩
    obtain rfl : mj = mi := by omega
    refine ⟨m, ?_, hf, hv⟩
    rw [F_X10_step_188_s, if_pos (Int32.le_refl _), show iz (mj : Int) + (1 : Int32) = iz ((mj + 1 : Nat) : Int) from iz_add mj 1]
  | succ q ih =>
    intro mj k s m hq hk hf hv
    obtain ⟨k, rfl⟩ : ∃ j, k = j + 1 := ⟨k - 1, by omega⟩
    have j8 := ibr (720 * r + 8) (by omega)
    have a1 : iz (mj : Int) + (1 : Int32) = iz ((mj + 1 : Nat) : Int) := iz_add mj 1
    have b8 : iz ((720 * r : Nat) : Int) + (8 : Int32) = iz ((720 * r + 8 : Nat) : Int) := iz_add _ 8
    have t8 : (iz ((720 * r + 8 : Nat) : Int)).toNatClampNeg = 720 * r + 8 := tnn _ (720 * r + 8) rfl (by omega)
    have d1 := dM_fr hf mi mj
    have fin : ∀ d : Nat, dM m0 r mi mj = d → ∃ m' : DY, F_X10_step_222 Z0.1 N (F_X10_step_188 Z0.1 N K k) 510 (iz r) (iz ((720 * r : Nat) : Int)) (iz M) x4 (iz mi) (iz mj) 531 (iz ((720 * r + 8 : Nat) : Int)) (gi m 531 (720 * r + 8)) (iz d) m = K 510 (iz r) (iz ((720 * r : Nat) : Int)) (iz M) x4 (iz ((mi + 1 : Nat) : Int)) m' ∧ fr8 r m0 m' ∧ gi m' 531 (720 * r + 8) = v + iz ((s + S1 (fun j => dM m0 r mi j) mi : Nat) : Int) := fun d hd => by
      obtain ⟨m', u1, u2, u3⟩ := ih (mj + 1) k s (si m 531 (720 * r + 8) (gi m 531 (720 * r + 8) + iz d)) (by omega) (by omega) ⟨fun x y h => by
        rw [gi_si_if, if_neg (by omega)]; exact hf.1 x y h, fun x y => (hf.2 x y)⟩ (by
        rw [gi_si_if, if_pos ⟨rfl, rfl⟩, hv]
        show v + iz ((s + S1 (fun j => dM m0 r mi j) mj : Nat) : Int) + iz d = v + iz ((s + (S1 (fun j => dM m0 r mi j) mj + dM m0 r mi mj) : Nat) : Int)
        rw [hd, Int32.add_assoc, iz_add]
        congr 2
        omega)
      refine ⟨m', ?_, u2, u3⟩
      rw [F_X10_step_222_s, if_pos j8, bd_eq, t8, a1]
      exact u1
    have main : F_X10_step_188 Z0.1 N K (k + 1) 510 (iz r) (iz ((720 * r : Nat) : Int)) (iz M) x4 (iz mi) (iz mj) m = F_X10_step_222 Z0.1 N (F_X10_step_188 Z0.1 N K k) 510 (iz r) (iz ((720 * r : Nat) : Int)) (iz M) x4 (iz mi) (iz mj) 531 (iz ((720 * r + 8 : Nat) : Int)) (gi m 531 (720 * r + 8)) (iz (dM m0 r mi mj : Nat)) m := by
      rw [F_X10_step_188_s, if_neg (show ¬ iz (mi : Int) ≤ iz (mj : Int) from iz_nle (by omega)), b8, if_pos j8, r_510_39, t8]
      refine bnd (m_dance N r mi mj m r14 (by omega) (by omega)) ?_
      show (if iz (dM m r mi mj : Nat) = 0 then _ else _) = _
      rw [d1]
      rcases dM_b m0 r mi mj with B | B
      · rw [B, if_pos (show iz ((0 : Nat) : Int) = 0 from rfl)]
        rfl
      · rw [B, if_neg (show ¬ iz ((1 : Nat) : Int) = 0 by decide)]
        rfl
    rw [main]
    exact fin _ rfl
theorem m_167 (N : Nat) (r M : Nat) (m0 : DY) (hN : 20 ≤ N) (r14 : r < 14) (hM : M ≤ 12) (hz : ∀ i : Nat, i < M → gi m0 535 i = 0 ∨ gi m0 535 i = 1) : ∀ (q mi k : Nat) (m : DY), mi + q = M → q < k → fr8 r m0 m → gi m 531 (720 * r + 8) = gi m0 531 (720 * r + 8) + iz (S1 (fun a => S1 (fun j => dM m0 r a j) a) mi : Nat) → ∃ m' : DY, F_X10_step_167 Z0.1 N k 510 (iz r) (iz ((720 * r : Nat) : Int)) (iz M) (iz (S1 (fun i => (gi m0 535 i).toNatClampNeg) mi : Nat)) (iz mi) m = F_X10_step_239 Z0.1 N N 510 (iz r) (iz ((720 * r : Nat) : Int)) (iz M) (iz (S1 (fun i => (gi m0 535 i).toNatClampNeg) M : Nat)) 0 m' ∧ fr8 r m0 m' ∧ gi m' 531 (720 * r + 8) = gi m0 531 (720 * r + 8) + iz (S1 (fun a => S1 (fun j => dM m0 r a j) a) M : Nat) := by
  intro q
  induction q with
  | zero =>
    intro mi k m hq hk hf hv
    obtain ⟨k, rfl⟩ : ∃ j, k = j + 1 := ⟨k - 1, by omega⟩
    obtain rfl : mi = M := by omega
    refine ⟨m, ?_, hf, hv⟩
    rw [F_X10_step_167_s, if_pos (Int32.le_refl _)]
  | succ q ih =>
    intro mi k m hq hk hf hv
    obtain ⟨k, rfl⟩ : ∃ j, k = j + 1 := ⟨k - 1, by omega⟩
    obtain ⟨m1, u1, u2, u3⟩ := m_188 N (F_X10_step_167 Z0.1 N k) r M mi m0 (gi m0 531 (720 * r + 8)) (iz (S1 (fun i => (gi m0 535 i).toNatClampNeg) (mi + 1) : Nat)) r14 hM (by omega) mi 0 N (S1 (fun a => S1 (fun j => dM m0 r a j) a) mi) m (by omega) (by omega) hf hv
    obtain ⟨m', y1, y2, y3⟩ := ih (mi + 1) k m1 (by omega) (by omega) u2 u3
    refine ⟨m', ?_, y2, y3⟩
    rw [F_X10_step_167_s, if_neg (show ¬ iz (M : Int) ≤ iz (mi : Int) from iz_nle (by omega)), if_pos (show ib (iz (mi : Int)) 12 from iz_ib (by omega)), r_510_44, tnn _ mi rfl (by omega), hf.1 535 mi (by omega)]
    have e : iz (S1 (fun i => (gi m0 535 i).toNatClampNeg) mi : Nat) + gi m0 535 mi = iz (S1 (fun i => (gi m0 535 i).toNatClampNeg) (mi + 1) : Nat) := by
      show _ = iz ((S1 (fun i => (gi m0 535 i).toNatClampNeg) mi + (gi m0 535 mi).toNatClampNeg : Nat) : Int)
      rcases hz mi (by omega) with B | B
      · rw [B]
        exact iz_add _ 0
      · rw [B]
        exact iz_add _ 1
    rw [e]
    exact u1.trans y1
/-! both counts are one -/
theorem if0 {p : Prop} [Decidable p] {x : Nat} : (if p then 0 else x) = 1 ↔ ¬ p ∧ x = 1 := by
  by_cases q : p
  · rw [if_pos q]
    exact ⟨fun h => absurd h (by decide), fun h => absurd q h.1⟩
  · rw [if_neg q]
    exact ⟨fun h => ⟨q, h⟩, fun h => h.2⟩
theorem if1 {p : Prop} [Decidable p] {x : Nat} : (if p then x else 0) = 1 ↔ p ∧ x = 1 := by
  by_cases q : p
  · rw [if_pos q]
    exact ⟨fun h => ⟨q, h⟩, fun h => h.2⟩
  · rw [if_neg q]
    exact ⟨fun h => absurd h (by decide), fun h => absurd h.1 q⟩
theorem dC2_b (c : DY) (g w a b : Nat) : dC2 c g w a b = 0 ∨ dC2 c g w a b = 1 := by
  unfold dC2 dC1
  repeat' split
  all_goals first | exact Or.inl rfl | exact Or.inr rfl
theorem abI_iz {z : Int} (h : -100 < z ∧ z < 100) : (2 : Int32) < abI (iz z) ↔ 2 < z ∨ z < -2 := by
  unfold abI
  by_cases q : 0 ≤ z
  · rw [if_pos (show (0 : Int32) ≤ iz z from iz_lei (a := 0) (by omega))]
    exact (iz_lt (a := 2) (by omega) (by omega) (by omega) (by omega)).trans (by omega)
  · rw [if_neg (show ¬ (0 : Int32) ≤ iz z from iz_nle (b := z) (a := 0) (by omega)), show (0 : Int32) - iz z = iz (0 - z) from iz_sub 0 z]
    exact (iz_lt (a := 2) (by omega) (by omega) (by omega) (by omega)).trans (by omega)
theorem dance_two {c m : DY} {g w r a b A B : Nat} {pay pby xa ya xb yb : Int} (hx : (-1 ≤ xa ∧ xa < 16) ∧ (-1 ≤ xb ∧ xb < 16) ∧ (-1 ≤ ya ∧ ya < 16) ∧ (-1 ≤ yb ∧ yb < 16) ∧ (-1 ≤ pay ∧ pay < 16) ∧ (-1 ≤ pby ∧ pby < 16)) (a2 : gi c (w + 2) a = iz pay) (b2 : gi c (w + 2) b = iz pby) (a4 : gi m 537 A = iz pay) (b4 : gi m 537 B = iz pby) (za : gi m 535 A = 0 ∨ gi m 535 A = 1) (zb : gi m 535 B = 0 ∨ gi m 535 B = 1) (a6 : (gi m 535 A = 1 ∧ gi m 534 A ≠ 0) ↔ (pay ≠ -1 ∧ pay ≠ ya)) (b6 : (gi m 535 B = 1 ∧ gi m 534 B ≠ 0) ↔ (pby ≠ -1 ∧ pby ≠ yb)) (ca : gi m 531 (720 * r + 16 + 20 * A) = iz xa ∧ gi m 531 (720 * r + 16 + 20 * A + 4) = iz ya) (cb : gi m 531 (720 * r + 16 + 20 * B) = iz xb ∧ gi m 531 (720 * r + 16 + 20 * B + 4) = iz yb) (oa : gi c (w + 1) (12 + a) = iz xa ∧ gi c (w + 2) (12 + a) = iz ya) (ob : gi c (w + 1) (12 + b) = iz xb ∧ gi c (w + 2) (12 + b) = iz yb) (hw : gi m 531 (720 * r + 16 + 20 * A + 8) = gi m 531 (720 * r + 16 + 20 * B + 8) ↔ gi c (g + 4) b = gi c (g + 4) a) : dM m r A B = dC2 c g w b a := by
  have hi : dM m r A B = 1 ↔ dC2 c g w b a = 1 := by
    unfold dM dC2 dC1
    rw [if0, if0, if0, if0, if0, if0, if0, if1, if1, if0, if0, if1, if0, if1, if0, hw, ca.1, ca.2, cb.1, cb.2, oa.1, oa.2, ob.1, ob.2, a2, b2, a4, b4, iz_sub, iz_sub]
    rw [abI_iz (by omega), show iz (xa - xb) < -2 ↔ xa - xb < -2 from iz_lt (b := -2) (by omega) (by omega) (by omega) (by omega), show (2 : Int32) < iz (xa - xb) ↔ 2 < xa - xb from iz_lt (a := 2) (by omega) (by omega) (by omega) (by omega), iz_inj (a := ya) (b := yb) (by omega) (by omega) (by omega) (by omega), iz_inj (a := pay) (b := pby) (by omega) (by omega) (by omega) (by omega), iz_inj (a := pby) (b := pay) (by omega) (by omega) (by omega) (by omega), iz_inj (a := pby) (b := yb) (by omega) (by omega) (by omega) (by omega), iz_inj (a := yb) (b := ya) (by omega) (by omega) (by omega) (by omega), show iz pby = -1 ↔ pby = -1 from iz_inj (b := -1) (by omega) (by omega) (by omega) (by omega)]
    have na : ¬ gi m 535 A = 0 ↔ gi m 535 A = 1 := by
      rcases za with z | z
      · rw [z]; decide
      · rw [z]; decide
    have nb : ¬ gi m 535 B = 0 ↔ gi m 535 B = 1 := by
      rcases zb with z | z
      · rw [z]; decide
      · rw [z]; decide
    rw [na, nb]
    generalize (gi m 535 A = 1) = p1 at *
    generalize (gi m 535 B = 1) = p2 at *
    have e1 : p1 ∧ p2 ∧ ¬ gi m 534 A = 0 ∧ ¬ gi m 534 B = 0 ↔ (pay ≠ -1 ∧ pay ≠ ya) ∧ (pby ≠ -1 ∧ pby ≠ yb) := by
      rw [← a6, ← b6]
      exact ⟨fun ⟨x1, x2, x3, x4⟩ => ⟨⟨x1, x3⟩, x2, x4⟩, fun ⟨⟨x1, x3⟩, x2, x4⟩ => ⟨x1, x2, x3, x4⟩⟩
    constructor
    · intro ⟨x1, x2, x3, x4, x5, x6, x7, x8, x9, _⟩
      obtain ⟨⟨y1, y2⟩, y3, y4⟩ := e1.mp ⟨x1, x2, x3, x4⟩
      exact ⟨x5, y3, by omega, y4, by omega, by omega, rfl⟩
    · intro ⟨x5, y3, x9, y4, x8, x7, _⟩
      obtain ⟨x1, x2, x3, x4⟩ := e1.mpr ⟨⟨by omega, by omega⟩, y3, y4⟩
      exact ⟨x1, x2, x3, x4, x5, by omega, by omega, by omega, by omega, rfl⟩
  rcases dM_b m r A B with x | x
  · rcases dC2_b c g w b a with y | y
    · rw [x, y]
    · exact absurd (x.symm.trans (hi.mpr y)) (by decide)
  · rw [x, hi.mp x]
theorem chM8_sum {g l w : Nat} {D c m : DY} {r : Nat} {ι : Nat → Nat} {L W n M : Nat} (hG : CVg g l w) (r14 : r < 14) (hR : RRx D g l w r ι L W n M) (hS : GS D c m w r) (hW : ∀ o : Nat, o < n → GW D c m g w r ι L W o True) (hA : GA m ι n M) : S1 (fun a => S1 (fun j => dM m r a j) a) M = dCN c g w n := by
  have hM := RRx_MV hG r14 hR
  obtain ⟨⟨_, L16, W6, n12, M12⟩, _, _, ⟨hι, hmono⟩, _, mpos, _⟩ := id hM
  obtain ⟨s1, s2, s3, s4, s5, s6, s7, s8⟩ := id hS
  refine S1_pairs (fun a j => dM m r a j) (fun a b => dC2 c g w a b) ι M n hι hmono (fun i k hi hk hno => ?_) (fun a b hb ha => ?_)
  · show dM m r i k = 0
    unfold dM
    rcases hno with h | h
    · rw [if_pos (hA i hi h).2.2]
    · by_cases q : gi m 535 i = 0
      · rw [if_pos q]
      · rw [if_neg q, if_pos (hA k (by omega) h).2.2]
  · show dM m r (ι a) (ι b) = dC2 c g w b a
    have hb' : b < n := by omega
    obtain ⟨⟨pax, pay, ⟨a1, a2, a3, a4⟩, a5, _, a6⟩, _, za, _⟩ := hW a ha
    obtain ⟨⟨pbx, pby, ⟨b1, b2, b3, b4⟩, b5, _, b6⟩, _, zb, _⟩ := hW b hb'
    have a6 := a6 trivial
    have b6 := b6 trivial
    have hιa := hι a ha
    have hιb := hι b hb'
    have cell : ∀ o : Nat, o < n → ι o < M → gi m 531 (720 * r + 16 + 20 * ι o) = iz (cx D w 0 o) ∧ gi m 531 (720 * r + 16 + 20 * ι o + 4) = iz (cy D w 0 o) ∧ gi m 531 (720 * r + 16 + 20 * ι o + 8) = gi D 531 (720 * r + 16 + 20 * ι o + 8) := fun o ho hm => by
      have y0 := s7 (16 + 20 * ι o) (by omega) (by unfold cntP; omega)
      have y4 := s7 (16 + 20 * ι o + 4) (by omega) (by unfold cntP; omega)
      have y8 := s7 (16 + 20 * ι o + 8) (by omega) (by unfold cntP; omega)
      rw [← Nat.add_assoc] at y0
      rw [← Nat.add_assoc, ← Nat.add_assoc] at y4 y8
      obtain ⟨z1, z2, _⟩ := mpos 0 o (by omega) ho
      rw [Nat.add_zero] at z1 z2
      exact ⟨y0.trans z1, y4.trans z2, y8⟩
    have old : ∀ o : Nat, o < n → gi c (w + 1) (12 + o) = iz (cx D w 0 o) ∧ gi c (w + 2) (12 + o) = iz (cy D w 0 o) := fun o ho => by
      obtain ⟨z1, z2⟩ := s5 0 o (by omega) (by omega)
      rw [show 12 * (0 + 1) + o = 12 + o by omega] at z1 z2
      obtain ⟨x1, x2, _⟩ := PO_cx ((hR.2.2.2.2.2.2.2.2.2.1 o ho).1 0 (by omega)) L16 W6
      exact ⟨z1.trans x1, z2.trans x2⟩
    have wy : ∀ o : Nat, o < n → gi c (g + 4) o = 1 ∧ gi m 531 (720 * r + 16 + 20 * ι o + 8) = 1 ∨ gi c (g + 4) o = -1 ∧ gi m 531 (720 * r + 16 + 20 * ι o + 8) = 0 := fun o ho => by
      obtain ⟨z, _⟩ := (hR.2.2.2.2.2.2.2.2.2.1 o ho).2.1
      have dj := cv_dj hG
      rw [s1 (g + 4) o (by omega) (by omega), (cell o ho (hι o ho)).2.2]
      exact z
    obtain ⟨_, _, ba⟩ := mpos 0 a (by omega) ha
    obtain ⟨_, _, bb⟩ := mpos 0 b (by omega) hb'
    unfold inS at ba bb a5 b5
    refine dance_two (by omega) a2 b2 a4 b4 za zb a6 b6 ⟨(cell a ha hιa).1, (cell a ha hιa).2.1⟩ ⟨(cell b hb' hιb).1, (cell b hb' hιb).2.1⟩ (old a ha) (old b hb') ?_
    rcases wy a ha with ⟨z1, z2⟩ | ⟨z1, z2⟩ <;> rcases wy b hb' with ⟨y1, y2⟩ | ⟨y1, y2⟩ <;> rw [z1, z2, y1, y2] <;> decide
