/-! a token on both sides; words -/
def nx (Z : Nat → Int) (sz f : Nat) : Nat := rn Z isSp (sz - tE Z sz f) (tE Z sz f)
def TKS (c m : DY) (Z : Nat → Int) (sz f : Nat) : Prop := (sz ≤ 500 ∧ f ≤ sz) ∧ (gi c 94 1 = iz sz ∧ gi m 510 19 = iz sz) ∧ (BYT c Z ∧ BYM m Z) ∧ (gi c 94 3 = iz f ∧ gi m 510 20 = iz f) ∧ (gi c 94 4 = iz (tE Z sz f : Nat) ∧ gi m 510 18 = iz (tE Z sz f : Nat)) ∧ (gi c 94 2 = iz (kD Z sz f : Nat) ∧ gi m 510 21 = iz (srt (kD Z sz f) : Nat)) ∧ (kD Z sz f = 2 → gi c 94 5 = iz (dV Z f (tE Z sz f - f)) ∧ gi m 510 22 = iz (dV Z f (tE Z sz f - f))) ∧ (kD Z sz f = 3 → gi m 510 22 = iz (Z f)) ∧ (kD Z sz f = 1 → gl m 510 23 = if tE Z sz f - f ≤ 8 then wd Z f (tE Z sz f - f) else 0)
theorem tE_b (Z : Nat → Int) (sz f : Nat) (h : f ≤ sz) : f ≤ tE Z sz f ∧ tE Z sz f ≤ sz ∧ (kD Z sz f ≠ 0 → f < tE Z sz f ∧ f < sz) ∧ kD Z sz f ≤ 4 := by
  unfold kD tE
  by_cases e : sz ≤ f
  · rw [if_pos e, if_pos e]
    exact ⟨by omega, by omega, fun z => absurd rfl z, by omega⟩
  · rw [if_neg e, if_neg e]
    by_cases L : isLt (Z f) = true
    · have b := rn_b Z isLt (sz - f) f
      have b0 := rn_0 Z isLt (sz - f) f L (by omega)
      rw [if_pos L, if_pos L]
      exact ⟨by omega, by omega, fun _ => by omega, by omega⟩
    · rw [if_neg L, if_neg L]
      by_cases D : isDg (Z f) = true
      · have b := rn_b Z isDg (sz - f) f
        have b0 := rn_0 Z isDg (sz - f) f D (by omega)
        rw [if_pos D, if_pos D]
        refine ⟨by omega, by omega, fun _ => by omega, ?_⟩
        by_cases y : rn Z isDg (sz - f) f - f ≤ 3
        · rw [if_pos y]; omega
        · rw [if_neg y]; omega
      · rw [if_neg D, if_neg D]
        refine ⟨by omega, by omega, fun _ => by omega, ?_⟩
        by_cases G : isSg (Z f) = true
        · rw [if_pos G]; omega
        · rw [if_neg G]; omega
theorem nx_b (Z : Nat → Int) (sz f : Nat) (h : f ≤ sz) : nx Z sz f ≤ sz ∧ f ≤ nx Z sz f ∧ (kD Z sz f ≠ 0 → f < nx Z sz f) := by
  obtain ⟨a, b, c, _⟩ := tE_b Z sz f h
  have q := rn_b Z isSp (sz - tE Z sz f) (tE Z sz f)
  unfold nx
  exact ⟨by omega, by omega, fun z => by have := c z; omega⟩
theorem both_step {c m : DY} {Z : Nat → Int} {sz f : Nat} (N : Nat) (hN : 900 ≤ N) (hT : TKS c m Z sz f) : ∃ c' m' : DY, F_X6_step Z0.1 N 94 c = some c' ∧ F_X10_token Z0.1 N 510 m = some m' ∧ TKS c' m' Z sz (nx Z sz f) ∧ frX c c' ∧ frY m m' := by
  obtain ⟨⟨h5, hf⟩, ⟨a1, a2⟩, ⟨b1, b2⟩, _, ⟨d1, d2⟩, _⟩ := hT
  have tb := tE_b Z sz f hf
  obtain ⟨c', u1, u2, u3, u4, u5, u6⟩ := c_step N sz Z (by omega) h5 (sz - tE Z sz f) (tE Z sz f) N c (by omega) (by omega) a1 d1 b1
  obtain ⟨m', f', v0, v1, v2, v3, v4, v5, v6, v7, v8⟩ := m_tok N sz Z (by omega) h5 (sz - tE Z sz f) (tE Z sz f) N m (by omega) (by omega) a2 d2 b2
  subst v0
  refine ⟨c', m', u1, v1, ⟨⟨h5, (nx_b Z sz f hf).1⟩, ⟨(u6.1 94 1 (by omega)).trans a1, (v8.1 510 19 (by omega)).trans a2⟩, ⟨BYT_fr b1 u6, BYM_fr b2 v8⟩, ⟨u2, v2⟩, ⟨u4, v4⟩, ⟨u3, v3⟩, fun z => ⟨u5 z, v5 z⟩, v6, v7⟩, u6, v8⟩
/-! words -/
def pn (g : Nat → Int) : Nat → Nat
  | 0 => 0
  | n + 1 => 256 * pn g n + (g n).toNat
theorem pn_s (g : Nat → Int) (n : Nat) : pn g (n + 1) = 256 * pn g n + (g n).toNat := rfl
theorem pn_inj {g h : Nat → Int} : ∀ n n' : Nat, (∀ i : Nat, i < n → 1 ≤ g i ∧ g i ≤ 255) → (∀ i : Nat, i < n' → 1 ≤ h i ∧ h i ≤ 255) → pn g n = pn h n' → n = n' ∧ ∀ i : Nat, i < n → g i = h i
  | 0, 0, _, _, _ => ⟨rfl, fun i hi => by omega⟩
  | 0, n' + 1, _, h2, e => by
    rw [pn_s] at e
    have := h2 n' (by omega)
    have e : 0 = 256 * pn h n' + (h n').toNat := e
    omega
  | n + 1, 0, h1, _, e => by
    rw [pn_s] at e
    have := h1 n (by omega)
    have e : 256 * pn g n + (g n).toNat = 0 := e
    omega
  | n + 1, n' + 1, h1, h2, e => by
    rw [pn_s, pn_s] at e
    have a := h1 n (by omega)
    have b := h2 n' (by omega)
    obtain ⟨e1, e2⟩ := pn_inj n n' (fun i hi => h1 i (by omega)) (fun i hi => h2 i (by omega)) (by omega)
    subst e1
    refine ⟨rfl, fun i hi => ?_⟩
    by_cases q : i = n
    · rw [q]; omega
    · exact e2 i (by omega)
theorem pn_same {g h : Nat → Int} : ∀ n : Nat, (∀ i : Nat, i < n → g i = h i) → pn g n = pn h n
  | 0, _ => rfl
  | n + 1, e => by rw [pn_s, pn_s, pn_same n (fun i hi => e i (by omega)), e n (by omega)]
theorem pn_lt {g : Nat → Int} : ∀ n : Nat, (∀ i : Nat, i < n → 1 ≤ g i ∧ g i ≤ 255) → pn g n < 256 ^ n
  | 0, _ => by show 0 < 1; omega
  | n + 1, h => by
    have a := pn_lt n (fun i hi => h i (by omega))
    have b := h n (by omega)
    rw [pn_s, Nat.pow_succ]
    omega
theorem sh_or (x : Int64) (a z : Nat) (hx : x.toBitVec.toNat = a) (ha : a < 2 ^ 56) (hz : z < 256) : ((x <<< (((8 : Int32)).toInt64 &&& 63)) ||| (iz (z : Int)).toInt64).toBitVec.toNat = 256 * a + z := by
  have e8 : ((8 : Int32)).toInt64 &&& 63 = (8 : Int64) := by decide
  have s8 : ((8 : Int64).toBitVec.smod 64) = (8 : BitVec 64) := by decide
  have ez : (iz (z : Int)).toInt64.toBitVec.toNat = z := by
    have : ∀ z : Fin 256, (iz ((z.1 : Nat) : Int)).toInt64.toBitVec.toNat = z.1 := by decide +kernel
    exact this ⟨z, hz⟩
  rw [e8, Int64.toBitVec_or, BitVec.toNat_or, Int64.toBitVec_shiftLeft, s8, ez]
  have e : (x.toBitVec <<< (8 : BitVec 64)).toNat = 256 * a := by
    rw [BitVec.shiftLeft_eq', BitVec.toNat_shiftLeft, hx, Nat.shiftLeft_eq, show (8 : BitVec 64).toNat = 8 from rfl]
    rw [Nat.mod_eq_of_lt (by omega)]
    omega
  rw [e, show 256 * a = a <<< 8 by rw [Nat.shiftLeft_eq]; omega, ← Nat.shiftLeft_add_eq_or_of_lt (show z < 2 ^ 8 by omega)]
theorem wd_pn (Z : Nat → Int) (f : Nat) : ∀ n : Nat, n ≤ 8 → (∀ i : Nat, i < n → 1 ≤ Z (f + i) ∧ Z (f + i) ≤ 255) → (wd Z f n).toBitVec.toNat = pn (fun i => Z (f + i)) n
  | 0, _, _ => by show (0 : Int64).toBitVec.toNat = 0; decide
  | n + 1, h, hz => by
    have ih := wd_pn Z f n (by omega) (fun i hi => hz i (by omega))
    have lt := pn_lt (g := fun i => Z (f + i)) n (fun i hi => hz i (by omega))
    have b := hz n (by omega)
    have p : 256 ^ n ≤ 256 ^ 7 := Nat.pow_le_pow_right (by omega) (by omega)
    have e := sh_or (wd Z f n) (pn (fun i => Z (f + i)) n) (Z (f + n)).toNat ih (by omega) (by omega)
    rw [show (((Z (f + n)).toNat : Nat) : Int) = Z (f + n) by omega] at e
    exact e
def chW (w j : Nat) : Int := (schI w (Int32.ofNat j)).toInt
/-- word w of the class's, packed W of the reference's -/
def WOK (w : Nat) (W : Int64) : Prop := ((sLen.getD w 0 ≤ 8 ∧ slenI w = iz (sLen.getD w 0 : Nat)) ∧ (∀ j : Nat, j < sLen.getD w 0 → 97 ≤ chW w j ∧ chW w j ≤ 122)) ∧ W.toBitVec.toNat = pn (chW w) (sLen.getD w 0) ∧ W ≠ 0
theorem lg0 (x y : Int64) : lg_cmp x y = 0 ↔ x = y := by
  unfold lg_cmp
  by_cases a : x > y
  · rw [if_pos a]
    refine ⟨fun q => absurd q (by decide), fun q => ?_⟩
    rw [q] at a
    exact absurd a (Int64.lt_irrefl)
  · rw [if_neg a]
    by_cases b : x = y
    · rw [if_pos b]; exact ⟨fun _ => b, fun _ => rfl⟩
    · rw [if_neg b]
      exact ⟨fun q => absurd q (by decide), fun q => absurd q b⟩
theorem i64_nat {x y : Int64} : x = y ↔ x.toBitVec.toNat = y.toBitVec.toNat := ⟨fun h => by rw [h], fun h => Int64.toBitVec_inj.mp (BitVec.eq_of_toNat_eq h)⟩
theorem c_isW36 (N w f sz : Nat) (Z : Nat → Int) (c : DY) (hw : sLen.getD w 0 ≤ 8 ∧ slenI w = iz (sLen.getD w 0 : Nat)) (hch : ∀ j : Nat, j < sLen.getD w 0 → 97 ≤ chW w j ∧ chW w j ≤ 122) (h5 : sz ≤ 500) (hf : f + sLen.getD w 0 ≤ sz) (h1 : gi c 94 1 = iz sz) (h3 : gi c 94 3 = iz f) (hZ : BYT c Z) : ∀ q j k : Nat, j + q = sLen.getD w 0 → q < k → ∃ b : Int32, (b = 0 ∨ b = 1) ∧ F_X6_isWord_36 Z0.1 N k 94 w (iz j) c = some (b, c) ∧ (b = 1 ↔ ∀ i : Nat, j ≤ i → i < sLen.getD w 0 → Z (f + i) = chW w i) := by
  intro q
  induction q with
  | zero =>
    intro j k hq hk
    obtain ⟨k, rfl⟩ : ∃ i, k = i + 1 := ⟨k - 1, by omega⟩
    refine ⟨1, Or.inr rfl, ?_, ⟨fun _ i h1 h2 => by omega, fun _ => rfl⟩⟩
    rw [F_X6_isWord_36_s, hw.2, if_pos (iz_lei (by omega))]
  | succ q ih =>
    intro j k hq hk
    obtain ⟨k, rfl⟩ : ∃ i, k = i + 1 := ⟨k - 1, by omega⟩
    obtain ⟨b, b0, b1, b2⟩ := ih (j + 1) k (by omega) (by omega)
    obtain ⟨z1, z2⟩ := hZ (f + j) (by omega)
    have cj := hch j (by omega)
    have e : iz (f : Int) + iz (j : Int) = iz ((f + j : Nat) : Int) := iz_add _ _
    have sc : schI w (iz (j : Int)) = iz (chW w j) := (iz_self _).symm
    have st : ∀ R, (if iz (Z (f + j)) = iz (chW w j) then F_X6_isWord_36 Z0.1 N k 94 w (iz ((j + 1 : Nat) : Int)) c else some ((0 : Int32), c)) = R → F_X6_isWord_36 Z0.1 N (k + 1) 94 w (iz j) c = R := fun R hR => by
      rw [F_X6_isWord_36_s, hw.2, if_neg (iz_nle (by omega)), h1, h3, e, if_neg (iz_nle (by omega)), if_pos (show ib (iz ((f + j : Nat) : Int)) 500 from iz_ib (by omega)), if_pos (show ib (iz (j : Int)) (sLen.getD w 0) from iz_ib (by omega)), r_94_0, tnn _ (f + j) rfl (by omega), z1, nr_b z2, sc, show iz (j : Int) + (1 : Int32) = iz ((j + 1 : Nat) : Int) from iz_add j 1]
      exact hR
    by_cases y : Z (f + j) = chW w j
    · refine ⟨b, b0, st _ (by rw [if_pos (congrArg iz y)]; exact b1), b2.trans ⟨fun q i h1 h2 => ?_, fun q i h1 h2 => q i (by omega) h2⟩⟩
      by_cases w : i = j
      · rw [w]; exact y
      · exact q i (by omega) h2
    · refine ⟨0, Or.inl rfl, st _ (if_neg (iz_nei (by omega))), ⟨fun q => absurd q (by decide), fun q => absurd (q j (by omega) (by omega)) y⟩⟩
theorem word_both {c m : DY} {Z : Nat → Int} {sz f : Nat} (N w : Nat) (W : Int64) (hN : 900 ≤ N) (hT : TKS c m Z sz f) (h6 : gi c 94 6 ≠ 1) (hw : WOK w W) : ∃ b : Int32, (b = 0 ∨ b = 1) ∧ F_X6_isWord Z0.1 N 94 w c = some (b, c) ∧ F_X10_isWord Z0.1 N 510 W m = some (b, m) ∧ (b = 1 → kD Z sz f = 1) ∧ (lg_cmp (if gi m 510 21 = 2 then gl m 510 23 else 0) W = 0 ↔ b = 1) := by
  obtain ⟨⟨h5, hf⟩, ⟨a1, a2⟩, ⟨b1, b2⟩, ⟨c1, c2⟩, ⟨d1, d2⟩, ⟨e1, e2⟩, _, _, g⟩ := hT
  obtain ⟨⟨w1, w2⟩, w3, w4⟩ := hw
  obtain ⟨t1, t2, t3, t4⟩ := tE_b Z sz f hf
  have kk : (kD Z sz f = 1 ↔ gi c 94 2 = 1) := by
    rw [e1]
    exact (iz_inj (b := 1) (by omega) (by omega) (by omega) (by omega)).symm.symm.trans ⟨fun q => by omega, fun q => by omega⟩ |>.symm
  have ks : (kD Z sz f = 1 ↔ gi m 510 21 = 2) := by
    rw [e2]
    have sb : srt (kD Z sz f) ≤ 4 := by
      unfold srt
      by_cases q0 : kD Z sz f = 0
      · rw [if_pos q0]; omega
      rw [if_neg q0]
      by_cases q1 : kD Z sz f = 1
      · rw [if_pos q1]; omega
      rw [if_neg q1]
      by_cases q2 : kD Z sz f = 2
      · rw [if_pos q2]; omega
      rw [if_neg q2]
      by_cases q3 : kD Z sz f = 3
      · rw [if_pos q3]; omega
      · rw [if_neg q3]; omega
    have i := iz_inj (a := (srt (kD Z sz f) : Nat)) (b := 2) (by omega) (by omega) (by omega) (by omega)
    refine Iff.trans ?_ i.symm
    unfold srt
    by_cases q0 : kD Z sz f = 0
    · rw [if_pos q0]; omega
    rw [if_neg q0]
    by_cases q1 : kD Z sz f = 1
    · rw [if_pos q1]; omega
    rw [if_neg q1]
    by_cases q2 : kD Z sz f = 2
    · rw [if_pos q2]; omega
    rw [if_neg q2]
    by_cases q3 : kD Z sz f = 3
    · rw [if_pos q3]; omega
    · rw [if_neg q3]; omega
  by_cases k1 : kD Z sz f = 1
  · have let_ : ∀ i : Nat, f ≤ i → i < tE Z sz f → 97 ≤ Z i ∧ Z i ≤ 122 := fun i q1 q2 => by
      have kd := k1
      unfold kD at kd
      unfold tE at q2
      by_cases e : sz ≤ f
      · rw [if_pos e] at kd; omega
      rw [if_neg e] at kd q2
      by_cases L : isLt (Z f) = true
      · rw [if_pos L] at q2
        have := (rn_b Z isLt (sz - f) f).2.2 i q1 q2
        unfold isLt at this
        rw [decide_eq_true_eq] at this
        exact this
      · rw [if_neg L] at kd
        by_cases D : isDg (Z f) = true
        · rw [if_pos D] at kd
          by_cases y : tE Z sz f - f ≤ 3
          · rw [if_pos y] at kd; omega
          · rw [if_neg y] at kd; omega
        · rw [if_neg D] at kd
          by_cases G : isSg (Z f) = true
          · rw [if_pos G] at kd; omega
          · rw [if_neg G] at kd; omega
    have gm := g k1
    have sub : iz (tE Z sz f : Nat) - iz (f : Int) = iz ((tE Z sz f - f : Nat) : Int) := by
      rw [iz_sub]
      exact congrArg iz (by omega)
    have key : (gl m 510 23 = W ↔ tE Z sz f - f = sLen.getD w 0 ∧ ∀ i : Nat, i < sLen.getD w 0 → Z (f + i) = chW w i) := by
      rw [gm]
      by_cases y : tE Z sz f - f ≤ 8
      · have lz : ∀ i : Nat, i < tE Z sz f - f → 1 ≤ Z (f + i) ∧ Z (f + i) ≤ 255 := fun i hi => by
          have := let_ (f + i) (by omega) (by omega)
          omega
        rw [if_pos y, i64_nat, wd_pn Z f _ y lz, w3]
        constructor
        · intro q
          obtain ⟨q1, q2⟩ := pn_inj _ _ lz (fun i hi => by have := w2 i hi; omega) q
          exact ⟨q1, fun i hi => q2 i (by omega)⟩
        · rintro ⟨q1, q2⟩
          rw [q1]
          exact pn_same _ q2
      · rw [if_neg y]
        exact ⟨fun q => absurd q.symm w4, fun q => by omega⟩
    have mI : F_X10_isWord Z0.1 N 510 W m = some (if gl m 510 23 = W then 1 else 0, m) := by
      rw [F_X10_isWord_s, if_pos (ks.mp k1)]
      by_cases q : gl m 510 23 = W
      · rw [if_pos ((lg0 _ _).mpr q), if_pos q]
      · rw [if_neg (fun z => q ((lg0 _ _).mp z)), if_neg q]
    by_cases len : tE Z sz f - f = sLen.getD w 0
    · obtain ⟨b, b0, b1', b2'⟩ := c_isW36 N w f sz Z c w1 w2 h5 (by omega) a1 c1 b1 (sLen.getD w 0) 0 N (by omega) (by omega)
      have kb : gl m 510 23 = W ↔ b = 1 := key.trans ⟨fun q => b2'.mpr (fun i _ hi => q.2 i hi), fun q => ⟨len, fun i hi => b2'.mp q i (by omega) hi⟩⟩
      refine ⟨b, b0, ?_, ?_, fun _ => k1, ?_⟩
      · rw [F_X6_isWord_s, if_neg h6, if_pos (kk.mp k1), c1, d1, sub, w1.2, if_pos (congrArg iz (by omega))]
        exact b1'
      · rw [mI]
        rcases b0 with z | z
        · rw [if_neg (fun q => by have := kb.mp q; rw [z] at this; exact absurd this (by decide)), z]
        · rw [if_pos (kb.mpr z), z]
      · rw [if_pos (ks.mp k1), lg0]
        exact kb
    · refine ⟨0, Or.inl rfl, ?_, ?_, fun q => absurd q (by decide), ?_⟩
      · rw [F_X6_isWord_s, if_neg h6, if_pos (kk.mp k1), c1, d1, sub, w1.2, if_neg (iz_nei (by omega))]
      · rw [mI, if_neg (fun q => len (key.mp q).1)]
      · rw [if_pos (ks.mp k1), lg0]
        exact ⟨fun q => absurd (key.mp q).1 len, fun q => absurd q (by decide)⟩
  · refine ⟨0, Or.inl rfl, ?_, ?_, fun q => absurd q (by decide), ?_⟩
    · rw [F_X6_isWord_s, if_neg h6, if_neg (fun q => k1 (kk.mpr q))]
    · rw [F_X10_isWord_s, if_neg (fun q => k1 (ks.mpr q))]
    · rw [if_neg (fun q => k1 (ks.mpr q)), lg0]
      exact ⟨fun q => absurd q.symm w4, fun q => absurd q (by decide)⟩
theorem wok_size : WOK 0 1936292453 := by unfold WOK; decide +kernel
theorem wok_wall : WOK 1 2002873452 := by unfold WOK; decide +kernel
theorem wok_walker : WOK 2 131260314510706 := by unfold WOK; decide +kernel
theorem wok_east : WOK 3 1700885364 := by unfold WOK; decide +kernel
theorem wok_west : WOK 4 2003137396 := by unfold WOK; decide +kernel
theorem wok_pace : WOK 5 1885430629 := by unfold WOK; decide +kernel
theorem wok_late : WOK 6 1818326117 := by unfold WOK; decide +kernel
theorem wok_haste : WOK 7 448311555173 := by unfold WOK; decide +kernel
theorem wok_hand : WOK 8 1751215716 := by unfold WOK; decide +kernel
theorem wok_right : WOK 9 491394656372 := by unfold WOK; decide +kernel
theorem wok_left : WOK 10 1818584692 := by unfold WOK; decide +kernel
theorem wok_friends : WOK 11 28836244623352947 := by unfold WOK; decide +kernel
