/-! reading a PASSAGE: walls, walkers -/
def frLC (c c' : DY) : Prop := (∀ x k : Nat, ¬ (94 ≤ x ∧ x ≤ 111) → gi c' x k = gi c x k)
def frLM (m m' : DY) : Prop := (∀ x k : Nat, ¬ (x = 510 ∨ 528 ≤ x ∧ x ≤ 530) → gi m' x k = gi m x k)
theorem frLC_re (c : DY) : frLC c c := fun _ _ _ => rfl
theorem frLM_re (c : DY) : frLM c c := fun _ _ _ => rfl
theorem frLC_tr {a b c : DY} (h : frLC a b) (k : frLC b c) : frLC a c := fun x y q => (k x y q).trans (h x y q)
theorem frLM_tr {a b c : DY} (h : frLM a b) (k : frLM b c) : frLM a c := fun x y q => (k x y q).trans (h x y q)
theorem frLC_P {a b : DY} (h : frP a b) : frLC a b := fun x y q => h.1 x y (by omega)
theorem frLM_Q {a b : DY} (h : frQ a b) : frLM a b := fun x y q => h.1 x y (by omega)
/-- what a line leaves -/
def LO (c m c' m' : DY) (v : Int32) (Z : Nat → Int) (sz f : Nat) : Prop := frLC c c' ∧ frLM m m' ∧ ((v = 0 ∧ ∃ w : Nat, BRK c' m' w) ∨ (v = 1 ∧ ∃ f' : Nat, TKS c' m' Z sz f' ∧ f < f' ∧ FLT c' m' f' ∧ (gi c' 94 6 = 0 → gi c 94 6 = 0) ∧ PS c' m'))
/-- what two NUMBERS for a SQUARE leave -/
def SQ (c c2 m' : DY) (f f' : Nat) (u v : Int) : Prop := (gi c2 94 6 = 0 ∧ gi c 94 6 = 0 ∧ gi c2 94 7 = -1 ∧ gi m' 510 28 = 1 ∧ ∃ (L W n : Nat), (L ≤ 16 ∧ W ≤ 6 ∧ n ≤ 12) ∧ gi c 95 0 = iz L ∧ gi c 95 1 = iz W ∧ gi c 95 3 = iz n ∧ u < L ∧ v < W ∧ ((tkU (gi c 97) (gi c 98) (iz u) (iz v) (gi c 96 (6 * u + v).toNat) n 0 = 0 ∧ gi m' 510 25 = 0) ∨ (tkU (gi c 97) (gi c 98) (iz u) (iz v) (gi c 96 (6 * u + v).toNat) n 0 = 1 ∧ gi m' 510 25 = 4 ∧ gi m' 510 26 = iz f))) ∨ (gi c2 94 6 ≠ 0 ∧ FLT c2 m' f')
theorem open_both {c c2 c3 m' m3 : DY} {f f' : Nat} {u v : Int} (N : Nat) (hN : 900 ≤ N) (hf : f ≤ 500) (hff : f < f') (hu : 0 ≤ u ∧ 0 ≤ v) (hP : PS c m') (h : SQ c c2 m' f f' u v) (s6 : gi c3 94 6 = gi c2 94 6) (s7 : gi c3 94 7 = gi c2 94 7) (g : ∀ x k : Nat, 95 ≤ x → x ≤ 104 → gi c3 x k = gi c x k) (s25 : gi m3 510 25 = gi m' 510 25) (s26 : gi m3 510 26 = gi m' 510 26) : ∃ (b : Int32) (c4 : DY), F_X5_isOpen Z0.1 N 238 (iz u) (iz v) (iz f) c3 = some (b, c4) ∧ FLT c4 m3 f' ∧ (∀ x k : Nat, ¬ (x = 94 ∧ (k = 6 ∨ k = 7)) → gi c4 x k = gi c3 x k) ∧ (∀ x k : Nat, gl c4 x k = gl c3 x k) ∧ ((b = 0 ∧ gi c4 94 6 ≠ 0) ∨ (b = 1 ∧ c4 = c3 ∧ gi c3 94 6 = 0 ∧ gi c 94 6 = 0 ∧ gi m' 510 28 = 1 ∧ ∃ (L W n : Nat), (L ≤ 16 ∧ W ≤ 6 ∧ n ≤ 12) ∧ gi c 95 0 = iz L ∧ gi c 95 1 = iz W ∧ gi c 95 3 = iz n ∧ u < L ∧ v < W ∧ tkU (gi c 97) (gi c 98) (iz u) (iz v) (gi c 96 (6 * u + v).toNat) n 0 = 0)) := by
  have n1 : ¬ (1 : Int32) = 0 := by decide
  have o31 : ∀ d : DY, F_X5_isOpen_31 Z0.1 N 238 d = some (if gi d 94 6 = 0 then 1 else 0, d) := fun d => by
    rw [F_X5_isOpen_31_s, r_238_0, c_sound, sb_eq]
    by_cases z : gi d 94 6 = 0
    · rw [if_pos z]; exact if_pos (show zb (1 : Int32) by decide)
    · rw [if_neg z]; exact if_pos (show zb (0 : Int32) by decide)
  have F := F_X5_isOpen_s Z0.1 N 238 (iz u) (iz v) (iz f) c3
  rw [r_238_0, r_238_1, c_sound, sb_eq, s6] at F
  rcases h with ⟨a1, a2, a3, a4, L, W, n, ⟨p1, p2, p3⟩, g0, g1, g3, uL, vW, alt⟩ | ⟨uns, fl⟩
  · obtain ⟨L', W', n', _, ⟨_, _⟩, ⟨_, _⟩, ⟨_, _⟩, _, hw, _⟩ := hP.2.2 a2
    have tk := c_taken N c3 L W n u.toNat v.toNat p1 p2 p3 (by rw [g 95 0 (by omega) (by omega)]; exact g0) (by rw [g 95 1 (by omega) (by omega)]; exact g1) (by rw [g 95 3 (by omega) (by omega)]; exact g3) (fun i hi => by rw [g 96 i (by omega) (by omega)]; exact (hw i hi).2) (by omega) (by omega) n 0 N (by omega) (by omega)
    rw [show gi c3 97 = gi c 97 from funext fun i => g 97 i (by omega) (by omega), show gi c3 98 = gi c 98 from funext fun i => g 98 i (by omega) (by omega), g 96 _ (by omega) (by omega), show ((u.toNat : Nat) : Int) = u by omega, show ((v.toNat : Nat) : Int) = v by omega, show 6 * u.toNat + v.toNat = (6 * u + v).toNat by omega] at tk
    have tk2 : F_X4_isTaken Z0.1 N 95 (iz u) (iz v) c3 = _ := (F_X4_isTaken_s Z0.1 N 95 (iz u) (iz v) c3).trans tk
    rw [if_pos a1, if_neg n1] at F
    rcases alt with ⟨t, t25⟩ | ⟨t, t25, t26⟩
    · rw [t] at tk2
      refine ⟨1, c3, F.trans (bnd tk2 ((if_pos rfl).trans ?_)), Or.inl ⟨s6.trans a1, s7.trans a3, s25.trans t25⟩, fun _ _ _ => rfl, fun _ _ => rfl, Or.inr ⟨rfl, rfl, s6.trans a1, a2, a4, L, W, n, ⟨p1, p2, p3⟩, g0, g1, g3, uL, vW, t⟩⟩
      rw [o31, if_pos (s6.trans a1)]
    · rw [t] at tk2
      obtain ⟨c4, hc4⟩ : ∃ c4 : DY, c4 = si (si c3 94 6 4) 94 7 (iz f) := ⟨_, rfl⟩
      have nt : F_X6_note Z0.1 N 94 (4 : Int32) (iz f) c3 = some c4 := by rw [F_X6_note_s, if_pos (s6.trans a1), bd_eq, bd_eq, hc4]
      have c46 : gi c4 94 6 = 4 := by rw [hc4, gi_si_if, if_neg (by omega), gi_si_if, if_pos ⟨rfl, rfl⟩]
      refine ⟨0, c4, F.trans (bnd tk2 ((if_neg n1).trans (bnd nt ?_))), Or.inr ⟨4, f, by omega, ⟨hff, hf⟩, c46, ?_, s25.trans t25, s26.trans t26⟩, fun x k q => ?_, fun x k => by rw [hc4]; rfl, Or.inl ⟨rfl, by rw [c46]; decide⟩⟩
      · rw [o31, if_neg (by rw [c46]; decide)]
      · rw [hc4, gi_si_if, if_pos ⟨rfl, rfl⟩]
      · rw [hc4, gi_si_if, if_neg (by omega), gi_si_if, if_neg (by omega)]
  · rw [if_neg uns, if_pos rfl] at F
    refine ⟨0, c3, F.trans ?_, FLT_cells fl s6 s7 s25 s26, fun _ _ _ => rfl, fun _ _ => rfl, Or.inl ⟨rfl, by rw [s6]; exact uns⟩⟩
    rw [o31, s6, if_neg uns]
theorem b_open (N : Nat) (x y z : Int32) (c : DY) (h : gi c 94 6 = 1) : F_X5_isOpen Z0.1 N 238 x y z c = some (0, c) := by
  rw [F_X5_isOpen_s, r_238_0, b_sound N c h, sb_eq, if_pos rfl, F_X5_isOpen_31_s, r_238_0, b_sound N c h, sb_eq]
  exact if_pos (show zb (0 : Int32) by decide)
theorem GRN_wall {c m : DY} {x y : Nat} (h : GRN c m) (L W : Nat) (hL : gi c 95 0 = iz L) (hW : gi c 95 1 = iz W) (hb : L ≤ 16 ∧ W ≤ 6) (hx : x < L) (hy : y < W) : GRN (si (si c 96 (6 * x + y) 1) 95 2 (gi c 95 2 + 1)) (si (si m 510 32 (gi m 510 32 + 1)) 528 (6 * x + y) 1) := by
  obtain ⟨L', W', n, a, ⟨b1, b2⟩, ⟨d1, d2⟩, ⟨e1, e2⟩, f, g, g2, w, s⟩ := h
  have eL : L' = L := by
    have := b1.symm.trans hL
    rw [iz_inj (by omega) (by omega) (by omega) (by omega)] at this
    omega
  have eW : W' = W := by
    have := d1.symm.trans hW
    rw [iz_inj (by omega) (by omega) (by omega) (by omega)] at this
    omega
  have oc : ∀ z k : Nat, ¬ (z = 96 ∧ k = 6 * x + y) → ¬ (z = 95 ∧ k = 2) → gi (si (si c 96 (6 * x + y) 1) 95 2 (gi c 95 2 + 1)) z k = gi c z k := fun z k q1 q2 => by rw [gi_si_if, if_neg q2, gi_si_if, if_neg q1]
  have om : ∀ z k : Nat, ¬ (z = 528 ∧ k = 6 * x + y) → ¬ (z = 510 ∧ k = 32) → gi (si (si m 510 32 (gi m 510 32 + 1)) 528 (6 * x + y) 1) z k = gi m z k := fun z k q1 q2 => by rw [gi_si_if, if_neg q1, gi_si_if, if_neg q2]
  refine ⟨L', W', n, a, ⟨(oc _ _ (by omega) (by omega)).trans b1, (om _ _ (by omega) (by omega)).trans b2⟩, ⟨(oc _ _ (by omega) (by omega)).trans d1, (om _ _ (by omega) (by omega)).trans d2⟩, ⟨(oc _ _ (by omega) (by omega)).trans e1, (om _ _ (by omega) (by omega)).trans e2⟩, ?_, fun i hi => ?_, fun x' y' hx' hy' => ?_, fun i hi => ?_, fun i j hi hj => ?_⟩
  · rw [gi_si_if, if_pos ⟨rfl, rfl⟩, gi_si_if, if_neg (by omega), gi_si_if, if_pos ⟨rfl, rfl⟩, f]
  · rw [gi_si_if, if_neg (by omega), gi_si_if, gi_si_if]
    by_cases z : i = 6 * x + y
    · rw [if_pos ⟨rfl, z⟩, if_pos ⟨rfl, z⟩]
      exact ⟨rfl, Or.inr rfl⟩
    · rw [if_neg (fun q => z q.2), if_neg (fun q => z q.2), gi_si_if, if_neg (by omega)]
      exact g i hi
  · rw [gi_si_if, if_neg (by omega), gi_si_if]
    by_cases z : 6 * x' + y' = 6 * x + y
    · intro _
      omega
    · rw [if_neg (fun q => z q.2)]
      exact g2 x' y' hx' hy'
  · unfold WKG
    rw [oc 97 i (by omega) (by omega), oc 98 i (by omega) (by omega), oc 99 i (by omega) (by omega), oc 100 i (by omega) (by omega), oc 101 i (by omega) (by omega), oc 102 i (by omega) (by omega), oc 103 i (by omega) (by omega), oc 104 i (by omega) (by omega), om 529 _ (by omega) (by omega), om 529 _ (by omega) (by omega), om 529 _ (by omega) (by omega), om 529 _ (by omega) (by omega), om 529 _ (by omega) (by omega), om 529 _ (by omega) (by omega), om 529 _ (by omega) (by omega), om 529 _ (by omega) (by omega)]
    exact w i hi
  · rw [oc 104 i (by omega) (by omega), oc 104 j (by omega) (by omega)]; exact s i j hi hj
theorem wall_line {c m : DY} {Z : Nat → Int} {sz f : Nat} (N : Nat) (hN : 900 ≤ N) (hT : TKS c m Z sz f) (hF : FLT c m f) (hP : PS c m) (hg : gi m 510 28 = 1) : ∃ (c' m' : DY) (v : Int32), F_X5_readWall Z0.1 N 238 c = some c' ∧ F_X10_wallLine Z0.1 N 510 m = some (v, m') ∧ LO c m c' m' v Z sz f := by
  have n1 : ¬ (1 : Int32) = 0 := by decide
  obtain ⟨x, y, c1, c2, k1, k2, fp, alt⟩ := sq_both N hN hT hF hP hg
  have f500 : f ≤ 500 := by have := hT.1; omega
  have C0 := F_X5_readWall_s Z0.1 N 238 c
  rw [r_238_0, r_238_1, hT.2.2.2.1.1] at C0
  rcases alt with ⟨m', w, r1, r2, r3⟩ | ⟨m', f', u, v, r1, fq, T2, ff, ⟨rfl, rfl, u0, u9, v0, v9⟩, g35, gd, sq⟩
  · refine ⟨c2, m', 0, ?_, ?_, frLC_P fp, frLM_Q r3, Or.inl ⟨rfl, w, r2⟩⟩
    · refine C0.trans (bnd k1 (bnd k2 (bnd (b_open N x y (iz f) c2 r2.1) ?_)))
      exact if_pos rfl
    · rw [F_X10_wallLine_s]
      exact bnd r1 (if_pos rfl)
  · have hP' : PS c m' := ⟨hP.1, RWF_fr hP.2.1 (fun x k q => fq.1 _ _ (by omega)), fun z => GRN_fr (hP.2.2 z) (fun _ _ _ _ => rfl) (fun x k q => fq.1 _ _ (by omega))⟩
    obtain ⟨b, c4, o1, o2, o3, o4, o5⟩ := open_both (c3 := c2) (m3 := m') N hN f500 ff ⟨u0, v0⟩ hP' sq rfl rfl (fun x k q1 q2 => fp.1 _ _ (by omega)) rfl rfl
    have fp4 : frP c c4 := frP_tr fp ⟨fun x k q => o3 x k (by omega), o4⟩
    have T4 : TKS c4 m' Z sz f' := TKS_fr T2 (fun x k q => o3 x k (by omega)) (fun _ _ _ => rfl) rfl
    have M0 := F_X10_wallLine_s Z0.1 N 510 m
    rw [r1, sb_eq, if_neg n1] at M0
    rcases o5 with ⟨b0, uns⟩ | ⟨b1, rfl, snd, snd0, g1, L, W, n, ⟨p1, p2, p3⟩, g0, gw, g3, uL, vW, t⟩
    · -- nothing is laid by the class any more
      rw [b0] at o1
      have cres : F_X5_readWall Z0.1 N 238 c = some c4 := C0.trans (bnd k1 (bnd k2 (bnd o1 (if_pos rfl))))
      have mres : ∃ m4 : DY, F_X10_wallLine Z0.1 N 510 m = some (1, m4) ∧ (∀ x k : Nat, ¬ (x = 510 ∧ k = 32) → x ≠ 528 → gi m4 x k = gi m' x k) ∧ ∀ x k : Nat, gl m4 x k = gl m' x k := by
        rcases gd with z | ⟨z, ub, vb⟩
        · refine ⟨m', M0.trans ?_, fun _ _ _ _ => rfl, fun _ _ => rfl⟩
          rw [z, if_pos (by decide)]
        · have w38 : ∀ e : Int32, F_X10_wallLine_38 Z0.1 N 510 510 (gi m' 510 32) e m' = some (1, si (si m' 510 32 (gi m' 510 32 + e)) 528 (6 * u + v).toNat 1) := fun e => by
            rw [F_X10_wallLine_38_s, bd_eq, show gi (si m' 510 32 (gi m' 510 32 + e)) 510 35 = iz (6 * u + v) from by rw [gi_si_if, if_neg (by omega)]; exact g35, if_pos (show ib (iz (6 * u + v)) 96 from iz_ib (by omega)), bd_eq, r_510_33, tnn _ (6 * u + v).toNat (by omega) (by omega)]
          rw [z, if_neg (by decide), g35, if_pos (show ib (iz (6 * u + v)) 96 from iz_ib (by omega)), w38, w38] at M0
          by_cases y : gi m' (gr Z0.1 510 33) (iz (6 * u + v)).toNatClampNeg = 0
          · rw [if_pos y] at M0
            exact ⟨_, M0, fun x k q1 q2 => by rw [gi_si_if, if_neg (by omega), gi_si_if, if_neg (by omega)], fun _ _ => rfl⟩
          · rw [if_neg y] at M0
            exact ⟨_, M0, fun x k q1 q2 => by rw [gi_si_if, if_neg (by omega), gi_si_if, if_neg (by omega)], fun _ _ => rfl⟩
      obtain ⟨m4, m1, m2, m3⟩ := mres
      refine ⟨c4, m4, 1, cres, m1, frLC_P fp4, frLM_tr (frLM_Q fq) (fun x k q => m2 x k (by omega) (by omega)), Or.inr ⟨rfl, f', TKS_fr T4 (fun _ _ _ => rfl) (fun x k q => m2 x k (by omega) (by omega)) (m3 _ _), ff, FLT_cells o2 rfl rfl (m2 _ _ (by omega) (by omega)) (m2 _ _ (by omega) (by omega)), fun z => absurd z uns, CWF_fr hP.1 (fun k => fp4.1 _ _ (by omega)), RWF_fr hP'.2.1 (fun x k q => m2 _ _ (by omega) (by omega)), fun z => absurd z uns⟩⟩
    · -- both lay the wall
      rw [b1] at o1
      have hG := hP'.2.2 snd0
      obtain ⟨xu, rfl⟩ : ∃ xu : Nat, u = xu := ⟨u.toNat, by omega⟩
      obtain ⟨yv, rfl⟩ : ∃ yv : Nat, v = yv := ⟨v.toNat, by omega⟩
      have ep : (6 * (xu : Int) + (yv : Int)).toNat = 6 * xu + yv := by omega
      obtain ⟨_, _, _, _, _, _, _, _, hw, _⟩ := id hG
      obtain ⟨w1, w2⟩ := hw (6 * xu + yv) (by omega)
      have wz : gi c 96 (6 * xu + yv) = 0 := by
        rcases w2 with z | z
        · exact z
        · rw [ep, z, (tkU_b _ _ _ _ n 0).1] at t
          exact absurd t (by decide)
      have cs := c_setW N c4 L W xu yv 1 0 p1 p2 ((fp.1 _ _ (by omega)).trans g0) ((fp.1 _ _ (by omega)).trans gw) (by omega) (by omega) (Or.inl rfl) ((fp.1 _ _ (by omega)).trans wz) (by decide)
      rw [if_neg n1, fp.1 95 2 (by omega)] at cs
      have G2 := GRN_wall hG L W g0 gw ⟨p1, p2⟩ (x := xu) (y := yv) (by omega) (by omega)
      have e35 : (iz (6 * (xu : Int) + (yv : Int))).toNatClampNeg = 6 * xu + yv := tnn _ _ (by omega) (by omega)
      have w38 : F_X10_wallLine_38 Z0.1 N 510 510 (gi m' 510 32) 1 m' = some (1, si (si m' 510 32 (gi m' 510 32 + 1)) 528 (6 * xu + yv) 1) := by
        rw [F_X10_wallLine_38_s, bd_eq, show gi (si m' 510 32 (gi m' 510 32 + 1)) 510 35 = iz (6 * (xu : Int) + (yv : Int)) from by rw [gi_si_if, if_neg (by omega)]; exact g35, if_pos (show ib (iz (6 * (xu : Int) + (yv : Int))) 96 from iz_ib (by omega)), bd_eq, r_510_33, e35]
      rw [g1, if_neg (by decide), g35, if_pos (show ib (iz (6 * (xu : Int) + (yv : Int))) 96 from iz_ib (by omega)), r_510_33, e35, ← w1, wz, if_pos rfl, w38] at M0
      refine ⟨_, _, 1, C0.trans (bnd k1 (bnd k2 (bnd o1 ((if_neg n1).trans (bnd cs rfl))))), M0, frLC_tr (frLC_P fp) (fun x k q => by rw [gi_si_if, if_neg (by omega), gi_si_if, if_neg (by omega)]), frLM_tr (frLM_Q fq) (fun x k q => by rw [gi_si_if, if_neg (by omega), gi_si_if, if_neg (by omega)]), Or.inr ⟨rfl, f', TKS_fr T4 (fun x k q => by rw [gi_si_if, if_neg (by omega), gi_si_if, if_neg (by omega)]) (fun x k q => by rw [gi_si_if, if_neg (by omega), gi_si_if, if_neg (by omega)]) rfl, ff, FLT_cells o2 (by rw [gi_si_if, if_neg (by omega), gi_si_if, if_neg (by omega)]) (by rw [gi_si_if, if_neg (by omega), gi_si_if, if_neg (by omega)]) (by rw [gi_si_if, if_neg (by omega), gi_si_if, if_neg (by omega)]) (by rw [gi_si_if, if_neg (by omega), gi_si_if, if_neg (by omega)]), fun _ => snd0, ⟨L, W, n, ⟨p1, p2, p3⟩, ?_, ?_, ?_⟩, RWF_fr hP'.2.1 (fun x k q => by rw [gi_si_if, if_neg (by omega), gi_si_if, if_neg (by omega)]), fun _ => GRN_fr G2 (fun x k q1 q2 => ?_) (fun _ _ _ => rfl)⟩⟩
      · rw [gi_si_if, if_neg (by omega), gi_si_if, if_neg (by omega), fp.1 95 0 (by omega)]; exact g0
      · rw [gi_si_if, if_neg (by omega), gi_si_if, if_neg (by omega), fp.1 95 1 (by omega)]; exact gw
      · rw [gi_si_if, if_neg (by omega), gi_si_if, if_neg (by omega), fp.1 95 3 (by omega)]; exact g3
      · rw [gi_si_if, gi_si_if, gi_si_if, gi_si_if, fp.1 x k (by omega)]
