/-! what he does, by the rules -/
def soI (s v n : Int32) : Int32 := if s = 0 then (if v < n then 1 else 0) else if s = 1 then (if n < v then 1 else 0) else (if v = n then 1 else 0)
/-- test at holds -/
def htI (d : DY) (l : Nat) (v : Nat → Int32) (at' : Nat) : Int32 := if soI (gi d (l + 4) at') (v (gi d (l + 3) at').toNatClampNeg) (gi d (l + 5) at') = gi d (l + 6) at' then 0 else 1
def alT (d : DY) (l : Nat) (v : Nat → Int32) (r t : Nat) : Prop := ∀ k : Nat, k < t → htI d l v (4 * r + k) = 1
/-- the deed of the first rule that holds -/
def DFc (d : DY) (l : Nat) (v : Nat → Int32) (R : Nat) (x : Int32) : Prop := (x = 5 ∧ ∀ q : Nat, q < R → ¬ alT d l v q (gi d (l + 2) q).toNatClampNeg) ∨ ∃ q : Nat, q < R ∧ alT d l v q (gi d (l + 2) q).toNatClampNeg ∧ (∀ q' : Nat, q' < q → ¬ alT d l v q' (gi d (l + 2) q').toNatClampNeg) ∧ x = gi d (l + 1) q
theorem soI_01 (s v n : Int32) : soI s v n = 0 ∨ soI s v n = 1 := by
  unfold soI
  by_cases a : s = 0
  · rw [if_pos a]
    by_cases b : v < n
    · rw [if_pos b]; exact Or.inr rfl
    · rw [if_neg b]; exact Or.inl rfl
  · rw [if_neg a]
    by_cases a2 : s = 1
    · rw [if_pos a2]
      by_cases b : n < v
      · rw [if_pos b]; exact Or.inr rfl
      · rw [if_neg b]; exact Or.inl rfl
    · rw [if_neg a2]
      by_cases b : v = n
      · rw [if_pos b]; exact Or.inr rfl
      · rw [if_neg b]; exact Or.inl rfl
theorem htI_01 (d : DY) (l : Nat) (v : Nat → Int32) (k : Nat) : htI d l v k = 0 ∨ htI d l v k = 1 := by
  unfold htI
  by_cases q : soI (gi d (l + 4) k) (v (gi d (l + 3) k).toNatClampNeg) (gi d (l + 5) k) = gi d (l + 6) k
  · rw [if_pos q]; exact Or.inl rfl
  · rw [if_neg q]; exact Or.inr rfl
theorem c_tst {dS : DY} (N k : Nat) (d0 d : DY) (g l w : Nat) (q j t : Nat) (c o : Nat) (hG : CVg g l w) (hk : lkC w d0 dS d) (hq : q < 16) (hj : j < 4) (ht : gi d0 (l + 2) q = iz t) (hjt : j < t) (ht4 : t ≤ 4) (hT : TR d0 l (4 * q + j) c o) : F_X2_holds_2 Z0.1 N 11 (k + 1) l (iz q) (w + 10) (iz j) d = if htI d0 l (fun j => gi d (w + 10) j) (4 * q + j) = 1 then F_X2_holds_2 Z0.1 N 11 k l (iz q) (w + 10) (iz ((j + 1 : Nat) : Int)) d else some (0, d) := by
  obtain ⟨dj, dj2⟩ := cv_dj hG
  obtain ⟨wh, wh10, t3, _, tn', _⟩ := hT
  have x : ∀ y z : Nat, y ≤ 6 → gi d (l + y) z = gi d0 (l + y) z := fun y z hy => hk.1 _ _ (by omega) (by omega)
  have m : iz (q : Int) * (4 : Int32) + iz (j : Int) = iz ((4 * q + j : Nat) : Int) := by
    rw [l_4, iz_mul, iz_add]; exact congrArg iz (by omega)
  have ia : ib (iz ((4 * q + j : Nat) : Int)) 64 := iz_ib (by omega)
  have ta : (iz ((4 * q + j : Nat) : Int)).toNatClampNeg = 4 * q + j := tnn _ _ rfl (by omega)
  have tw : (iz (wh : Int)).toNatClampNeg = wh := tnn _ _ rfl (by omega)
  have nb : nr 3 (gi d0 (l + 6) (4 * q + j)) = gi d0 (l + 6) (4 * q + j) := nr3_b _ (by
    rcases tn' with ⟨z, _⟩ | ⟨z, _⟩
    · exact Or.inl z
    · exact Or.inr z)
  have h143 : ∀ y : Int32, F_X2_holds_143 Z0.1 N 11 (F_X2_holds_2 Z0.1 N 11 k) l (iz q) (w + 10) (iz j) (iz ((4 * q + j : Nat) : Int)) y d = if y = gi d0 (l + 6) (4 * q + j) then some (0, d) else F_X2_holds_2 Z0.1 N 11 k l (iz q) (w + 10) (iz ((j + 1 : Nat) : Int)) d := fun y => by
    rw [F_X2_holds_143_s, if_pos ia, ta, cv_l6 hG, x 6 _ (by omega), nb, show iz (j : Int) + (1 : Int32) = iz ((j + 1 : Nat) : Int) from iz_add j 1]
  have h44 : ∀ y : Int32, F_X2_holds_44 Z0.1 N 11 (F_X2_holds_2 Z0.1 N 11 k) l (iz q) (w + 10) (iz j) (iz ((4 * q + j : Nat) : Int)) y d = if soI (gi d0 (l + 4) (4 * q + j)) y (gi d0 (l + 5) (4 * q + j)) = gi d0 (l + 6) (4 * q + j) then some (0, d) else F_X2_holds_2 Z0.1 N 11 k l (iz q) (w + 10) (iz ((j + 1 : Nat) : Int)) d := fun y => by
    rw [F_X2_holds_44_s, if_pos ia, ta, cv_l4 hG, cv_l5 hG, x 4 _ (by omega), x 5 _ (by omega), h143, h143]
    unfold soI
    by_cases a : gi d0 (l + 4) (4 * q + j) = 0
    · rw [if_pos a, if_pos a, if_pos ia]
      by_cases b : y < gi d0 (l + 5) (4 * q + j)
      · rw [if_neg (Int32.not_le.mpr b), if_pos b]
      · rw [if_pos (Int32.not_lt.mp b), if_neg b]
    · rw [if_neg a, if_neg a]
      by_cases a2 : gi d0 (l + 4) (4 * q + j) = 1
      · rw [if_pos a2, if_pos a2, if_pos ia]
        by_cases b : gi d0 (l + 5) (4 * q + j) < y
        · rw [if_neg (Int32.not_le.mpr b), if_pos b]
        · rw [if_pos (Int32.not_lt.mp b), if_neg b]
      · rw [if_neg a2, if_neg a2, if_pos ia]
        by_cases b : y = gi d0 (l + 5) (4 * q + j)
        · rw [if_pos b, if_pos b]
        · rw [if_neg b, if_neg b]
  rw [F_X2_holds_2_s, if_pos (show ib (iz (q : Int)) 16 from iz_ib (by omega)), cv_l2 hG, tnn _ q rfl (by omega), x 2 _ (by omega), ht, if_neg (show ¬ iz (t : Int) ≤ iz (j : Int) from iz_nle (by omega)), m, if_pos ia, ta, cv_l3 hG, x 3 _ (by omega), t3, if_neg (show ¬ Int32.ofNat 11 ≤ iz (wh : Int) from iz_nle (a := 11) (by omega)), if_pos ia, if_pos (show ib (iz (wh : Int)) 11 from iz_ib (by omega)), h44, tw]
  unfold htI
  rw [t3, tw]
  by_cases z : soI (gi d0 (l + 4) (4 * q + j)) (gi d (w + 10) wh) (gi d0 (l + 5) (4 * q + j)) = gi d0 (l + 6) (4 * q + j)
  · rw [if_pos z, if_pos z, if_neg (show ¬ (0 : Int32) = 1 from by decide)]
  · rw [if_neg z, if_neg z, if_pos rfl]
theorem c_holds2 {dS : DY} (N : Nat) (d0 d : DY) (g l w q t : Nat) (c o : Nat) (hG : CVg g l w) (hk : lkC w d0 dS d) (hq : q < 16) (ht : gi d0 (l + 2) q = iz t) (ht4 : t ≤ 4) (hT : ∀ j : Nat, j < t → TR d0 l (4 * q + j) c (o + 4 * j)) : ∀ (r k j : Nat), j + r = t → r < k → (∀ x : Nat, x < j → htI d0 l (fun j => gi d (w + 10) j) (4 * q + x) = 1) → (alT d0 l (fun j => gi d (w + 10) j) q t ∧ F_X2_holds_2 Z0.1 N 11 k l (iz q) (w + 10) (iz j) d = some (1, d)) ∨ (¬ alT d0 l (fun j => gi d (w + 10) j) q t ∧ F_X2_holds_2 Z0.1 N 11 k l (iz q) (w + 10) (iz j) d = some (0, d)) := by
  have dj2 := (cv_dj hG).2
  intro r
  induction r with
  | zero =>
    intro k j hj hk' hA
    obtain ⟨k, rfl⟩ : ∃ j, k = j + 1 := ⟨k - 1, by omega⟩
    refine Or.inl ⟨fun x hx => hA x (by omega), ?_⟩
    have x2 : gi d (l + 2) q = iz t := by rw [hk.1 _ _ (by omega) (by omega)]; exact ht
    rw [F_X2_holds_2_s, if_pos (show ib (iz (q : Int)) 16 from iz_ib (by omega)), cv_l2 hG, tnn _ q rfl (by omega), x2, if_pos (iz_lei (by omega))]
  | succ r ih =>
    intro k j hj hk' hA
    obtain ⟨k, rfl⟩ : ∃ j, k = j + 1 := ⟨k - 1, by omega⟩
    rw [c_tst N k d0 d g l w q j t c (o + 4 * j) hG hk hq (by omega) ht (by omega) ht4 (hT j (by omega))]
    by_cases z : htI d0 l (fun j => gi d (w + 10) j) (4 * q + j) = 1
    · rw [if_pos z]
      exact ih k (j + 1) (by omega) (by omega) (fun x hx => by
        rcases Nat.lt_or_ge x j with y | y
        · exact hA x y
        · rw [show x = j by omega]; exact z)
    · rw [if_neg z]
      exact Or.inr ⟨fun y => z (y j (by omega)), rfl⟩
theorem c_deedFor2 {dS : DY} (N : Nat) (d0 d : DY) (g l w R c o : Nat) (rn : Int32) (hN : 8 ≤ N) (hG : CVg g l w) (hk : lkC w d0 dS d) (hL : LR d0 l rn c o) (hR : gi d0 l 0 = iz R) (hR16 : R ≤ 16) : ∀ (p k q : Nat), q + p = R → p < k → (∀ q' : Nat, q' < q → ¬ alT d0 l (fun j => gi d (w + 10) j) q' (gi d0 (l + 2) q').toNatClampNeg) → ∃ x : Int32, F_X2_deedFor_2 Z0.1 N 11 k l (w + 10) (iz q) d = some (x, d) ∧ DFc d0 l (fun j => gi d (w + 10) j) R x := by
  have dj2 := (cv_dj hG).2
  obtain ⟨R', _, r1, _, r3⟩ := hL
  have hRR : R' = R := by
    rw [r1] at hR
    have := (iz_inj (by omega) (by omega) (by omega) (by omega)).mp hR
    omega
  subst hRR
  have x0 : gi d l 0 = iz (R' : Int) := by rw [hk.1 _ _ (by omega) (by omega)]; exact hR
  intro p
  induction p with
  | zero =>
    intro k q hq hk' hA
    obtain ⟨k, rfl⟩ : ∃ j, k = j + 1 := ⟨k - 1, by omega⟩
    refine ⟨5, ?_, Or.inl ⟨rfl, fun q' h => hA q' (by omega)⟩⟩
    rw [F_X2_deedFor_2_s, x0, if_pos (iz_lei (by omega))]
  | succ p ih =>
    intro k q hq hk' hA
    obtain ⟨k, rfl⟩ : ∃ j, k = j + 1 := ⟨k - 1, by omega⟩
    obtain ⟨⟨dd, _, e1, _⟩, t, t4, e2, _, hT⟩ := r3 q (by omega)
    have tt : (gi d0 (l + 2) q).toNatClampNeg = t := by rw [e2]; exact tnn _ t rfl (by omega)
    have hh := c_holds2 N d0 d g l w q t c (o + 18 * q + 2) hG hk (by omega) e2 t4 hT t N 0 (by omega) (by omega) (fun x hx => absurd hx (by omega))
    have e1' : gi d (l + 1) q = gi d0 (l + 1) q := hk.1 _ _ (by omega) (by omega)
    rw [F_X2_deedFor_2_s, x0, if_neg (show ¬ iz (R' : Int) ≤ iz (q : Int) from iz_nle (by omega)), show iz (q : Int) + (1 : Int32) = iz ((q + 1 : Nat) : Int) from iz_add q 1]
    rcases hh with ⟨h1, h2⟩ | ⟨h1, h2⟩
    · refine ⟨gi d0 (l + 1) q, ?_, Or.inr ⟨q, by omega, by rw [tt]; exact h1, hA, rfl⟩⟩
      refine bnd (show F_X2_holds Z0.1 N 11 l (iz q) (w + 10) d = some (1, d) from by rw [F_X2_holds_s]; exact h2) ?_
      show (if (1 : Int32) = 0 then _ else _) = _
      rw [if_neg (by decide : ¬ (1 : Int32) = 0), if_pos (show ib (iz (q : Int)) 16 from iz_ib (by omega)), cv_l1 hG, tnn _ q rfl (by omega)]
      show some (gi d (l + 1) q, d) = _
      rw [e1']
    · obtain ⟨x, u1, u2⟩ := ih k (q + 1) (by omega) (by omega) (fun q' hq' => by
        rcases Nat.lt_or_ge q' q with y | y
        · exact hA q' y
        · rw [show q' = q by omega, tt]; exact h1)
      refine ⟨x, ?_, u2⟩
      refine bnd (show F_X2_holds Z0.1 N 11 l (iz q) (w + 10) d = some (0, d) from by rw [F_X2_holds_s]; exact h2) ?_
      exact u1
theorem m_holds {dS : DY} (N : Nat) (d0 d : DY) (g l w r : Nat) (ι : Nat → Nat) (n M i k o : Nat) (v : Nat → Int32) (r14 : r < 14) (hk : lkM d0 dS d) (hs : SEEN d0 d g w i ι n M) (hfd : ∀ e : DY, lkM d0 dS e → SEEN d0 e g w i ι n M → ∀ wh : Nat, wh ≤ 10 → ∃ f : DY, lkM d0 dS f ∧ SEEN d0 f g w i ι n M ∧ F_X10_found Z0.1 N 510 (iz r) (iz (ι i : Nat)) (iz wh) e = some (v wh, f)) (hT : TR d0 l k 531 o) (ho : o + 3 < 10080) : ∃ f : DY, lkM d0 dS f ∧ SEEN d0 f g w i ι n M ∧ F_X10_holds Z0.1 N 510 (iz r) (iz (ι i : Nat)) (iz o) d = some (htI d0 l v k, f) := by
  obtain ⟨wh, wh10, t3, u3, tn', ts⟩ := hT
  obtain ⟨f, k1, k2, k3⟩ := hfd d hk hs wh wh10
  refine ⟨f, k1, k2, ?_⟩
  have tw : (iz (wh : Int)).toNatClampNeg = wh := tnn _ _ rfl (by omega)
  have o0 : gi d 531 o = iz wh := by rw [hk.1 531 _ (by decide) (by decide) (by decide)]; exact u3
  have o1 : gi f 531 (o + 1) = gi d0 531 (o + 1) := k1.1 531 _ (by decide) (by decide) (by decide)
  have o2 : gi f 531 (o + 2) = gi d0 531 (o + 2) := k1.1 531 _ (by decide) (by decide) (by decide)
  have o3 : gi f 531 (o + 3) = gi d0 531 (o + 3) := k1.1 531 _ (by decide) (by decide) (by decide)
  have a1 : iz (o : Int) + (1 : Int32) = iz ((o + 1 : Nat) : Int) := iz_add o 1
  have a2 : iz (o : Int) + (2 : Int32) = iz ((o + 2 : Nat) : Int) := iz_add o 2
  have a3 : iz (o : Int) + (3 : Int32) = iz ((o + 3 : Nat) : Int) := iz_add o 3
  have h111 : ∀ y : Int32, (y = 0 ∨ y = 1) → F_X10_holds_111 Z0.1 N 510 (iz o) y f = some (if y = gi d0 (l + 6) k then 0 else 1, f) := fun y hy => by
    rw [F_X10_holds_111_s, a3, if_pos (ibr _ (by omega)), r_510_39, tnn _ (o + 3) rfl (by omega), o3, F_X10_holds_131_s, F_X10_holds_131_s]
    rcases tn' with ⟨z1, z2⟩ | ⟨z1, z2⟩
    · rw [z1, z2, if_pos rfl]
      rcases hy with z | z
      · rw [z, if_neg (by decide), if_pos rfl]
      · rw [z, if_pos rfl, if_neg (by decide)]
    · rw [z1, z2, if_neg (by decide)]
      rcases hy with z | z
      · rw [z, if_pos rfl, if_neg (by decide)]
      · rw [z, if_neg (by decide), if_pos rfl]
  have fin : ∀ y : Int32, y = soI (gi d0 (l + 4) k) (v wh) (gi d0 (l + 5) k) → F_X10_holds_111 Z0.1 N 510 (iz o) y f = some (htI d0 l v k, f) := fun y hy => by
    rw [h111 y (by rw [hy]; exact soI_01 _ _ _), hy]
    unfold htI
    rw [t3, tw]
  rw [F_X10_holds_s, if_pos (ibr _ (by omega)), r_510_39, tnn _ o rfl (by omega), o0]
  refine bnd k3 ?_
  rw [a1, if_pos (ibr _ (by omega)), a2, if_pos (ibr _ (by omega)), tnn _ (o + 1) rfl (by omega), tnn _ (o + 2) rfl (by omega)]
  show (if gi f 531 (o + 1) = 60 then (if gi f 531 (o + 2) ≤ v wh then F_X10_holds_111 Z0.1 N 510 (iz o) 0 f else F_X10_holds_111 Z0.1 N 510 (iz o) 1 f) else (if gi f 531 (o + 1) = 62 then (if v wh ≤ gi f 531 (o + 2) then F_X10_holds_111 Z0.1 N 510 (iz o) 0 f else F_X10_holds_111 Z0.1 N 510 (iz o) 1 f) else (if gi f 531 (o + 1) = 61 then (if v wh = gi f 531 (o + 2) then F_X10_holds_111 Z0.1 N 510 (iz o) 1 f else F_X10_holds_111 Z0.1 N 510 (iz o) 0 f) else (if v wh = 1 then F_X10_holds_111 Z0.1 N 510 (iz o) 1 f else F_X10_holds_111 Z0.1 N 510 (iz o) 0 f)))) = _
  rw [o1, o2]
  rcases ts with ⟨_, s1, s2, s3⟩ | ⟨_, s1, ss⟩
  · rw [s3, if_neg (by decide), if_neg (by decide), if_neg (by decide)]
    by_cases c : v wh = 1
    · rw [if_pos c]
      exact fin 1 (by rw [s1, s2]; unfold soI; rw [if_neg (by decide), if_neg (by decide), if_pos c])
    · rw [if_neg c]
      exact fin 0 (by rw [s1, s2]; unfold soI; rw [if_neg (by decide), if_neg (by decide), if_neg c])
  · rw [← s1]
    rcases ss with ⟨x1, x2⟩ | ⟨x1, x2⟩ | ⟨x1, x2⟩
    · rw [x2, if_pos rfl]
      by_cases c : v wh < gi d0 (l + 5) k
      · rw [if_neg (Int32.not_le.mpr c)]
        exact fin 1 (by rw [x1]; unfold soI; rw [if_pos rfl, if_pos c])
      · rw [if_pos (Int32.not_lt.mp c)]
        exact fin 0 (by rw [x1]; unfold soI; rw [if_pos rfl, if_neg c])
    · rw [x2, if_neg (by decide), if_pos rfl]
      by_cases c : gi d0 (l + 5) k < v wh
      · rw [if_neg (Int32.not_le.mpr c)]
        exact fin 1 (by rw [x1]; unfold soI; rw [if_neg (by decide), if_pos rfl, if_pos c])
      · rw [if_pos (Int32.not_lt.mp c)]
        exact fin 0 (by rw [x1]; unfold soI; rw [if_neg (by decide), if_pos rfl, if_neg c])
    · rw [x2, if_neg (by decide), if_neg (by decide), if_pos rfl]
      by_cases c : v wh = gi d0 (l + 5) k
      · rw [if_pos c]
        exact fin 1 (by rw [x1]; unfold soI; rw [if_neg (by decide), if_neg (by decide), if_pos c])
      · rw [if_neg c]
        exact fin 0 (by rw [x1]; unfold soI; rw [if_neg (by decide), if_neg (by decide), if_neg c])
