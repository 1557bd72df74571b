/-! near, crowd, parted, soon -/
/-- a friend's number on both sides -/
def FRI (d : DY) (g r : Nat) (ι : Nat → Nat) (n M i : Nat) : Prop := (∃ j : Nat, j < n ∧ gi d (g + 9) i = iz j ∧ gi d 531 (720 * r + 16 + 20 * ι i + 13) = iz (ι j : Nat)) ∨ ((∀ j : Nat, j < n → gi d (g + 9) i ≠ iz j) ∧ (gi d 531 (720 * r + 16 + 20 * ι i + 13) = -1 ∨ ∃ a : Nat, a < M ∧ gi d 531 (720 * r + 16 + 20 * ι i + 13) = iz a ∧ ∀ j : Nat, j < n → ι j ≠ a))
theorem m_near10 {dS : DY} (N : Nat) (d0 d : DY) (g w r : Nat) (ι : Nat → Nat) (L W n M i : Nat) (x3 : Int32) (hv : MV d0 g w r ι L W n M) (hi : i < n) (hk : lkM d0 dS d) (hs : SEEN d0 d g w i ι n M) : ∀ (q k m c : Nat), m + q = M → q < k → c ≤ n → (∀ o : Nat, o < c → ι o < m) → (∀ o : Nat, c ≤ o → o < n → m ≤ ι o) → F_X10_nearBy_10 Z0.1 N k 510 (iz r) (iz (ι i : Nat)) x3 (iz ((itr (ncf d0 g w i) c (99, 0)).1 : Nat)) (iz ((itr (ncf d0 g w i) c (99, 0)).2 : Nat)) (iz m) d = some (if x3 = 0 then iz ((itr (ncf d0 g w i) n (99, 0)).1 : Nat) else iz ((itr (ncf d0 g w i) n (99, 0)).2 : Nat), d) := by
  have hv' := hv
  obtain ⟨⟨r14, L16, W6, n12, M12⟩, ⟨e0, e1, e2⟩, _, ⟨hι, hmono⟩, haway, hpos, hwk⟩ := hv'
  obtain ⟨_, _, _, la3⟩ := hwk i hi
  have hs' := hs
  obtain ⟨s1, s2, s3⟩ := hs'
  have g2 : gi d 531 (720 * r + 2) = iz M := by rw [hk.1 531 _ (by decide) (by decide) (by decide)]; exact e2
  have hιi := hι i hi
  intro q
  induction q with
  | zero =>
    intro k m c hm hk' hc h1 h2
    obtain ⟨k, rfl⟩ : ∃ j, k = j + 1 := ⟨k - 1, by omega⟩
    have : c = n := by
      rcases Nat.lt_or_ge c n with z | z
      · have y1 := h2 c (Nat.le_refl c) z
        have y2 := hι c z
        omega
      · omega
    subst this
    rw [F_X10_nearBy_10_s, m_row2, if_pos (ibr _ (by omega)), r_510_39, tnn _ (720 * r + 2) rfl (by omega), g2, if_pos (iz_lei (by omega))]
    by_cases z : x3 = 0
    · rw [if_pos z, if_pos z]
    · rw [if_neg z, if_neg z]
  | succ q ih =>
    intro k m c hm hk' hc h1 h2
    obtain ⟨k, rfl⟩ : ∃ j, k = j + 1 := ⟨k - 1, by omega⟩
    have a1 : iz (m : Int) + (1 : Int32) = iz ((m + 1 : Nat) : Int) := iz_add m 1
    have im : ib (iz (m : Int)) 12 := iz_ib (by omega)
    rw [F_X10_nearBy_10_s, m_row2, if_pos (ibr _ (by omega)), r_510_39, tnn _ (720 * r + 2) rfl (by omega), g2, if_neg (show ¬ iz (M : Int) ≤ iz (m : Int) from iz_nle (by omega)), a1]
    by_cases img : c < n ∧ ι c = m
    · obtain ⟨hcn, hcm⟩ := img
      have ih' := ih k (m + 1) (c + 1) (by omega) (by omega) (by omega) (fun o ho => by
        rcases Nat.lt_or_ge o c with z | z
        · have := h1 o z; omega
        · rw [show o = c by omega]; omega) (fun o ho hon => by
        have := hmono c o (by omega) hon
        omega)
      have it : itr (ncf d0 g w i) (c + 1) (99, 0) = ncf d0 g w i (itr (ncf d0 g w i) c (99, 0)) c := rfl
      by_cases c1 : c = i
      · have it' : itr (ncf d0 g w i) (c + 1) (99, 0) = itr (ncf d0 g w i) c (99, 0) := by rw [it]; exact if_pos (Or.inl c1)
        rw [it'] at ih'
        rw [if_pos (show iz (m : Int) = iz (ι i : Nat) from by rw [← hcm, c1])]
        exact ih'
      · obtain ⟨u1, u2⟩ := s1 c hcn c1
        rw [hcm] at u1
        obtain ⟨_, _, p3⟩ := hpos (lt d0 g i) c (by omega) hcn
        unfold inS at p3
        have nmi : ¬ m = ι i := fun z => c1 (ι_inj hmono c i hcn hi (by omega))
        rw [if_neg (show ¬ iz (m : Int) = iz (ι i : Nat) from iz_nei (by omega)), if_pos im, r_510_40, tnn _ m rfl (by omega), u1]
        by_cases c2 : cx d0 w (lt d0 g i) c = -1
        · have it' : itr (ncf d0 g w i) (c + 1) (99, 0) = itr (ncf d0 g w i) c (99, 0) := by rw [it]; exact if_pos (Or.inr c2)
          rw [it'] at ih'
          rw [if_pos (show iz (cx d0 w (lt d0 g i) c) = -1 from by rw [c2]; rfl)]
          exact ih'
        · have it' : itr (ncf d0 g w i) (c + 1) (99, 0) = (if dsN d0 g w i c < (itr (ncf d0 g w i) c (99, 0)).1 then dsN d0 g w i c else (itr (ncf d0 g w i) c (99, 0)).1, if dsN d0 g w i c ≤ 2 then (itr (ncf d0 g w i) c (99, 0)).2 + 1 else (itr (ncf d0 g w i) c (99, 0)).2) := by
            rw [it]
            exact if_neg (fun z => by
              rcases z with z | z
              · exact c1 z
              · exact c2 z)
          have hd := m_dist N d0 d g w r ι L W n M i c hv hi hcn c1 hs
          rw [hcm] at hd
          obtain ⟨b1, b2⟩ := ncf_b d0 g w i c
          have dsb : dsN d0 g w i c ≤ 60 := by
            obtain ⟨_, _, p4⟩ := hpos 0 i (by omega) hi
            unfold inS at p4
            unfold dsN
            omega
          rw [it'] at ih'
          have f67 : ∀ y : Nat, F_X10_nearBy_67 Z0.1 N (F_X10_nearBy_10 Z0.1 N k) 510 (iz r) (iz (ι i : Nat)) x3 (iz ((itr (ncf d0 g w i) c (99, 0)).2 : Nat)) (iz m) (iz ((dsN d0 g w i c : Nat) : Int)) (iz (y : Int)) d = F_X10_nearBy_10 Z0.1 N k 510 (iz r) (iz (ι i : Nat)) x3 (iz (y : Int)) (iz ((if dsN d0 g w i c ≤ 2 then (itr (ncf d0 g w i) c (99, 0)).2 + 1 else (itr (ncf d0 g w i) c (99, 0)).2 : Nat) : Int)) (iz ((m + 1 : Nat) : Int)) d := fun y => by
            rw [F_X10_nearBy_67_s, a1]
            by_cases z : dsN d0 g w i c ≤ 2
            · rw [if_neg (show ¬ (2 : Int32) < iz ((dsN d0 g w i c : Nat) : Int) from iz_nlt (a := 2) (by omega)), if_pos z, show iz (((itr (ncf d0 g w i) c (99, 0)).2 : Nat) : Int) + (1 : Int32) = iz (((itr (ncf d0 g w i) c (99, 0)).2 + 1 : Nat) : Int) from iz_add _ 1]
            · rw [if_pos (show (2 : Int32) < iz ((dsN d0 g w i c : Nat) : Int) from iz_lti (a := 2) (by omega)), if_neg z, show iz (((itr (ncf d0 g w i) c (99, 0)).2 : Nat) : Int) + (0 : Int32) = iz (((itr (ncf d0 g w i) c (99, 0)).2 : Nat) : Int) from by rw [l_0, iz_add, Int.add_zero]]
          rw [if_neg (show ¬ iz (cx d0 w (lt d0 g i) c) = -1 from iz_nei (b := -1) (by omega))]
          refine bnd hd ?_
          show (if iz (((itr (ncf d0 g w i) c (99, 0)).1 : Nat) : Int) ≤ iz ((dsN d0 g w i c : Nat) : Int) then _ else _) = _
          by_cases z : dsN d0 g w i c < (itr (ncf d0 g w i) c (99, 0)).1
          · rw [if_neg (iz_nle (by omega)), f67]
            simp only [if_pos z] at ih'
            exact ih'
          · rw [if_pos (iz_lei (by omega)), f67]
            simp only [if_neg z] at ih'
            exact ih'
    · have nim : ∀ j : Nat, j < n → ι j ≠ m := fun j hj z => by
        rcases Nat.lt_trichotomy j c with y | y | y
        · have := h1 j y; omega
        · exact img ⟨by omega, by rw [← y]; exact z⟩
        · have y1 := hmono c j y hj
          have y2 := h2 c (Nat.le_refl c) (by omega)
          omega
      have ih' := ih k (m + 1) c (by omega) (by omega) hc (fun o ho => by have := h1 o ho; omega) (fun o ho hon => by
        have y1 := h2 o ho hon
        have y2 := nim o hon
        omega)
      have u1 := s3 m (by omega) nim
      have nmi : ¬ m = ι i := fun z => nim i hi z.symm
      rw [if_neg (show ¬ iz (m : Int) = iz (ι i : Nat) from iz_nei (by omega)), if_pos im, r_510_40, tnn _ m rfl (by omega), u1, if_pos rfl]
      exact ih'
theorem m_nearBy {dS : DY} (N : Nat) (d0 d : DY) (g w r : Nat) (ι : Nat → Nat) (L W n M i : Nat) (x3 : Int32) (hN : 20 ≤ N) (hv : MV d0 g w r ι L W n M) (hi : i < n) (hk : lkM d0 dS d) (hs : SEEN d0 d g w i ι n M) : F_X10_nearBy Z0.1 N 510 (iz r) (iz (ι i : Nat)) x3 d = some (if x3 = 0 then iz ((itr (ncf d0 g w i) n (99, 0)).1 : Nat) else iz ((itr (ncf d0 g w i) n (99, 0)).2 : Nat), d) := by
  have hM := hv.1.2.2.2.2
  rw [F_X10_nearBy_s]
  exact m_near10 N d0 d g w r ι L W n M i x3 hv hi hk hs M N 0 0 (by omega) (by omega) (by omega) (fun o h => absurd h (by omega)) (fun _ _ _ => by omega)
theorem m_parted {dS : DY} (N : Nat) (d0 d : DY) (g w r : Nat) (ι : Nat → Nat) (L W n M i : Nat) (hv : MV d0 g w r ι L W n M) (hi : i < n) (hk : lkM d0 dS d) (hs : SEEN d0 d g w i ι n M) (hf : FRI d0 g r ι n M i) : ∃ v : Int32, F_X10_isParted Z0.1 N 510 (iz r) (iz (ι i : Nat)) d = some (v, d) ∧ PDR d0 g w i n v := by
  have hv' := hv
  obtain ⟨⟨r14, L16, W6, n12, M12⟩, _, _, ⟨hι, hmono⟩, haway, hpos, hwk⟩ := hv'
  obtain ⟨_, _, _, la3⟩ := hwk i hi
  have hs' := hs
  obtain ⟨s1, s2, s3⟩ := hs'
  have hιi := hι i hi
  have a13 : iz ((720 * r + 16 + 20 * ι i : Nat) : Int) + (13 : Int32) = iz ((720 * r + 16 + 20 * ι i + 13 : Nat) : Int) := iz_add _ 13
  have i13 := ibr (720 * r + 16 + 20 * ι i + 13) (by omega)
  have h0 : ∀ (R : Option (Int32 × DY)), (if gi d0 531 (720 * r + 16 + 20 * ι i + 13) = -1 then some ((0 : Int32), d) else if ib (gi d0 531 (720 * r + 16 + 20 * ι i + 13)) 12 then (if gi d 532 (gi d0 531 (720 * r + 16 + 20 * ι i + 13)).toNatClampNeg = -1 then some ((0 : Int32), d) else (F_X10_distance Z0.1 N 510 (iz (ι i : Nat)) (gi d0 531 (720 * r + 16 + 20 * ι i + 13)) d).bind fun u5 => if u5.1 ≤ 2 then some ((0 : Int32), u5.2) else some ((1 : Int32), u5.2)) else none) = R → F_X10_isParted Z0.1 N 510 (iz r) (iz (ι i : Nat)) d = R := fun R hR => by
    rw [F_X10_isParted_s]
    refine bnd (m_at _ _ r (ι i) _) ?_
    show (if ib (iz ((720 * r + 16 + 20 * ι i : Nat) : Int) + (13 : Int32)) 10080 then _ else _) = _
    rw [a13, if_pos i13, r_510_39, r_510_40, tnn _ (720 * r + 16 + 20 * ι i + 13) rfl (by omega)]
    rw [← hk.1 531 (720 * r + 16 + 20 * ι i + 13) (by decide) (by decide) (by decide)] at hR
    exact hR
  have no : (∀ q : Nat, q < n → ¬ PD d0 g w i q) → PDR d0 g w i n 0 := fun h => Or.inr ⟨rfl, h⟩
  rcases hf with ⟨j, hj, j1, j2⟩ | ⟨j1, j2⟩
  · have hιj := hι j hj
    rw [j2, if_neg (show ¬ iz (ι j : Nat) = -1 from iz_nei (b := -1) (by omega)), if_pos (show ib (iz (ι j : Nat)) 12 from iz_ib (by omega)), tnn _ (ι j) rfl (by omega)] at h0
    have only : ∀ q : Nat, q < n → PD d0 g w i q → q = j := fun q hq z => by
      have := z.2.2.2
      rw [j1, iz_inj (by omega) (by omega) (by omega) (by omega)] at this
      omega
    by_cases c1 : j = i
    · have nP : ∀ q : Nat, q < n → ¬ PD d0 g w i q := fun q hq z => by
        have := only q hq z
        exact z.1 (by omega)
      refine ⟨0, ?_, no nP⟩
      by_cases c2 : gi d 532 (ι j) = -1
      · exact h0 _ (if_pos c2)
      · refine h0 _ ?_
        rw [if_neg c2, c1]
        have hd : F_X10_distance Z0.1 N 510 (iz (ι i : Nat)) (iz (ι i : Nat)) d = some (0, d) := by
          have i1 : ib (iz (ι i : Nat)) 12 := iz_ib (by omega)
          have z0 : ∀ x : Int32, x - x = 0 := fun x => by
            obtain ⟨z, rfl, _, _⟩ := iz_ex x
            rw [iz_sub, Int.sub_self]; rfl
          rw [F_X10_distance_s, if_pos i1, if_pos i1, if_pos i1, if_pos i1, z0, z0, if_pos (by decide), F_X10_distance_39_s, if_pos (by decide)]
          rfl
        exact bnd hd rfl
    · obtain ⟨u1, _⟩ := s1 j hj c1
      obtain ⟨_, _, p3⟩ := hpos (lt d0 g i) j (by omega) hj
      obtain ⟨_, _, p4⟩ := hpos 0 i (by omega) hi
      unfold inS at p3 p4
      rw [u1] at h0
      by_cases c2 : cx d0 w (lt d0 g i) j = -1
      · refine ⟨0, h0 _ (if_pos (by rw [c2]; rfl)), no (fun q hq z => ?_)⟩
        have := only q hq z
        rw [this] at z
        exact z.2.1 c2
      · have hd := m_dist N d0 d g w r ι L W n M i j hv hi hj c1 hs
        have dsb : dsN d0 g w i j ≤ 60 := by
          unfold dsN
          omega
        by_cases c3 : dsN d0 g w i j ≤ 2
        · refine ⟨0, h0 _ ?_, no (fun q hq z => ?_)⟩
          · rw [if_neg (show ¬ iz (cx d0 w (lt d0 g i) j) = -1 from iz_nei (b := -1) (by omega))]
            refine bnd hd ?_
            show (if iz ((dsN d0 g w i j : Nat) : Int) ≤ 2 then _ else _) = _
            rw [if_pos (show iz ((dsN d0 g w i j : Nat) : Int) ≤ 2 from iz_lei (b := 2) (by omega))]
          · have := only q hq z
            rw [this] at z
            have := z.2.2.1
            omega
        · refine ⟨1, h0 _ ?_, Or.inl ⟨rfl, j, hj, c1, c2, by omega, j1⟩⟩
          rw [if_neg (show ¬ iz (cx d0 w (lt d0 g i) j) = -1 from iz_nei (b := -1) (by omega))]
          refine bnd hd ?_
          show (if iz ((dsN d0 g w i j : Nat) : Int) ≤ 2 then _ else _) = _
          rw [if_neg (show ¬ iz ((dsN d0 g w i j : Nat) : Int) ≤ 2 from iz_nle (b := 2) (by omega))]
  · have nP : ∀ q : Nat, q < n → ¬ PD d0 g w i q := fun q hq z => j1 q hq z.2.2.2
    refine ⟨0, ?_, no nP⟩
    rcases j2 with z | ⟨a, a1, a2, a3⟩
    · exact h0 _ (if_pos z)
    · rw [a2, if_neg (show ¬ iz (a : Int) = -1 from iz_nei (b := -1) (by omega)), if_pos (show ib (iz (a : Int)) 12 from iz_ib (by omega)), tnn _ a rfl (by omega), s3 a a1 a3] at h0
      exact h0 _ (if_pos rfl)
