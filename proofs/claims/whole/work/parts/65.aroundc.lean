/-! the class's look around -/
def itr {α : Type} (f : α → Nat → α) : Nat → α → α
  | 0, s => s
  | k + 1, s => f (itr f k s) k
/-- how far o is, as i sees him -/
def dsN (d : DY) (g w i o : Nat) : Nat := (cx d w (lt d g i) o - cx d w 0 i).natAbs + (cy d w (lt d g i) o - cy d w 0 i).natAbs
/-- he isn't there, as i sees it, or is i -/
def unS (d : DY) (g w i o : Nat) : Prop := o = i ∨ cx d w (lt d g i) o = -1
def ncf (d : DY) (g w i : Nat) (s : Nat × Nat) (o : Nat) : Nat × Nat := if o = i ∨ cx d w (lt d g i) o = -1 then s else (if dsN d g w i o < s.1 then dsN d g w i o else s.1, if dsN d g w i o ≤ 2 then s.2 + 1 else s.2)
def PD (d : DY) (g w i q : Nat) : Prop := q ≠ i ∧ cx d w (lt d g i) q ≠ -1 ∧ 2 < dsN d g w i q ∧ gi d (g + 9) i = iz q
/-- v tells whether he is parted from a friend among the first k -/
def PDR (d : DY) (g w i k : Nat) (v : Int32) : Prop := v = 1 ∧ (∃ q : Nat, q < k ∧ PD d g w i q) ∨ v = 0 ∧ ∀ q : Nat, q < k → ¬ PD d g w i q
theorem PDR_no {d : DY} {g w i k : Nat} {v : Int32} (h : PDR d g w i k v) (n : ¬ PD d g w i k) : PDR d g w i (k + 1) v := by
  rcases h with ⟨z, q, q1, q2⟩ | ⟨z, q⟩
  · exact Or.inl ⟨z, q, by omega, q2⟩
  · refine Or.inr ⟨z, fun x hx => ?_⟩
    rcases Nat.lt_or_ge x k with y | y
    · exact q x y
    · rw [show x = k by omega]; exact n
theorem ncf_le (d : DY) (g w i : Nat) (s : Nat × Nat) (o m : Nat) (h1 : s.1 ≤ 99) (h2 : s.2 ≤ m) : (ncf d g w i s o).1 ≤ 99 ∧ (ncf d g w i s o).2 ≤ m + 1 := by
  unfold ncf
  by_cases q : o = i ∨ cx d w (lt d g i) o = -1
  · rw [if_pos q]
    exact ⟨h1, Nat.le_succ_of_le h2⟩
  · rw [if_neg q]
    refine ⟨?_, ?_⟩
    · show (if dsN d g w i o < s.1 then dsN d g w i o else s.1) ≤ 99
      by_cases c : dsN d g w i o < s.1
      · rw [if_pos c]; omega
      · rw [if_neg c]; exact h1
    · show (if dsN d g w i o ≤ 2 then s.2 + 1 else s.2) ≤ m + 1
      by_cases c : dsN d g w i o ≤ 2
      · rw [if_pos c]; omega
      · rw [if_neg c]; omega
theorem ncf_b (d : DY) (g w i : Nat) : ∀ n : Nat, (itr (ncf d g w i) n (99, 0)).1 ≤ 99 ∧ (itr (ncf d g w i) n (99, 0)).2 ≤ n
  | 0 => ⟨Nat.le_refl _, Nat.le_refl _⟩
  | n + 1 => ncf_le d g w i _ n n (ncf_b d g w i n).1 (ncf_b d g w i n).2
theorem c_la32 {dS : DY} (N : Nat) (d0 : DY) (g l w L W n i : Nat) (hv : CV d0 g l w L W n) (hi : i < n) (hp : inS L W (cx d0 w 0 i) (cy d0 w 0 i)) : ∀ (r k o : Nat) (d : DY), o + r = n → r < k → lkC w d0 dS d → gi d (w + 10) 2 = iz ((itr (ncf d0 g w i) o (99, 0)).1 : Nat) → gi d (w + 10) 7 = iz ((itr (ncf d0 g w i) o (99, 0)).2 : Nat) → PDR d0 g w i o (gi d (w + 10) 10) → ∃ e : DY, lkC w d0 dS e ∧ F_X8_lookAround_32 Z0.1 N k w (iz i) (iz ((12 * lt d0 g i : Nat) : Int)) (iz o) d = some e ∧ gi e (w + 10) 2 = iz ((itr (ncf d0 g w i) n (99, 0)).1 : Nat) ∧ gi e (w + 10) 7 = iz ((itr (ncf d0 g w i) n (99, 0)).2 : Nat) ∧ PDR d0 g w i n (gi e (w + 10) 10) ∧ ∀ j : Nat, j ≠ 2 → j ≠ 7 → j ≠ 10 → gi e (w + 10) j = gi d (w + 10) j := by
  have hv' := hv
  obtain ⟨hG, ⟨L16, W6, n12⟩, ⟨e0, e1, e3⟩, hwall, hpos, hwk⟩ := hv'
  obtain ⟨dj, dj2⟩ := cv_dj hG
  obtain ⟨_, lt3⟩ := lt_eq hv i hi
  obtain ⟨i1, i2, i3⟩ := hpos 0 i (by omega) hi
  rw [Nat.mul_zero, Nat.zero_add] at i1 i2
  have ib2 : ib (2 : Int32) 11 := by decide
  have ib7 : ib (7 : Int32) 11 := by decide
  have ib10 : ib (10 : Int32) 11 := by decide
  have t2 : (2 : Int32).toNatClampNeg = 2 := rfl
  have t7 : (7 : Int32).toNatClampNeg = 7 := rfl
  have t10 : (10 : Int32).toNatClampNeg = 10 := rfl
  have hp' := hp
  unfold inS at hp'
  intro r
  induction r with
  | zero =>
    intro k o d ho hk hc h2 h7 h10
    obtain ⟨k, rfl⟩ : ∃ j, k = j + 1 := ⟨k - 1, by omega⟩
    have g3 : gi d g 3 = iz n := by rw [hc.1 g 3 (by omega) (by omega)]; exact e3
    obtain rfl : o = n := by omega
    exact ⟨d, hc, by rw [F_X8_lookAround_32_s, cv_r0 hG, g3, if_pos (Int32.le_refl _)], h2, h7, h10, fun _ _ _ _ => rfl⟩
  | succ r ih =>
    intro k o d ho hk hc h2 h7 h10
    obtain ⟨k, rfl⟩ : ∃ j, k = j + 1 := ⟨k - 1, by omega⟩
    have g3 : gi d g 3 = iz n := by rw [hc.1 g 3 (by omega) (by omega)]; exact e3
    have a2 : iz (o : Int) + (1 : Int32) = iz ((o + 1 : Nat) : Int) := iz_add o 1
    obtain ⟨b1, b2⟩ := ncf_b d0 g w i o
    have it : itr (ncf d0 g w i) (o + 1) (99, 0) = ncf d0 g w i (itr (ncf d0 g w i) o (99, 0)) o := rfl
    by_cases un : o = i ∨ cx d0 w (lt d0 g i) o = -1
    · have it' : itr (ncf d0 g w i) (o + 1) (99, 0) = itr (ncf d0 g w i) o (99, 0) := by
        rw [it]; exact if_pos un
      have nP : ¬ PD d0 g w i o := fun z => by
        rcases un with u | u
        · exact z.1 u
        · exact z.2.1 u
      have h10' := PDR_no h10 nP
      obtain ⟨e, k1, k2, k3⟩ := ih k (o + 1) d (by omega) (by omega) hc (by rw [it']; exact h2) (by rw [it']; exact h7) h10'
      refine ⟨e, k1, ?_, k3⟩
      rw [F_X8_lookAround_32_s, cv_r0 hG, g3, if_neg (show ¬ iz (n : Int) ≤ iz (o : Int) from iz_nle (by omega)), a2]
      by_cases c1 : o = i
      · rw [if_pos (by rw [c1])]
        exact k2
      · have c2 := un.resolve_left c1
        obtain ⟨o1, o2, o3⟩ := hpos (lt d0 g i) o (by omega) (by omega)
        have p1 : gi d (w + 1) (12 * lt d0 g i + o) = -1 := by rw [hc.1 _ _ (by omega) (by omega), o1, c2]; rfl
        rw [if_neg (show ¬ iz (o : Int) = iz (i : Int) from iz_nei (by omega)), iz_add, if_pos (show ib (iz (((12 * lt d0 g i : Nat) : Int) + (o : Int))) 48 from iz_ib (by omega)), cv_w1 hG, tnn _ (12 * lt d0 g i + o) (by omega) (by omega), p1, if_pos rfl]
        exact k2
    · have un1 : o ≠ i := fun z => un (Or.inl z)
      have un2 : cx d0 w (lt d0 g i) o ≠ -1 := fun z => un (Or.inr z)
      have it' : itr (ncf d0 g w i) (o + 1) (99, 0) = (if dsN d0 g w i o < (itr (ncf d0 g w i) o (99, 0)).1 then dsN d0 g w i o else (itr (ncf d0 g w i) o (99, 0)).1, if dsN d0 g w i o ≤ 2 then (itr (ncf d0 g w i) o (99, 0)).2 + 1 else (itr (ncf d0 g w i) o (99, 0)).2) := by
        rw [it]; exact if_neg un
      obtain ⟨o1, o2, o3⟩ := hpos (lt d0 g i) o (by omega) (by omega)
      unfold inS at o3
      have p1 : gi d (w + 1) (12 * lt d0 g i + o) = iz (cx d0 w (lt d0 g i) o) := by rw [hc.1 _ _ (by omega) (by omega)]; exact o1
      have p2 : gi d (w + 2) (12 * lt d0 g i + o) = iz (cy d0 w (lt d0 g i) o) := by rw [hc.1 _ _ (by omega) (by omega)]; exact o2
      have q1 : gi d (w + 1) i = iz (cx d0 w 0 i) := by rw [hc.1 _ _ (by omega) (by omega)]; exact i1
      have q2 : gi d (w + 2) i = iz (cy d0 w 0 i) := by rw [hc.1 _ _ (by omega) (by omega)]; exact i2
      have f9 : gi d (g + 9) i = gi d0 (g + 9) i := hc.1 _ _ (by omega) (by omega)
      have jj : ib (iz (((12 * lt d0 g i : Nat) : Int) + (o : Int))) 48 := iz_ib (by omega)
      have ji : ib (iz (i : Int)) 48 := iz_ib (by omega)
      have ds : iz ((cx d0 w (lt d0 g i) o - cx d0 w 0 i).natAbs : Int) + iz ((cy d0 w (lt d0 g i) o - cy d0 w 0 i).natAbs : Int) = iz ((dsN d0 g w i o : Nat) : Int) := by
        rw [iz_add]; rfl
      have dsb : dsN d0 g w i o ≤ 30 := by unfold dsN; omega
      have ev : (if iz ((dsN d0 g w i o : Nat) : Int) < iz (((itr (ncf d0 g w i) o (99, 0)).1 : Nat) : Int) then iz ((dsN d0 g w i o : Nat) : Int) else iz (((itr (ncf d0 g w i) o (99, 0)).1 : Nat) : Int)) = iz (((itr (ncf d0 g w i) (o + 1) (99, 0)).1 : Nat) : Int) := by
        rw [it']
        show _ = iz ((if dsN d0 g w i o < (itr (ncf d0 g w i) o (99, 0)).1 then dsN d0 g w i o else (itr (ncf d0 g w i) o (99, 0)).1 : Nat) : Int)
        by_cases q : dsN d0 g w i o < (itr (ncf d0 g w i) o (99, 0)).1
        · rw [if_pos (iz_lti (by omega)), if_pos q]
        · rw [if_neg (iz_nlt (by omega)), if_neg q]
      have hc9 := lkC_sight hc 2 (iz (((itr (ncf d0 g w i) (o + 1) (99, 0)).1 : Nat) : Int))
      rw [F_X8_lookAround_32_s, cv_r0 hG, g3, if_neg (show ¬ iz (n : Int) ≤ iz (o : Int) from iz_nle (by omega)), a2, if_neg (show ¬ iz (o : Int) = iz (i : Int) from iz_nei (by omega)), iz_add, if_pos jj, cv_w1 hG, cv_w2 hG, cv_w10 hG, cv_g9 hG, tnn _ (12 * lt d0 g i + o) (by omega) (by omega), tnn _ i rfl (by omega), p1, p2, q1, q2, if_neg (show ¬ iz (cx d0 w (lt d0 g i) o) = -1 from iz_nei (b := -1) (by omega)), if_pos jj, if_pos ji, if_pos jj, if_pos ji, if_pos ib2, if_pos ib2, iz_sub, iz_sub, absI (cx d0 w (lt d0 g i) o - cx d0 w 0 i) (by omega), absI (cy d0 w (lt d0 g i) o - cy d0 w 0 i) (by omega), ds, t2, t7, t10, h2, ev, bd_eq]
      by_cases c2 : dsN d0 g w i o ≤ 2
      · have nP : ¬ PD d0 g w i o := fun z => by have := z.2.2.1; omega
        have s7 : gi (si d (w + 10) 2 (iz (((itr (ncf d0 g w i) (o + 1) (99, 0)).1 : Nat) : Int))) (w + 10) 7 + 1 = iz (((itr (ncf d0 g w i) (o + 1) (99, 0)).2 : Nat) : Int) := by
          rw [gi_si_if, if_neg (by omega), h7, it']
          show _ = iz ((if dsN d0 g w i o ≤ 2 then (itr (ncf d0 g w i) o (99, 0)).2 + 1 else (itr (ncf d0 g w i) o (99, 0)).2 : Nat) : Int)
          rw [if_pos c2]
          exact iz_add _ 1
        rw [if_neg (show ¬ (2 : Int32) < iz ((dsN d0 g w i o : Nat) : Int) from iz_nlt (a := 2) (by omega)), if_pos ib7, if_pos ib7, bd_eq, s7]
        obtain ⟨e, k1, k2, k3, k4, k5, k6⟩ := ih k (o + 1) _ (by omega) (by omega) (lkC_sight hc9 7 (iz (((itr (ncf d0 g w i) (o + 1) (99, 0)).2 : Nat) : Int))) (by rw [gi_si_if, if_neg (by omega), gi_si_if, if_pos ⟨rfl, rfl⟩]) (by rw [gi_si_if, if_pos ⟨rfl, rfl⟩]) (by
          rw [gi_si_if, if_neg (by omega), gi_si_if, if_neg (by omega)]
          exact PDR_no h10 nP)
        exact ⟨e, k1, k2, k3, k4, k5, fun j j2 j7 j10 => by rw [k6 j j2 j7 j10, gi_si_if, if_neg (by omega), gi_si_if, if_neg (by omega)]⟩
      · have s7 : gi (si d (w + 10) 2 (iz (((itr (ncf d0 g w i) (o + 1) (99, 0)).1 : Nat) : Int))) (w + 10) 7 = iz (((itr (ncf d0 g w i) (o + 1) (99, 0)).2 : Nat) : Int) := by
          rw [gi_si_if, if_neg (by omega), h7, it']
          show _ = iz ((if dsN d0 g w i o ≤ 2 then (itr (ncf d0 g w i) o (99, 0)).2 + 1 else (itr (ncf d0 g w i) o (99, 0)).2 : Nat) : Int)
          rw [if_neg c2]
        have f9' : gi (si d (w + 10) 2 (iz (((itr (ncf d0 g w i) (o + 1) (99, 0)).1 : Nat) : Int))) (g + 9) i = gi d0 (g + 9) i := by
          rw [gi_si_if, if_neg (by omega)]; exact f9
        rw [if_pos (show (2 : Int32) < iz ((dsN d0 g w i o : Nat) : Int) from iz_lti (a := 2) (by omega)), if_pos (show ib (iz (i : Int)) 12 from iz_ib (by omega)), f9']
        by_cases c3 : iz (o : Int) = gi d0 (g + 9) i
        · rw [if_pos c3, if_pos ib10, bd_eq]
          obtain ⟨e, k1, k2, k3, k4, k5, k6⟩ := ih k (o + 1) _ (by omega) (by omega) (lkC_sight hc9 10 1) (by rw [gi_si_if, if_neg (by omega), gi_si_if, if_pos ⟨rfl, rfl⟩]) (by rw [gi_si_if, if_neg (by omega)]; exact s7) (Or.inl ⟨by rw [gi_si_if, if_pos ⟨rfl, rfl⟩], o, by omega, un1, un2, by omega, c3.symm⟩)
          exact ⟨e, k1, k2, k3, k4, k5, fun j j2 j7 j10 => by rw [k6 j j2 j7 j10, gi_si_if, if_neg (by omega), gi_si_if, if_neg (by omega)]⟩
        · rw [if_neg c3]
          obtain ⟨e, k1, k2, k3, k4, k5, k6⟩ := ih k (o + 1) _ (by omega) (by omega) hc9 (by rw [gi_si_if, if_pos ⟨rfl, rfl⟩]) s7 (by
            rw [gi_si_if, if_neg (by omega)]
            exact PDR_no h10 (fun u => c3 u.2.2.2.symm))
          exact ⟨e, k1, k2, k3, k4, k5, fun j j2 j7 j10 => by rw [k6 j j2 j7 j10, gi_si_if, if_neg (by omega)]⟩
theorem c_around {dS : DY} (N : Nat) (d0 d : DY) (g l w L W n i : Nat) (hN : 20 ≤ N) (hv : CV d0 g l w L W n) (hi : i < n) (hp : inS L W (cx d0 w 0 i) (cy d0 w 0 i)) (hc : lkC w d0 dS d) : ∃ e : DY, lkC w d0 dS e ∧ F_X8_lookAround Z0.1 N w (iz i) d = some e ∧ gi e (w + 10) 2 = iz ((itr (ncf d0 g w i) n (99, 0)).1 : Nat) ∧ gi e (w + 10) 7 = iz ((itr (ncf d0 g w i) n (99, 0)).2 : Nat) ∧ PDR d0 g w i n (gi e (w + 10) 10) ∧ ∀ j : Nat, j ≠ 2 → j ≠ 7 → j ≠ 10 → gi e (w + 10) j = gi d (w + 10) j := by
  have hv' := hv
  obtain ⟨hG, ⟨L16, W6, n12⟩, _⟩ := hv'
  obtain ⟨dj, dj2⟩ := cv_dj hG
  obtain ⟨e, k1, k2, k3, k4, k5, k6⟩ := c_la32 N d0 g l w L W n i hv hi hp n N 0 (si (si (si d (w + 10) 2 99) (w + 10) 7 0) (w + 10) 10 0) (by omega) (by omega) (lkC_sight (lkC_sight (lkC_sight hc 2 99) 7 0) 10 0) (by
    rw [gi_si_if, if_neg (by omega), gi_si_if, if_neg (by omega), gi_si_if, if_pos ⟨rfl, rfl⟩]; rfl) (by
    rw [gi_si_if, if_neg (by omega), gi_si_if, if_pos ⟨rfl, rfl⟩]; rfl) (Or.inr ⟨by rw [gi_si_if, if_pos ⟨rfl, rfl⟩], fun q hq => absurd hq (by omega)⟩)
  refine ⟨e, k1, ?_, k3, k4, k5, fun j j2 j7 j10 => by rw [k6 j j2 j7 j10, gi_si_if, if_neg (by omega), gi_si_if, if_neg (by omega), gi_si_if, if_neg (by omega)]⟩
  rw [F_X8_lookAround_s]
  refine bnd (c_past N d0 d g l w L W n i hv hc hi) ?_
  show (if ib (2 : Int32) 11 then _ else _) = _
  rw [if_pos (by decide), bd_eq, if_pos (by decide), bd_eq, if_pos (by decide), bd_eq, cv_w10 hG]
  exact k2
