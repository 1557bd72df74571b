/-! the order of those who go -/
theorem S1_le {f : Nat → Nat} (h : ∀ i : Nat, f i ≤ 1) : ∀ n : Nat, S1 f n ≤ n
  | 0 => Nat.le_refl 0
  | n + 1 => by
    show S1 f n + f n ≤ n + 1
    have := S1_le h n
    have := h n
    omega
theorem S1_full {f : Nat → Nat} (h : ∀ i : Nat, f i ≤ 1) : ∀ n : Nat, n ≤ S1 f n → ∀ i : Nat, i < n → f i = 1
  | 0, _, i, hi => absurd hi (by omega)
  | n + 1, hn, i, hi => by
    have hn : n + 1 ≤ S1 f n + f n := hn
    have a := S1_le h n
    have b := h n
    by_cases z : i = n
    · rw [z]; omega
    · exact S1_full h n (by omega) i (by omega)
theorem S1_one {f f' : Nat → Nat} (i : Nat) (h1 : f i = 0) (h2 : f' i = 1) : ∀ n : Nat, i < n → (∀ o : Nat, o < n → o ≠ i → f' o = f o) → S1 f' n = S1 f n + 1
  | 0, h, _ => absurd h (by omega)
  | n + 1, h, ho => by
    show S1 f' n + f' n = S1 f n + f n + 1
    by_cases q : i = n
    · subst q
      rw [S1_same i (fun o h3 => ho o (by omega) (by omega)), h1, h2]
    · rw [S1_one i h1 h2 n (by omega) (fun o h3 h4 => ho o (by omega) h4), ho n (by omega) (fun z => q z.symm)]
      omega
def PRC (d : DY) (g : Nat) (h : Int) (i o : Nat) : Prop := h < hsI d g o ∨ (hsI d g o = h ∧ o < i)
def prc (d : DY) (g : Nat) (h : Int) (i o : Nat) : Nat := if h < hsI d g o ∨ (hsI d g o = h ∧ o < i) then 1 else 0
theorem prc_le (d : DY) (g : Nat) (h : Int) (i o : Nat) : prc d g h i o ≤ 1 := by
  unfold prc
  split <;> omega
theorem prc_1 {d : DY} {g : Nat} {h : Int} {i o : Nat} (q : PRC d g h i o) : prc d g h i o = 1 := if_pos q
theorem prc_0 {d : DY} {g : Nat} {h : Int} {i o : Nat} (q : ¬ PRC d g h i o) : prc d g h i o = 0 := if_neg q
theorem prc_eq {d : DY} {g : Nat} {h h' : Int} {i i' o : Nat} (q : PRC d g h i o ↔ PRC d g h' i' o) : prc d g h i o = prc d g h' i' o := by
  by_cases z : PRC d g h i o
  · rw [prc_1 z, prc_1 (q.mp z)]
  · rw [prc_0 z, prc_0 (fun y => z (q.mpr y))]
def SRT (d0 d : DY) (g w n : Nat) (h : Int) (i s : Nat) (od : Nat → Nat) : Prop := s = S1 (prc d0 g h i) n ∧ (∀ p : Nat, p < s → od p < n ∧ gi d (w + 9) p = iz (od p : Nat) ∧ PRC d0 g h i (od p)) ∧ (∀ p q : Nat, p < q → q < s → bef d0 g (od p) (od q)) ∧ (∀ o : Nat, o < n → PRC d0 g h i o → ∃ p : Nat, p < s ∧ od p = o) ∧ (∀ x k : Nat, x ≠ w + 9 → gi d x k = gi d0 x k) ∧ ∀ x k : Nat, gl d x k = gl d0 x k
theorem SRT_iff {d0 d : DY} {g w n : Nat} {h h' : Int} {i i' s : Nat} {od : Nat → Nat} (H : SRT d0 d g w n h i s od) (q : ∀ o : Nat, o < n → (PRC d0 g h i o ↔ PRC d0 g h' i' o)) : SRT d0 d g w n h' i' s od := by
  obtain ⟨h1, h2, h3, h4, h5, h6⟩ := H
  exact ⟨h1.trans (S1_same n (fun o ho => prc_eq (q o ho))), fun p hp => ⟨(h2 p hp).1, (h2 p hp).2.1, (q _ (h2 p hp).1).mp (h2 p hp).2.2⟩, h3, fun o ho z => h4 o ho ((q o ho).mpr z), h5, h6⟩
theorem c_sort11 {g l w : Nat} (N : Nat) (K) (d0 : DY) (n : Nat) (h : Int) (hG : CVg g l w) (n12 : n ≤ 12) (hh : -1 ≤ h ∧ h ≤ 9) (g3 : gi d0 g 3 = iz n) (hp : ∀ o : Nat, o < n → ∃ p : Nat, p ≤ 9 ∧ gi d0 (g + 7) o = iz p) : ∀ (q i k s : Nat) (od : Nat → Nat) (d : DY), i + q = n → q < k → SRT d0 d g w n h i s od → ∃ (s' : Nat) (od' : Nat → Nat) (d' : DY), F_X8_sortByHaste_11 Z0.1 N K k w (iz s) (iz h) (iz i) d = K w (iz s') (iz (h - 1)) d' ∧ SRT d0 d' g w n (h - 1) 0 s' od' := by
  obtain ⟨dj, dj2, _⟩ := cv_dj hG
  have hm1 : iz h + (-1 : Int32) = iz (h - 1) := by
    rw [l_m1, iz_add]
    exact congrArg iz (by omega)
  intro q
  induction q with
  | zero =>
    intro i k s od d hq hk H
    obtain ⟨k, rfl⟩ : ∃ j, k = j + 1 := ⟨k - 1, by omega⟩
    obtain rfl : i = n := by omega
    refine ⟨s, od, d, ?_, SRT_iff H (fun o ho => by unfold PRC; omega)⟩
    rw [F_X8_sortByHaste_11_s, cv_r0 hG, H.2.2.2.2.1 g 3 (by omega), g3, if_pos (Int32.le_refl _), hm1]
  | succ q ih =>
    intro i k s od d hq hk H
    obtain ⟨k, rfl⟩ : ∃ j, k = j + 1 := ⟨k - 1, by omega⟩
    obtain ⟨h1, h2, h3, h4, h5, h6⟩ := id H
    have sn : s ≤ n := by rw [h1]; exact S1_le (prc_le d0 g h i) n
    have ni : ¬ iz (n : Int) ≤ iz (i : Int) := iz_nle (by omega)
    have a1 : iz (i : Int) + (1 : Int32) = iz ((i + 1 : Nat) : Int) := iz_add i 1
    have s1 : iz (s : Int) + (1 : Int32) = iz ((s + 1 : Nat) : Int) := iz_add s 1
    have l12 : (12 : Int32) = iz 12 := rfl
    rw [F_X8_sortByHaste_11_s, cv_r0 hG, h5 g 3 (by omega), g3, if_neg ni]
    by_cases full : 12 ≤ s
    · refine ⟨s, od, d, ?_, SRT_iff H (fun o ho => ?_)⟩
      · rw [if_pos (show (12 : Int32) ≤ iz (s : Int) by rw [l12]; exact iz_lei (by omega)), hm1]
      · have al : PRC d0 g h i o := by
          have y := S1_full (prc_le d0 g h i) n (by omega) o ho
          by_cases z : PRC d0 g h i o
          · exact z
          · rw [prc_0 z] at y
            exact absurd y (by decide)
        refine ⟨fun _ => ?_, fun _ => al⟩
        unfold PRC at al ⊢
        omega
    obtain ⟨p, p9, hpi⟩ := hp i (by omega)
    have hsi : hsI d0 g i = p := by
      unfold hsI
      rw [hpi]
      exact iz_toInt (by omega) (by omega)
    rw [if_neg (show ¬ (12 : Int32) ≤ iz (s : Int) by rw [l12]; exact iz_nle (by omega)), if_pos (show ib (iz (i : Int)) 12 from iz_ib (by omega)), cv_g7 hG, tnn _ i rfl (by omega), h5 (g + 7) i (by omega), hpi, a1]
    by_cases e : (p : Int) = h
    · rw [if_pos (show iz (p : Int) = iz h by rw [e]), if_pos (show ib (iz (s : Int)) 12 from iz_ib (by omega)), bd_eq, cv_w9 hG, tnn _ s rfl (by omega), s1]
      have nP : ¬ PRC d0 g h i i := by
        unfold PRC
        omega
      have yP : PRC d0 g h (i + 1) i := by
        unfold PRC
        omega
      have oth : ∀ o : Nat, o ≠ i → (PRC d0 g h i o ↔ PRC d0 g h (i + 1) o) := fun o ho => by
        unfold PRC
        omega
      refine ih (i + 1) k (s + 1) (fun p => if p = s then i else od p) (si d (w + 9) s (iz i)) (by omega) (by omega) ⟨?_, fun p hp => ?_, fun p q hpq hq => ?_, fun o ho z => ?_, fun x k hx => ?_, h6⟩
      · rw [h1]
        exact (S1_one i (prc_0 nP) (prc_1 yP) n (by omega) (fun o ho hoi => (prc_eq (oth o hoi)).symm)).symm
      · by_cases z : p = s
        · subst z
          show (if p = p then i else od p) < n ∧ gi (si d (w + 9) p (iz i)) (w + 9) p = iz ((if p = p then i else od p : Nat) : Int) ∧ PRC d0 g h (i + 1) (if p = p then i else od p)
          rw [if_pos rfl, gi_si_if, if_pos ⟨rfl, rfl⟩]
          exact ⟨by omega, rfl, yP⟩
        · show (if p = s then i else od p) < n ∧ gi (si d (w + 9) s (iz i)) (w + 9) p = iz ((if p = s then i else od p : Nat) : Int) ∧ PRC d0 g h (i + 1) (if p = s then i else od p)
          rw [if_neg z, gi_si_if, if_neg (fun y => z y.2)]
          obtain ⟨y1, y2, y3⟩ := h2 p (by omega)
          refine ⟨y1, y2, ?_⟩
          unfold PRC at y3 ⊢
          omega
      · show bef d0 g (if p = s then i else od p) (if q = s then i else od q)
        rw [if_neg (show ¬ p = s by omega)]
        by_cases z : q = s
        · rw [if_pos z]
          obtain ⟨y1, y2, y3⟩ := h2 p (by omega)
          unfold PRC at y3
          unfold bef
          omega
        · rw [if_neg z]
          exact h3 p q hpq (by omega)
      · by_cases y : o = i
        · exact ⟨s, by omega, (if_pos rfl).trans y.symm⟩
        · obtain ⟨p, y1, y2⟩ := h4 o ho ((oth o y).mpr z)
          exact ⟨p, by omega, (if_neg (by omega)).trans y2⟩
      · rw [gi_si_if, if_neg (fun y => hx y.1)]
        exact h5 x k hx
    · rw [if_neg (show ¬ iz (p : Int) = iz h from iz_nei (by omega))]
      exact ih (i + 1) k s od d (by omega) (by omega) (SRT_iff H (fun o ho => by
        by_cases z : o = i
        · subst z
          unfold PRC
          omega
        · unfold PRC
          omega))
theorem c_sort5 {g l w : Nat} (N : Nat) (d0 : DY) (n : Nat) (hN : 20 ≤ N) (hG : CVg g l w) (n12 : n ≤ 12) (g3 : gi d0 g 3 = iz n) (hp : ∀ o : Nat, o < n → ∃ p : Nat, p ≤ 9 ∧ gi d0 (g + 7) o = iz p) : ∀ (q k s : Nat) (od : Nat → Nat) (d : DY), q ≤ 10 → q < k → SRT d0 d g w n ((q : Int) - 1) 0 s od → ∃ (s' : Nat) (od' : Nat → Nat) (d' : DY), F_X8_sortByHaste_5 Z0.1 N k w (iz s) (iz ((q : Int) - 1)) d = some d' ∧ SRT d0 d' g w n (-1) 0 s' od' := by
  intro q
  induction q with
  | zero =>
    intro k s od d hq hk H
    obtain ⟨k, rfl⟩ : ∃ j, k = j + 1 := ⟨k - 1, by omega⟩
    refine ⟨s, od, d, ?_, H⟩
    rw [F_X8_sortByHaste_5_s, if_pos (show iz (((0 : Nat) : Int) - 1) < 0 by decide)]
  | succ q ih =>
    intro k s od d hq hk H
    obtain ⟨k, rfl⟩ : ∃ j, k = j + 1 := ⟨k - 1, by omega⟩
    have e1 : (((q + 1 : Nat) : Int) - 1) = (q : Int) := by omega
    rw [e1] at H ⊢
    obtain ⟨s1, od1, d1, u1, u2⟩ := c_sort11 N (F_X8_sortByHaste_5 Z0.1 N k) d0 n (q : Int) hG n12 ⟨by omega, by omega⟩ g3 hp n 0 N s od d (by omega) (by omega) H
    obtain ⟨s', od', d', v1, v2⟩ := ih k s1 od1 d1 (by omega) (by omega) u2
    refine ⟨s', od', d', ?_, v2⟩
    rw [F_X8_sortByHaste_5_s, if_neg (show ¬ iz (q : Int) < 0 from iz_nlt0 ⟨by omega, by omega⟩)]
    exact u1.trans v1
theorem c_sort {g l w : Nat} (N : Nat) (d : DY) (n : Nat) (hN : 20 ≤ N) (hG : CVg g l w) (n12 : n ≤ 12) (g3 : gi d g 3 = iz n) (hp : ∀ o : Nat, o < n → ∃ p : Nat, p ≤ 9 ∧ gi d (g + 7) o = iz p) : ∃ e : DY, F_X8_sortByHaste Z0.1 N w d = some e ∧ ORD e g w n ∧ (∀ x k : Nat, x ≠ w + 9 → gi e x k = gi d x k) ∧ ∀ x k : Nat, gl e x k = gl d x k := by
  obtain ⟨dj, dj2, _⟩ := cv_dj hG
  have hs : ∀ o : Nat, o < n → 0 ≤ hsI d g o ∧ hsI d g o ≤ 9 := fun o ho => by
    obtain ⟨p, p9, hpo⟩ := hp o ho
    unfold hsI
    rw [hpo, iz_toInt (by omega) (by omega)]
    omega
  have np : ∀ o : Nat, o < n → ¬ PRC d g 9 0 o := fun o ho => by
    have := hs o ho
    unfold PRC
    omega
  obtain ⟨s', od', e, u1, h1, h2, h3, h4, h5, h6⟩ := c_sort5 N d n hN hG n12 g3 hp 10 N 0 (fun _ => 0) d (by omega) (by omega) ⟨(S1_zero n (fun o ho => prc_0 (np o ho))).symm, fun p hp => absurd hp (by omega), fun p q _ hq => absurd hq (by omega), fun o ho z => absurd z (np o ho), fun _ _ _ => rfl, fun _ _ => rfl⟩
  have al : ∀ o : Nat, o < n → PRC d g (-1) 0 o := fun o ho => by
    have := hs o ho
    unfold PRC
    omega
  have sn : s' = n := by
    have y : S1 (prc d g (-1) 0) n = S1 (fun _ => 1) n := S1_same n (fun o ho => prc_1 (al o ho))
    have z : ∀ m : Nat, S1 (fun _ => 1) m = m := fun m => by
      induction m with
      | zero => rfl
      | succ m ih =>
        show S1 (fun _ => 1) m + 1 = m + 1
        rw [ih]
    rw [h1, y, z]
  subst sn
  have hb : ∀ i : Nat, hsI e g i = hsI d g i := fun i => by
    unfold hsI
    rw [h5 _ _ (by omega)]
  refine ⟨e, ?_, ⟨od', fun p hp => ⟨(h2 p hp).1, (h2 p hp).2.1⟩, fun p q hpq hq => ?_, fun i hi => h4 i hi (al i hi)⟩, h5, h6⟩
  · rw [F_X8_sortByHaste_s]
    exact u1
  · unfold bef
    rw [hb, hb]
    exact h3 p q hpq hq
