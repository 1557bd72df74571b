/-! flow -/
theorem S1_mono {f g : Nat → Nat} : ∀ n : Nat, (∀ i : Nat, i < n → f i ≤ g i) → S1 f n ≤ S1 g n
  | 0, _ => Nat.le_refl _
  | n + 1, h => by
    have := S1_mono n (fun i hi => h i (by omega))
    have := h n (by omega)
    rw [S1_s, S1_s]
    omega
/-- who arrived at a, in the ten tenths from a on -/
def winC (a : Nat → Nat) (n0 n f : Nat) : Nat := if a f < n0 then S1 (fun w => if a w < n0 ∧ a f ≤ a w ∧ a w < a f + 10 then 1 else 0) n else 0
def moR (a : Nat → Nat) (n0 n : Nat) : Nat → Nat
  | 0 => 0
  | f + 1 => if moR a n0 n f < winC a n0 n f then winC a n0 n f else moR a n0 n f
def cnt (a : Nat → Nat) (n s : Nat) : Nat := S1 (fun i => if a i < s then 1 else 0) n
def byR (a : Nat → Nat) (n t : Nat) : Nat := cnt a n t - cnt a n (if 10 < t then t - 10 else 0)
def fwR (a : Nat → Nat) (n : Nat) : Nat → Nat
  | 0 => 0
  | t + 1 => if fwR a n t < byR a n (t + 1) then byR a n (t + 1) else fwR a n t
theorem cnt_win (a : Nat → Nat) (s t : Nat) (h : s ≤ t) : ∀ n : Nat, cnt a n t = cnt a n s + S1 (fun i => if s ≤ a i ∧ a i < t then 1 else 0) n
  | 0 => rfl
  | n + 1 => by
    have ih := cnt_win a s t h n
    unfold cnt at ih ⊢
    rw [S1_s, S1_s, S1_s, ih]
    by_cases z : a n < s
    · rw [if_pos (show a n < t by omega), if_pos z, if_neg (by omega)]; omega
    · rw [if_neg z]
      by_cases y : a n < t
      · rw [if_pos y, if_pos (by omega)]; omega
      · rw [if_neg y, if_neg (by omega)]; omega
theorem byR_win (a : Nat → Nat) (n t : Nat) : byR a n t = S1 (fun i => if t - 10 ≤ a i ∧ a i < t then 1 else 0) n := by
  unfold byR
  by_cases z : 10 < t
  · rw [if_pos z, cnt_win a (t - 10) t (by omega) n]; omega
  · rw [if_neg z, cnt_win a 0 t (by omega) n, show t - 10 = 0 by omega]; omega
theorem moR_ge {a : Nat → Nat} {n0 n : Nat} : ∀ k f : Nat, f < k → winC a n0 n f ≤ moR a n0 n k
  | 0, _, h => absurd h (by omega)
  | k + 1, f, h => by
    unfold moR
    by_cases z : moR a n0 n k < winC a n0 n k
    · rw [if_pos z]
      by_cases y : f = k
      · rw [y]; exact Nat.le_refl _
      · have := moR_ge (a := a) (n0 := n0) (n := n) k f (by omega); omega
    · rw [if_neg z]
      by_cases y : f = k
      · rw [y]; omega
      · exact moR_ge k f (by omega)
theorem moR_le {a : Nat → Nat} {n0 n B : Nat} : ∀ k : Nat, (∀ f : Nat, f < k → winC a n0 n f ≤ B) → moR a n0 n k ≤ B
  | 0, _ => Nat.zero_le _
  | k + 1, h => by
    have := moR_le (a := a) (n0 := n0) (n := n) k (fun f hf => h f (by omega))
    have := h k (by omega)
    unfold moR
    by_cases z : moR a n0 n k < winC a n0 n k
    · rw [if_pos z]; omega
    · rw [if_neg z]; omega
theorem fwR_ge {a : Nat → Nat} {n : Nat} : ∀ k t : Nat, 1 ≤ t → t ≤ k → byR a n t ≤ fwR a n k
  | 0, _, h, h2 => absurd h (by omega)
  | k + 1, t, h, h2 => by
    unfold fwR
    by_cases z : fwR a n k < byR a n (k + 1)
    · rw [if_pos z]
      by_cases y : t = k + 1
      · rw [y]; exact Nat.le_refl _
      · have := fwR_ge (a := a) (n := n) k t h (by omega); omega
    · rw [if_neg z]
      by_cases y : t = k + 1
      · rw [y]; omega
      · exact fwR_ge k t h (by omega)
theorem fwR_le {a : Nat → Nat} {n B : Nat} : ∀ k : Nat, (∀ t : Nat, 1 ≤ t → t ≤ k → byR a n t ≤ B) → fwR a n k ≤ B
  | 0, _ => Nat.zero_le _
  | k + 1, h => by
    have := fwR_le (a := a) (n := n) k (fun t h1 h2 => h t h1 (by omega))
    have := h (k + 1) (by omega) (by omega)
    unfold fwR
    by_cases z : fwR a n k < byR a n (k + 1)
    · rw [if_pos z]; omega
    · rw [if_neg z]; omega
/-- the least of those that hold -/
theorem least_fl {P : Nat → Prop} (a : Nat → Nat) : ∀ n : Nat, (∃ i : Nat, i < n ∧ P i) → ∃ i : Nat, i < n ∧ P i ∧ ∀ j : Nat, j < n → P j → a i ≤ a j
  | 0, h => by
    obtain ⟨i, h1, _⟩ := h
    omega
  | n + 1, h => by
    by_cases q : ∃ i : Nat, i < n ∧ P i
    · obtain ⟨i, i1, i2, i3⟩ := least_fl a n q
      by_cases z : P n ∧ a n < a i
      · refine ⟨n, by omega, z.1, fun j hj hp => ?_⟩
        by_cases y : j = n
        · rw [y]; exact Nat.le_refl _
        · have := i3 j (by omega) hp; omega
      · refine ⟨i, by omega, i2, fun j hj hp => ?_⟩
        by_cases y : j = n
        · rw [y] at hp ⊢
          have : ¬ a n < a i := fun w => z ⟨hp, w⟩
          omega
        · exact i3 j (by omega) hp
    · obtain ⟨i, i1, i2⟩ := h
      have e : i = n := by
        by_cases y : i = n
        · exact y
        · exact absurd ⟨i, by omega, i2⟩ q
      refine ⟨n, by omega, by rw [← e]; exact i2, fun j hj hp => ?_⟩
      by_cases y : j = n
      · rw [y]; exact Nat.le_refl _
      · exact absurd ⟨j, by omega, hp⟩ q
theorem flow_same (a : Nat → Nat) (n0 n : Nat) : moR a n0 n n = fwR a n n0 := by
  refine Nat.le_antisymm (moR_le n (fun f hf => ?_)) (fwR_le n0 (fun t h1 h2 => ?_))
  · unfold winC
    by_cases z : a f < n0
    · rw [if_pos z]
      by_cases y : a f + 10 ≤ n0
      · refine Nat.le_trans ?_ (fwR_ge n0 (a f + 10) (by omega) y)
        rw [byR_win]
        refine S1_mono n (fun i hi => ?_)
        by_cases w : a i < n0 ∧ a f ≤ a i ∧ a i < a f + 10
        · rw [if_pos w, if_pos (by omega)]; exact Nat.le_refl _
        · rw [if_neg w]; omega
      · refine Nat.le_trans ?_ (fwR_ge n0 n0 (by omega) (by omega))
        rw [byR_win]
        refine S1_mono n (fun i hi => ?_)
        by_cases w : a i < n0 ∧ a f ≤ a i ∧ a i < a f + 10
        · rw [if_pos w, if_pos (by omega)]; exact Nat.le_refl _
        · rw [if_neg w]; omega
    · rw [if_neg z]; omega
  · rw [byR_win]
    by_cases q : ∃ i : Nat, i < n ∧ (t - 10 ≤ a i ∧ a i < t)
    · obtain ⟨f, f1, f2, f3⟩ := least_fl a n q
      refine Nat.le_trans ?_ (moR_ge n f f1)
      unfold winC
      rw [if_pos (by omega)]
      refine S1_mono n (fun i hi => ?_)
      by_cases w : t - 10 ≤ a i ∧ a i < t
      · have := f3 i hi w
        rw [if_pos w, if_pos (by omega)]; exact Nat.le_refl _
      · rw [if_neg w]; omega
    · rw [S1_zero n (fun i hi => if_neg (fun w => q ⟨i, hi, w⟩))]
      omega
/-- the class's own windows -/
theorem c_mo28 (N n0 n : Nat) (K : Nat → Int32 → Int32 → DY → Option (Int32 × DY)) (c : DY) (a : Nat → Nat) (n12 : n ≤ 12) (hn0 : n0 ≤ 200) (g3 : gi c 95 3 = iz n) (hT : ∀ i : Nat, i < n → (a i = n0 ∧ gi c 115 i = -1) ∨ (a i < n0 ∧ gi c 115 i = iz (a i : Nat))) (f mo : Nat) (hf : a f < n0) : ∀ q w k : Nat, w + q = n → q < k → F_X8_mostArrivals_28 Z0.1 N K k 112 (iz mo) (iz f) (iz (a f : Nat)) (iz ((S1 (fun w => if a w < n0 ∧ a f ≤ a w ∧ a w < a f + 10 then 1 else 0) w : Nat) : Int)) (iz w) c = K 112 (if iz (mo : Int) < iz ((S1 (fun w => if a w < n0 ∧ a f ≤ a w ∧ a w < a f + 10 then 1 else 0) n : Nat) : Int) then iz ((S1 (fun w => if a w < n0 ∧ a f ≤ a w ∧ a w < a f + 10 then 1 else 0) n : Nat) : Int) else iz mo) (iz ((f + 1 : Nat) : Int)) c := by
  intro q
  induction q with
  | zero =>
    intro w k hq hk
    obtain ⟨k, rfl⟩ : ∃ j, k = j + 1 := ⟨k - 1, by omega⟩
    obtain rfl : w = n := by omega
    rw [F_X8_mostArrivals_28_s, cv_r0 cvg_try, g3, if_pos (Int32.le_refl _), F_X8_mostArrivals_86_s, show iz (f : Int) + (1 : Int32) = iz ((f + 1 : Nat) : Int) from iz_add f 1]
  | succ q ih =>
    intro w k hq hk
    obtain ⟨k, rfl⟩ : ∃ j, k = j + 1 := ⟨k - 1, by omega⟩
    have iw : ib (iz (w : Int)) 12 := iz_ib (by omega)
    have w1 : iz (w : Int) + (1 : Int32) = iz ((w + 1 : Nat) : Int) := iz_add w 1
    have f10 : iz (a f : Int) + (10 : Int32) = iz ((a f + 10 : Nat) : Int) := iz_add _ 10
    have nx := ih (w + 1) k (by omega) (by omega)
    rw [S1_s] at nx
    rw [F_X8_mostArrivals_28_s, cv_r0 cvg_try, g3, if_neg (show ¬ iz (n : Int) ≤ iz (w : Int) from iz_nle (by omega)), if_neg (show ¬ iz (a f : Int) = -1 by rw [l_m1]; exact iz_nei (by omega)), if_pos iw, if_pos iw, cv_w3 cvg_try, tnn _ w rfl (by omega), show (112 + 3 : Nat) = 115 from rfl, w1, f10, Int32.add_zero]
    rcases hT w (by omega) with ⟨y1, y2⟩ | ⟨y1, y2⟩
    · rw [if_neg (show ¬ (a w < n0 ∧ a f ≤ a w ∧ a w < a f + 10) by omega), Nat.add_zero] at nx
      rw [y2, if_pos (show (-1 : Int32) < iz (a f : Int) by rw [l_m1]; exact iz_lti (by omega))]
      exact nx
    · rw [y2]
      by_cases z : a w < a f
      · rw [if_neg (show ¬ (a w < n0 ∧ a f ≤ a w ∧ a w < a f + 10) by omega), Nat.add_zero] at nx
        rw [if_pos (show iz (a w : Int) < iz (a f : Int) from iz_lti (by omega))]
        exact nx
      · rw [if_neg (show ¬ iz (a w : Int) < iz (a f : Int) from iz_nlt (by omega))]
        by_cases y : a f + 10 ≤ a w
        · rw [if_neg (show ¬ (a w < n0 ∧ a f ≤ a w ∧ a w < a f + 10) by omega), Nat.add_zero] at nx
          rw [if_pos (show iz ((a f + 10 : Nat) : Int) ≤ iz (a w : Int) from iz_lei (by omega))]
          exact nx
        · rw [if_pos (show (a w < n0 ∧ a f ≤ a w ∧ a w < a f + 10) by omega)] at nx
          rw [if_neg (show ¬ iz ((a f + 10 : Nat) : Int) ≤ iz (a w : Int) from iz_nle (by omega)), show iz ((S1 (fun w => if a w < n0 ∧ a f ≤ a w ∧ a w < a f + 10 then 1 else 0) w : Nat) : Int) + (1 : Int32) = iz ((S1 (fun w => if a w < n0 ∧ a f ≤ a w ∧ a w < a f + 10 then 1 else 0) w + 1 : Nat) : Int) from iz_add _ 1]
          exact nx
theorem S1_01 (f : Nat → Nat) (h : ∀ i : Nat, f i ≤ 1) : ∀ n : Nat, S1 f n ≤ n
  | 0 => Nat.le_refl _
  | n + 1 => by
    have := S1_01 f h n
    have := h n
    rw [S1_s]
    omega
theorem winC_le (a : Nat → Nat) (n0 n f : Nat) : winC a n0 n f ≤ n := by
  unfold winC
  by_cases z : a f < n0
  · rw [if_pos z]
    refine S1_01 _ (fun i => ?_) n
    by_cases y : a i < n0 ∧ a f ≤ a i ∧ a i < a f + 10
    · rw [if_pos y]; omega
    · rw [if_neg y]; omega
  · rw [if_neg z]; omega
theorem c_mo4 (N n0 n : Nat) (c : DY) (a : Nat → Nat) (hN : 100 ≤ N) (n12 : n ≤ 12) (hn0 : n0 ≤ 200) (g3 : gi c 95 3 = iz n) (hT : ∀ i : Nat, i < n → (a i = n0 ∧ gi c 115 i = -1) ∨ (a i < n0 ∧ gi c 115 i = iz (a i : Nat))) : ∀ q f k : Nat, f + q = n → q < k → F_X8_mostArrivals_4 Z0.1 N k 112 (iz (moR a n0 n f : Nat)) (iz f) c = some (iz (moR a n0 n n : Nat), c) := by
  intro q
  induction q with
  | zero =>
    intro f k hq hk
    obtain ⟨k, rfl⟩ : ∃ j, k = j + 1 := ⟨k - 1, by omega⟩
    obtain rfl : f = n := by omega
    rw [F_X8_mostArrivals_4_s, cv_r0 cvg_try, g3, if_pos (Int32.le_refl _)]
  | succ q ih =>
    intro f k hq hk
    obtain ⟨k, rfl⟩ : ∃ j, k = j + 1 := ⟨k - 1, by omega⟩
    have iff' : ib (iz (f : Int)) 12 := iz_ib (by omega)
    have nx := ih (f + 1) k (by omega) (by omega)
    have ml : moR a n0 n f ≤ n := moR_le f (fun i _ => winC_le a n0 n i)
    have wl := winC_le a n0 n f
    rw [F_X8_mostArrivals_4_s, cv_r0 cvg_try, g3, if_neg (show ¬ iz (n : Int) ≤ iz (f : Int) from iz_nle (by omega)), if_pos iff', cv_w3 cvg_try, tnn _ f rfl (by omega), show (112 + 3 : Nat) = 115 from rfl]
    have mo1 : iz (moR a n0 n (f + 1) : Nat) = if iz (moR a n0 n f : Int) < iz (winC a n0 n f : Int) then iz (winC a n0 n f : Int) else iz (moR a n0 n f : Int) := by
      show iz ((if moR a n0 n f < winC a n0 n f then winC a n0 n f else moR a n0 n f : Nat) : Int) = _
      by_cases z : moR a n0 n f < winC a n0 n f
      · rw [if_pos z, if_pos (show iz (moR a n0 n f : Int) < iz (winC a n0 n f : Int) from iz_lti (by omega))]
      · rw [if_neg z, if_neg (show ¬ iz (moR a n0 n f : Int) < iz (winC a n0 n f : Int) from iz_nlt (by omega))]
    rw [mo1] at nx
    rcases hT f (by omega) with ⟨y1, y2⟩ | ⟨y1, y2⟩
    · have w0 : winC a n0 n f = 0 := by
        unfold winC
        rw [if_neg (by omega)]
      rw [w0] at nx
      obtain ⟨N', rfl⟩ : ∃ y, N = y + 1 := ⟨N - 1, by omega⟩
      rw [y2]
      have st : F_X8_mostArrivals_28 Z0.1 (N' + 1) (F_X8_mostArrivals_4 Z0.1 (N' + 1) k) (N' + 1) 112 (iz (moR a n0 n f : Nat)) (iz f) (-1) 0 0 c = F_X8_mostArrivals_4 Z0.1 (N' + 1) k 112 (if iz (moR a n0 n f : Int) < iz ((0 : Nat) : Int) then iz ((0 : Nat) : Int) else iz (moR a n0 n f : Int)) (iz ((f + 1 : Nat) : Int)) c := by
        rw [F_X8_mostArrivals_28_s, cv_r0 cvg_try, g3, if_neg (show ¬ iz (n : Int) ≤ 0 from iz_nle (b := 0) (by omega)), if_pos rfl, F_X8_mostArrivals_86_s, show iz (f : Int) + (1 : Int32) = iz ((f + 1 : Nat) : Int) from iz_add f 1]
        rfl
      exact st.trans nx
    · have st := c_mo28 N n0 n (F_X8_mostArrivals_4 Z0.1 N k) c a n12 hn0 g3 hT f (moR a n0 n f) y1 n 0 N (by omega) (by omega)
      have we : winC a n0 n f = S1 (fun w => if a w < n0 ∧ a f ≤ a w ∧ a w < a f + 10 then 1 else 0) n := if_pos y1
      rw [we] at nx
      rw [y2]
      exact st.trans nx
theorem cnt_le (a : Nat → Nat) (n s : Nat) : cnt a n s ≤ n := S1_01 _ (fun i => by
  show (if a i < s then 1 else 0) ≤ 1
  by_cases y : a i < s
  · rw [if_pos y]; omega
  · rw [if_neg y]; omega) n
theorem AWn_cnt {c : DY} {a : Nat → Nat} {t : Nat} : ∀ n : Nat, (∀ i : Nat, i < n → (gi c 113 i = -1 ↔ a i < t)) → AWn c 112 n = cnt a n t
  | 0, _ => rfl
  | n + 1, h => by
    have ih := AWn_cnt (c := c) (a := a) (t := t) n (fun i hi => h i (by omega))
    show AWn c 112 n + (if gi c 113 n = -1 then 1 else 0) = _
    unfold cnt at ih ⊢
    rw [S1_s, ih]
    by_cases z : gi c 113 n = -1
    · rw [if_pos z, if_pos ((h n (by omega)).mp z)]
    · rw [if_neg z, if_neg (fun y => z ((h n (by omega)).mpr y))]
theorem m_flow45 (N L W n M n0 : Nat) (ι : Nat → Nat) (C : Nat → DY) (a : Nat → Nat) (hN : 900 ≤ N) (hn0 : n0 ≤ 200) (n12 : n ≤ 12) (hC : ∀ t : Nat, ∃ s : Int32, F_X8_pass Z0.1 N 112 (C t) = some (s, C (t + 1))) (hcn : ∀ t : Nat, t ≤ n0 → gi (C t) 112 5 = iz (cnt a n t : Nat)) : ∀ (q t k : Nat) (m : DY), t + q = n0 → q < k → RRx (mixD (C t) m) 95 105 112 4 ι L W n M → (∀ s : Nat, s ≤ t → gi m 542 s = iz (cnt a n s : Nat)) → ∃ m' : DY, F_X10_flow_45 Z0.1 N k 510 (iz n0) (iz (fwR a n t : Nat)) (iz ((t + 1 : Nat) : Int)) m = some (iz (fwR a n n0 : Nat), m') ∧ rfr m m' := by
  have i2886 : ib (2886 : Int32) 10080 := by decide
  intro q
  induction q with
  | zero =>
    intro t k m hq hk hR h542
    obtain ⟨k, rfl⟩ : ∃ j, k = j + 1 := ⟨k - 1, by omega⟩
    obtain rfl : t = n0 := by omega
    refine ⟨m, ?_, rfr_re _⟩
    rw [F_X10_flow_45_s, if_pos (show iz (t : Int) < iz ((t + 1 : Nat) : Int) from iz_lti (by omega))]
  | succ q ih =>
    intro t k m hq hk hR h542
    obtain ⟨k, rfl⟩ : ∃ j, k = j + 1 := ⟨k - 1, by omega⟩
    obtain ⟨s, c', m1, u1, u2, u3, u4, u5⟩ := try_one N L W n ι M (C t) m (by omega) hR
    obtain ⟨s', hs'⟩ := hC t
    have ec : c' = C (t + 1) := (Prod.mk.inj (Option.some.inj (u1.symm.trans hs'))).2
    subst ec
    have g86 : gi m1 531 2886 = iz (cnt a n (t + 1) : Nat) := by
      have := u3.2.2.2.2.2.2.1.2.2.2.1
      rw [mix_c _ _ _ _ (by omega), mix_m _ _ _ _ (by omega), hcn (t + 1) (by omega)] at this
      exact this.symm
    obtain ⟨m2, hm2⟩ : ∃ m2 : DY, m2 = si m1 542 (t + 1) (iz (cnt a n (t + 1) : Nat)) := ⟨_, rfl⟩
    have v542 : ∀ s : Nat, s ≤ t + 1 → gi m2 542 s = iz (cnt a n s : Nat) := fun s hs => by
      rw [hm2, gi_si_if]
      by_cases z : s = t + 1
      · rw [if_pos ⟨rfl, z⟩, z]
      · rw [if_neg (fun y => z y.2), u5.1 542 s (by omega) (by omega) (by omega)]
        exact h542 s (by omega)
    have rf2 : rfr m m2 := fun x i q1 q2 q3 => by rw [hm2, gi_si_if, if_neg (by omega), rfr_of u5 x i q1 q2 q3]
    obtain ⟨m', w1, w2⟩ := ih (t + 1) k m2 (by omega) (by omega) (RRx_cells cvg_try u3 (fun x k hx => by
      by_cases z : x < 510
      · rw [mix_c _ _ _ _ z, mix_c _ _ _ _ z]
      · rw [mix_m _ _ _ _ (by omega), mix_m _ _ _ _ (by omega), hm2, gi_si_if, if_neg (by omega)])) v542
    have it : ib (iz ((t + 1 : Nat) : Int)) 201 := iz_ib (by omega)
    have tt : (iz ((t + 1 : Nat) : Int)).toNatClampNeg = t + 1 := tnn _ _ rfl (by omega)
    have t2 : iz ((t + 1 : Nat) : Int) + (1 : Int32) = iz ((t + 1 + 1 : Nat) : Int) := iz_add _ 1
    have c1 := cnt_le a n (t + 1)
    have f99 : ∀ ix : Nat, ix = (if 10 < t + 1 then t + 1 - 10 else 0) → F_X10_flow_99 Z0.1 N (F_X10_flow_45 Z0.1 N k) 510 (iz n0) (iz (fwR a n t : Nat)) (iz ((t + 1 : Nat) : Int)) (iz (cnt a n (t + 1) : Nat)) 542 (iz ix) m2 = some (iz (fwR a n n0 : Nat), m') := fun ix hix => by
      have ixt : ix ≤ t := by
        by_cases z : 10 < t + 1
        · rw [if_pos z] at hix; omega
        · rw [if_neg z] at hix; omega
      have mono : cnt a n ix ≤ cnt a n (t + 1) := by
        rw [cnt_win a ix (t + 1) (by omega) n]; omega
      have by1 : byR a n (t + 1) = cnt a n (t + 1) - cnt a n ix := by
        unfold byR
        rw [← hix]
      have fl : fwR a n t ≤ n := fwR_le t (fun t _ _ => by
        have := cnt_le a n t
        unfold byR
        omega)
      rw [F_X10_flow_99_s, if_pos (show ib (iz (ix : Int)) 201 from iz_ib (by omega)), tnn _ ix rfl (by omega), v542 ix (by omega), iz_sub, t2]
      rw [show ((cnt a n (t + 1) : Nat) : Int) - ((cnt a n ix : Nat) : Int) = ((byR a n (t + 1) : Nat) : Int) by omega]
      have e : fwR a n (t + 1) = if fwR a n t < byR a n (t + 1) then byR a n (t + 1) else fwR a n t := rfl
      rw [e] at w1
      by_cases z : fwR a n t < byR a n (t + 1)
      · rw [if_pos z] at w1
        rw [if_neg (show ¬ iz (byR a n (t + 1) : Int) ≤ iz (fwR a n t : Int) from iz_nle (by omega))]
        exact w1
      · rw [if_neg z] at w1
        rw [if_pos (show iz (byR a n (t + 1) : Int) ≤ iz (fwR a n t : Int) from iz_lei (by omega))]
        exact w1
    refine ⟨m', ?_, rfr_tr rf2 w2⟩
    rw [F_X10_flow_45_s, if_neg (show ¬ iz (n0 : Int) < iz ((t + 1 : Nat) : Int) from iz_nlt (by omega))]
    refine bnd u2 ?_
    rw [if_pos i2886, if_pos it, bd_eq, r_510_39, r_510_55, show (2886 : Int32).toNatClampNeg = 2886 from rfl, g86, tt, ← hm2, v542 (t + 1) (by omega), if_pos it]
    by_cases z : 10 < t + 1
    · rw [if_neg (show ¬ iz ((t + 1 : Nat) : Int) ≤ (10 : Int32) by rw [l_10]; exact iz_nle (by omega)), show iz ((t + 1 : Nat) : Int) - (10 : Int32) = iz (((t + 1 : Nat) : Int) - 10) from iz_sub _ 10, show (((t + 1 : Nat) : Int) - 10) = ((t + 1 - 10 : Nat) : Int) by omega]
      exact f99 (t + 1 - 10) (by rw [if_pos z])
    · rw [if_pos (show iz ((t + 1 : Nat) : Int) ≤ (10 : Int32) by rw [l_10]; exact iz_lei (by omega))]
      exact f99 0 (by rw [if_neg z])
theorem eq_flow (N : Nat) (pa la s na : Int32) (dy : DY) (hN : 900 ≤ N) (h : Inv dy) : ∃ r dy1 dy2, F_X9_flow Z0.1 N 1 pa la s na dy = some (r, dy1) ∧ F_X10_flow Z0.1 N 510 pa la s na dy1 = some (r, dy2) ∧ Inv dy2 := by
  refine wrap_trial N 200 pa la na (-1) dy (by omega) h (fun d => (F_X9_arrivals Z0.1 N 1 s na d).bind fun u5 => (F_X8_mostArrivals Z0.1 N (gr Z0.1 1 6) u5.2).bind fun u8 => some (u8.1, u8.2)) (fun d => (F_X10_lay Z0.1 N 510 (4 : Int32) pa la s (12 : Int32) (-1 : Int32) d).bind fun u4 => if ib (0 : Int32) 201 then bd (si u4 (gr Z0.1 510 55) (0 : Int32).toNatClampNeg (0 : Int32)) fun dy7 => (F_X10_flow_45 Z0.1 N N) 510 na (0 : Int32) (1 : Int32) dy7 else none) (fun k j n0 L W n c hpa hla hna k3 j3 n01 n02 hC m518 hP => ?_)
  subst hpa hla hna
  have n12 : n ≤ 12 := hP.1.1.2.2.1
  have g3 : gi c 95 3 = iz n := (GRD_of hP).2.1.2.2
  obtain ⟨c1, m1, b1, b2, b3, b4, b5, b6⟩ := lay_gen N s 12 (-1) c dy hN k3 j3 hP (awy_none n12)
  obtain ⟨C, D, rfl, hD, hs⟩ := trial_seq N L W n id n c1 (si m1 510 45 0) (by omega) (RRx_cells cvg_try b3 (fun x k hx => by
    by_cases z : x < 510
    · rw [mix_c _ _ _ _ z, mix_c _ _ _ _ z]
    · rw [mix_m _ _ _ _ (by omega), mix_m _ _ _ _ (by omega), gi_si_if, if_neg (by omega)])) (by rw [gi_si_if, if_pos ⟨rfl, rfl⟩])
  have hT := fun t => (hs t).2
  obtain ⟨A, T, _, _, a3, a4⟩ := spec_lay N n0 s 12 (-1) c dy hN (by omega) k3 j3 hP (awy_none n12)
  obtain ⟨m1', m', d1, d2, _, ⟨_, d3⟩, _⟩ := a4 dy (fun _ _ _ _ => rfl)
  have em : m1' = m1 := Option.some.inj (d1.symm.trans b2)
  subst em
  have em : m' = D n0 := by
    rw [F_X10_tryOn_s, bd_eq, ← hD] at d2
    exact Option.some.inj (d2.symm.trans (seq_tryOn hT n0 (by omega) n0 0 N (by omega) (by omega)))
  subst em
  have T15 : ∀ i : Nat, i < n → T i = gi (C n0) 115 i := fun i hi => by
    obtain ⟨_, _, _, ⟨q, _⟩, _⟩ := (hs n0).1.1.2.2.2.2.2.2.2.2.2.1 i hi
    rw [mix_c _ _ _ _ (by omega), mix_m _ _ _ _ (by omega)] at q
    rw [← d3 i hi]
    exact q.symm
  obtain ⟨c', e1, e2, e3⟩ := a3 c (fun _ _ _ _ => rfl)
  obtain ⟨a, ha⟩ : ∃ a : Nat → Nat, a = fun i => if gi (C n0) 115 i = -1 then n0 else (gi (C n0) 115 i).toNatClampNeg := ⟨_, rfl⟩
  have fate : ∀ i : Nat, i < n → ((a i = n0 ∧ T i = -1) ∨ (a i < n0 ∧ T i = iz (a i : Nat))) ∧ ∀ t : Nat, t ≤ n0 → (gi (C t) 113 i = -1 ↔ a i < t) := fun i hi => by
    rw [T15 i hi]
    have ai : a i = if gi (C n0) 115 i = -1 then n0 else (gi (C n0) 115 i).toNatClampNeg := by rw [ha]
    rcases seq_fate hT b4 i hi n0 with ⟨z1, z2⟩ | ⟨v, v1, v2, v3⟩
    · rw [if_pos z1] at ai
      exact ⟨Or.inl ⟨ai, z1⟩, fun t ht => ⟨fun y => absurd y (z2 t ht), fun y => absurd y (by omega)⟩⟩
    · rw [if_neg (by rw [v2, l_m1]; exact iz_nei (by omega)), v2, tnn _ v rfl (by omega)] at ai
      rw [ai]
      exact ⟨Or.inr ⟨v1, v2⟩, v3⟩
  have mo := c_mo4 N n0 n c' a (by omega) n12 (by omega) ((e3.1 95 3 (by omega)).trans g3) (fun i hi => by rw [e2 i hi]; exact (fate i hi).1) n 0 N (by omega) (by omega)
  have sM : sameM dy (si c' 510 0 0) := fun x i q1 q2 => by rw [gi_si_if, if_neg (by omega), e3.1 x i (by omega), hC.2.2.1 x i (by omega)]
  obtain ⟨c2, m2, f1, f2, f3, _, _, f6⟩ := lay_gen N s 12 (-1) c (si c' 510 0 0) hN k3 j3 (PREP_mix hP (fun _ _ _ _ => rfl) sM) (awy_none n12)
  have ec : c2 = C 0 := Option.some.inj (f1.symm.trans b1)
  subst ec
  obtain ⟨m3, g1, g2⟩ := m_flow45 N L W n n n0 id C a hN (by omega) n12 (fun t => by
    obtain ⟨s, q, _⟩ := hT t
    exact ⟨s, q⟩) (fun t ht => by
    rw [(seq_arv hT b4 t).2, AWn_cnt n (fun i hi => (fate i hi).2 t ht)]) n0 0 N (si m2 542 0 0) (by omega) (by omega) (RRx_cells cvg_try f3 (fun x k hx => by
      by_cases z : x < 510
      · rw [mix_c _ _ _ _ z, mix_c _ _ _ _ z]
      · rw [mix_m _ _ _ _ (by omega), mix_m _ _ _ _ (by omega), gi_si_if, if_neg (by omega)])) (fun s hs => by
      have : s = 0 := by omega
      rw [this, gi_si_if, if_pos ⟨rfl, rfl⟩]
      unfold cnt
      rw [S1_zero n (fun i _ => if_neg (by omega))]
      rfl)
  have fs := flow_same a n0 n
  rw [fs] at mo
  refine ⟨iz (fwR a n n0 : Nat), c', m3, bnd e1 ?_, gfr_of e3, bnd f2 ?_, fun x i q1 q2 q3 => by rw [g2 x i q1 q2 q3, gi_si_if, if_neg (by omega), rfr_of f6 x i q1 q2 q3, gi_si_if, if_neg (by omega)]⟩
  · rw [r_1_6]
    refine bnd (show F_X8_mostArrivals Z0.1 N 112 c' = some (iz (fwR a n n0 : Nat), c') from ?_) rfl
    rw [F_X8_mostArrivals_s]
    exact mo
  · rw [if_pos (by decide), bd_eq, r_510_55]
    exact g1
