/-! a whole tenth -/
theorem fin_both {D c m m4 m5 m6 : DY} {g l w r : Nat} {ι : Nat → Nat} {L W n M : Nat} (s : Int32) (hG : CVg g l w) (r14 : r < 14) (hR : RRx D g l w r ι L W n M) (hS : GS D c m w r) (hW : ∀ o : Nat, o < n → GW D c m g w r ι L W o True) (hA : GA m ι n M) (hD : GDo c m w r) (h8 : fr8 r m m4) (h8v : gi m4 531 (720 * r + 8) = gi m 531 (720 * r + 8) + iz (dCN c g w n : Nat)) (hE : ENDD r M m4 m5) (h6 : ∀ x k : Nat, ¬ (x = 531 ∧ k = 720 * r + 5) → gi m6 x k = gi (lstM m5 r s) x k) (h65 : gi m6 531 (720 * r + 5) = gi D 531 (720 * r + 5)) : RRx (mixD (lstC c g w n s) m6) g l w r ι L W n M := by
  obtain ⟨d1, d2, d3, d4, d5⟩ := cv_dj hG
  have hM := RRx_MV hG r14 hR
  obtain ⟨⟨_, L16, W6, n12, M12⟩, _, _, ⟨hι, hmono⟩, _⟩ := id hM
  obtain ⟨s1, s2, s3, s4, s5, s6, s7, s8⟩ := hS
  obtain ⟨e1, e2, e3⟩ := hE
  have cs : ∀ x k : Nat, ¬ (x = w ∧ (k = 2 ∨ k = 6 ∨ k = 7)) → gi (lstC c g w n s) x k = gi c x k := fun x k h => by
    rw [gi_lstC, if_neg (by omega), if_neg (by omega), if_neg (by omega)]
  have ms : ∀ x k : Nat, ¬ (x = 531 ∧ (k = 720 * r + 3 ∨ k = 720 * r + 7 ∨ k = 720 * r + 5)) → gi m6 x k = gi m5 x k := fun x k h => by
    rw [h6 x k (by omega), gi_lstM, if_neg (by omega), if_neg (by omega)]
  have cw7 : gi (lstC c g w n s) w 7 = if s ≤ 0 then gi c w 7 + 1 else 0 := by rw [gi_lstC, if_neg (by omega), if_pos ⟨rfl, rfl⟩]
  have mw7 : gi m6 531 (720 * r + 7) = if s ≤ 0 then gi m5 531 (720 * r + 7) + 1 else 0 := by rw [h6 _ _ (by omega), gi_lstM, if_neg (by omega), if_pos ⟨rfl, rfl⟩]
  have me : ∀ y : Nat, y < 720 → ¬ (y = 8) → ¬ (16 ≤ y ∧ y < 16 + 20 * M ∧ ((y - 16) % 20 < 8 ∨ (y - 16) % 20 = 18)) → gi m5 531 (720 * r + y) = gi m 531 (720 * r + y) := fun y y1 y2 y3 => by
    rw [e1 531 (720 * r + y) (by omega), h8.1 531 (720 * r + y) (by omega)]
  have mf : ∀ y : Nat, y < 720 → (y ≠ 3 ∧ y ≠ 5 ∧ y ≠ 7 ∧ y ≠ 8) → ¬ (16 ≤ y ∧ y < 16 + 20 * M ∧ ((y - 16) % 20 < 8 ∨ (y - 16) % 20 = 18)) → gi m6 531 (720 * r + y) = gi m 531 (720 * r + y) := fun y y1 y2 y3 => by
    rw [ms _ _ (by omega), me y y1 (by omega) y3]
  obtain ⟨k1, k2, k3, k4, k5, k6, k7, k8, k9, k10, k11, _⟩ := id hR
  obtain ⟨q1, q2, q3, q4, q5, q6⟩ := k7
  have e15 : ∀ j : Nat, j < M → (gi m6 531 (720 * r + 16 + 20 * j) = gi m 536 j ∧ gi m6 531 (720 * r + 16 + 20 * j + 4) = gi m 537 j) ∧ (∀ t : Nat, t < 3 → gi m6 531 (720 * r + 16 + 20 * j + (t + 1)) = gi D 531 (720 * r + 16 + 20 * j + t) ∧ gi m6 531 (720 * r + 16 + 20 * j + 4 + (t + 1)) = gi D 531 (720 * r + 16 + 20 * j + 4 + t)) ∧ gi m6 531 (720 * r + 16 + 20 * j + 18) = if gi m 535 j = 1 then 0 else wtM (gi D 531 (720 * r + 16 + 20 * j + 18)) := fun j hj => by
    obtain ⟨⟨y1, y2⟩, y3, y4⟩ := e3 j hj
    have back : ∀ x : Nat, x < 8 ∨ x = 18 → gi m4 531 (720 * r + 16 + 20 * j + x) = gi D 531 (720 * r + 16 + 20 * j + x) := fun x hx => by
      rw [h8.1 531 (720 * r + 16 + 20 * j + x) (by omega)]
      have := s7 (16 + 20 * j + x) (by omega) (by unfold cntP; omega)
      rw [← Nat.add_assoc, ← Nat.add_assoc] at this
      exact this
    refine ⟨⟨?_, ?_⟩, fun t ht => ⟨?_, ?_⟩, ?_⟩
    · rw [ms _ _ (by omega), y1, h8.1 536 j (by omega)]
    · rw [ms _ _ (by omega), y2, h8.1 537 j (by omega)]
    · rw [ms _ _ (by omega), (y3 t ht).1, back t (by omega)]
    · have := back (4 + t) (by omega)
      rw [← Nat.add_assoc] at this
      rw [ms _ _ (by omega), (y3 t ht).2, this]
    · rw [ms _ _ (by omega), y4, h8.1 535 j (by omega), back 18 (by omega)]
  refine RRx_tenth hG hR (fun x k hx hw => ?_) ⟨?_, ?_, ?_, ?_, ?_, ?_⟩ (fun i hi hs => ?_) (fun i hi => ⟨?_, fun t ht => ?_⟩) (fun j hj => ⟨fun ha => ?_, fun t ht => ?_⟩) (fun i hi => ⟨?_, ?_⟩) (fun x hx => ?_) (fun i => ?_)
  · rw [mix_c _ _ _ _ hx, cs _ _ (by omega)]
    exact s1 x k hx hw
  · rw [mix_c _ _ _ _ (by omega), mix_m _ _ _ _ (by omega), gi_lstC, if_pos ⟨rfl, rfl⟩, h6 _ _ (by omega), gi_lstM, if_pos ⟨rfl, rfl⟩, s2 2 (by omega), me 3 (by omega) (by omega) (by omega), s7 3 (by omega) (by unfold cntP; omega), q1]
  · rw [mix_c _ _ _ _ (by omega), mix_m _ _ _ _ (by omega), cs _ _ (by omega), mf 4 (by omega) (by omega) (by omega), s2 3 (by omega), s7 4 (by omega) (by unfold cntP; omega), q2]
  · rw [mix_c _ _ _ _ (by omega), mix_m _ _ _ _ (by omega), cs _ _ (by omega), s2 4 (by omega), h65, q3]
  · rw [mix_c _ _ _ _ (by omega), mix_m _ _ _ _ (by omega), cs _ _ (by omega), mf 6 (by omega) (by omega) (by omega)]
    exact hD.1
  · rw [mix_c _ _ _ _ (by omega), mix_m _ _ _ _ (by omega), gi_lstC, if_neg (by omega), if_neg (by omega), if_pos ⟨rfl, rfl⟩, ms _ _ (by omega), e1 531 (720 * r + 8) (by omega), h8v, s2 6 (by omega), s7 8 (by omega) (by unfold cntP; omega), q5]
  · rw [mix_c _ _ _ _ (by omega), mix_m _ _ _ _ (by omega), cw7, mw7, s2 7 (by omega), me 7 (by omega) (by omega) (by omega), s7 7 (by omega) (by unfold cntP; omega), q6]
  · rw [mix_m _ _ _ _ (by omega), mf i hi (by unfold stP at hs; omega) (by unfold stP at hs; omega), s7 i hi (by unfold stP at hs; unfold cntP; omega)]
  · obtain ⟨⟨px, py, ⟨a1, a2, a3, a4⟩, a5, _⟩, _⟩ := hW i hi
    obtain ⟨⟨y1, y2⟩, _⟩ := e15 (ι i) (hι i hi)
    unfold PO
    rw [Nat.mul_zero, Nat.zero_add, Nat.add_zero (720 * r + 16 + 20 * ι i), Nat.add_zero (720 * r + 16 + 20 * ι i + 4), mix_c _ _ _ _ (by omega), mix_c _ _ _ _ (by omega), mix_m _ _ _ _ (by omega), mix_m _ _ _ _ (by omega), cs _ _ (by omega), cs _ _ (by omega), y1, y2, a1, a2, a3, a4]
    rcases a5 with ⟨z1, z2⟩ | z
    · rw [z1, z2]
      exact Or.inl ⟨rfl, rfl, rfl, rfl⟩
    · unfold inS at z
      refine Or.inr ⟨px.toNat, py.toNat, by omega, by omega, ?_, ?_, ?_, ?_⟩ <;> exact congrArg iz (by omega)
  · rw [mix_c _ _ _ _ (by omega), mix_c _ _ _ _ (by omega), cs _ _ (by omega), cs _ _ (by omega)]
    exact s5 t i ht (by omega)
  · obtain ⟨⟨y1, y2⟩, _⟩ := e15 j hj
    obtain ⟨z1, z2, _⟩ := hA j hj ha
    rw [mix_m _ _ _ _ (by omega), mix_m _ _ _ _ (by omega), y1, y2]
    exact ⟨z1, z2⟩
  · rw [mix_m _ _ _ _ (by omega), mix_m _ _ _ _ (by omega)]
    exact (e15 j hj).2.1 t ht
  · obtain ⟨_, ⟨z1, z2, z3, z4⟩, _⟩ := hW i hi
    have hιi := hι i hi
    have q : ∀ x : Nat, 14 ≤ x → x ≤ 17 → gi m6 531 (720 * r + 16 + 20 * ι i + x) = gi m 531 (720 * r + 16 + 20 * ι i + x) := fun x _ _ => by
      have := mf (16 + 20 * ι i + x) (by omega) (by omega) (by omega)
      rw [← Nat.add_assoc, ← Nat.add_assoc] at this
      exact this
    rw [mix_c _ _ (w + 3) _ (by omega), mix_c _ _ (w + 4) _ (by omega), mix_c _ _ (w + 5) _ (by omega), mix_c _ _ (w + 6) _ (by omega), mix_m _ _ 531 _ (by omega), mix_m _ _ 531 _ (by omega), mix_m _ _ 531 _ (by omega), mix_m _ _ 531 _ (by omega), cs _ _ (by omega), cs _ _ (by omega), cs _ _ (by omega), cs _ _ (by omega), q 14 (by omega) (by omega), q 15 (by omega) (by omega), q 16 (by omega) (by omega), q 17 (by omega) (by omega)]
    exact ⟨z1, z2, z3, z4⟩
  · obtain ⟨_, _, z, _, y⟩ := hW i hi
    have y := y trivial
    obtain ⟨_, _, _, _, v, v1, v2, v3⟩ := k10 i hi
    obtain ⟨x1, x, x2, x3⟩ := wt_same v v1
    rw [mix_c _ _ _ _ (by omega), mix_m _ _ _ _ (by omega), cs _ _ (by omega), (e15 (ι i) (hι i hi)).2.2, y, v2, v3]
    rcases z with z | z
    · rw [z, if_neg (by decide), if_neg (by decide)]
      exact ⟨x, x2, x1.trans x3, x3⟩
    · rw [z, if_pos rfl, if_pos rfl]
      exact ⟨0, by omega, rfl, rfl⟩
  · obtain ⟨t1, t2, t3, t4, t5⟩ := hD.2 x hx
    have q : ∀ y : Nat, y ≤ 4 → gi m6 531 (720 * r + 640 + 5 * x + y) = gi m 531 (720 * r + 640 + 5 * x + y) := fun y _ => by
      have := mf (640 + 5 * x + y) (by omega) (by omega) (by omega)
      rw [← Nat.add_assoc, ← Nat.add_assoc] at this
      exact this
    have q0 := q 0 (by omega)
    rw [Nat.add_zero] at q0
    rw [mix_c _ _ (w + 11) _ (by omega), mix_c _ _ (w + 11) _ (by omega), mix_c _ _ (w + 11) _ (by omega), mix_c _ _ (w + 11) _ (by omega), mix_c _ _ (w + 11) _ (by omega), mix_m _ _ 531 _ (by omega), mix_m _ _ 531 _ (by omega), mix_m _ _ 531 _ (by omega), mix_m _ _ 531 _ (by omega), mix_m _ _ 531 _ (by omega), cs _ _ (by omega), cs _ _ (by omega), cs _ _ (by omega), cs _ _ (by omega), cs _ _ (by omega), q0, q 1 (by omega), q 2 (by omega), q 3 (by omega), q 4 (by omega)]
    exact ⟨t1, t2, t3, t4, t5⟩
  · rw [mix_c _ _ _ _ (by omega), cs _ _ (by omega)]
    exact s4 i
