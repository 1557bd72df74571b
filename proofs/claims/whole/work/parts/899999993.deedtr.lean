/-! what one does depends on no more than this -/
/-- the same stand, for walker i -/
def SEES (d e : DY) (g w w' n i : Nat) : Prop := (∀ x k : Nat, g ≤ x → x ≤ g + 16 → gi e x k = gi d x k) ∧ gi e w' 2 = gi d w 2 ∧ (∀ o : Nat, o < n → cx e w' 0 o = cx d w 0 o ∧ cy e w' 0 o = cy d w 0 o) ∧ ∀ o : Nat, o < n → cx e w' (lt d g i) o = cx d w (lt d g i) o ∧ cy e w' (lt d g i) o = cy d w (lt d g i) o
theorem SEES_lt {d e : DY} {g w w' n i : Nat} (h : SEES d e g w w' n i) : lt e g i = lt d g i := by
  unfold lt
  rw [h.1 _ _ (by omega) (by omega)]
theorem SEES_occ {d e : DY} {g w w' n i o : Nat} (h : SEES d e g w w' n i) (ho : o < n) (x y : Int) : occ e g w' i o x y ↔ occ d g w i o x y := by
  unfold occ
  rw [SEES_lt h, (h.2.2.2 o ho).1, (h.2.2.2 o ho).2]
theorem SEES_FSt {d e : DY} {g w w' L W n i : Nat} {dx dy a m : Int} (h : SEES d e g w w' n i) (hi : i < n) (hF : FSt d g w L W n i dx dy a m) : FSt e g w' L W n i dx dy a m := by
  obtain ⟨s, V, q1, q2, q3, q4⟩ := hF
  have hw : wlP e g = wlP d g := funext fun x => funext fun y => by
    unfold wlP
    rw [h.1 _ _ (by omega) (by omega)]
  refine ⟨s, V, ?_, q2, ?_, ?_⟩
  · rw [hw, (h.2.2.1 i hi).1, (h.2.2.1 i hi).2]; exact q1
  · rw [(h.2.2.1 i hi).1, (h.2.2.1 i hi).2]; exact q3
  · rw [(h.2.2.1 i hi).1, (h.2.2.1 i hi).2]
    rcases q4 with ⟨m1, a1, no⟩ | ⟨o, b, k1, k2, k3, k4, k5, k6, k7, k8, k9⟩
    · exact Or.inl ⟨m1, a1, fun o ho b b1 b2 z => no o ho b b1 b2 ((SEES_occ h ho _ _).mp z)⟩
    · exact Or.inr ⟨o, b, k1, k2, k3, k4, k5, k6, (SEES_occ h k1 _ _).mpr k7, fun o' ho b' b1 b2 z => k8 o' ho b' b1 b2 ((SEES_occ h ho _ _).mp z), fun o' ho z => k9 o' ho ((SEES_occ h (by omega) _ _).mp z)⟩
theorem itr_same {α : Type} {f f' : α → Nat → α} {s : α} : ∀ n : Nat, (∀ (o : Nat) (t : α), o < n → f' t o = f t o) → itr f' n s = itr f n s
  | 0, _ => rfl
  | n + 1, h => by
    show f' (itr f' n s) n = f (itr f n s) n
    rw [itr_same n (fun o t ho => h o t (by omega)), h n _ (by omega)]
theorem SEES_ncf {d e : DY} {g w w' n i : Nat} (h : SEES d e g w w' n i) (hi : i < n) : itr (ncf e g w' i) n (99, 0) = itr (ncf d g w i) n (99, 0) := by
  refine itr_same n (fun o t ho => ?_)
  unfold ncf dsN
  rw [SEES_lt h, (h.2.2.2 o ho).1, (h.2.2.2 o ho).2, (h.2.2.1 i hi).1, (h.2.2.1 i hi).2]
theorem SEES_PD {d e : DY} {g w w' n i q : Nat} (h : SEES d e g w w' n i) (hi : i < n) (hq : q < n) : PD e g w' i q ↔ PD d g w i q := by
  unfold PD dsN
  rw [SEES_lt h, (h.2.2.2 q hq).1, (h.2.2.2 q hq).2, (h.2.2.1 i hi).1, (h.2.2.1 i hi).2, h.1 _ _ (by omega) (by omega)]
/-- a rule weighs how long one has waited -/
def WGH (d : DY) (l R : Nat) : Prop := ∃ q k : Nat, q < R ∧ k < (gi d (l + 2) q).toNatClampNeg ∧ gi d (l + 3) (4 * q + k) = 5
theorem DEED_tr {d e : DY} {g w w' L W n R i : Nat} {x : Int32} (h : SEES d e g w w' n i) (hi : i < n) (hw : gi e (w' + 7) i = gi d (w + 7) i ∨ ¬ WGH d (g + 10) R) (hWh : ∀ q k : Nat, q < R → k < (gi d (g + 10 + 2) q).toNatClampNeg → ∃ wh : Nat, wh ≤ 10 ∧ gi d (g + 10 + 3) (4 * q + k) = iz wh) (hD : DEED d g (g + 10) w L W n R i x) : DEED e g (g + 10) w' L W n R i x := by
  unfold DEED
  rw [h.2.1, h.1 (g + 5) i (by omega) (by omega)]
  rcases hD with z | ⟨z, v, ⟨a, m, ar, mr, al, ml, F1, F2, F3, v0, v1, v2, v3, v4, v5, v6, v7, v8, v9, v10⟩, D⟩
  · exact Or.inl z
  · refine Or.inr ⟨z, fun j => if j = 5 then gi e (w' + 7) i else v j, ?_, ?_⟩
    · have wy : wyI e g i = wyI d g i := by
        unfold wyI
        rw [h.1 _ _ (by omega) (by omega)]
      have n5 : ∀ j : Nat, j ≠ 5 → (if j = 5 then gi e (w' + 7) i else v j) = v j := fun j hj => if_neg hj
      have hf : facI e g i m = facI d g i m := by
        unfold facI
        rw [h.1 _ _ (by omega) (by omega), h.1 _ _ (by omega) (by omega)]
      have hso : sooI e g i a m = sooI d g i a m := by
        unfold sooI
        rw [hf, h.1 _ _ (by omega) (by omega), h.1 _ _ (by omega) (by omega)]
      refine ⟨a, m, ar, mr, al, ml, ?_, ?_, ?_, v0, v1.trans hso.symm, ?_, v3, v4, rfl, ?_, ?_, v8, v9.trans hf.symm, ?_⟩
      · rw [wy]; exact SEES_FSt h hi F1
      · rw [wy]; exact SEES_FSt h hi F2
      · rw [wy]; exact SEES_FSt h hi F3
      · rw [SEES_ncf h hi]; exact v2
      · show v 6 = gi e (g + 7) i
        rw [h.1 (g + 7) i (by omega) (by omega)]; exact v6
      · rw [SEES_ncf h hi]; exact v7
      · rcases v10 with ⟨y, q, q1, q2⟩ | ⟨y, no⟩
        · exact Or.inl ⟨y, q, q1, (SEES_PD h hi q1).mpr q2⟩
        · exact Or.inr ⟨y, fun q q1 z => no q q1 ((SEES_PD h hi q1).mp z)⟩
    · have c : ∀ y k : Nat, y ≤ 6 → gi e (g + 10 + y) k = gi d (g + 10 + y) k := fun y k hy => h.1 _ _ (by omega) (by omega)
      have ht : ∀ q k : Nat, q < R → k < (gi d (g + 10 + 2) q).toNatClampNeg → htI e (g + 10) (fun j => if j = 5 then gi e (w' + 7) i else v j) (4 * q + k) = htI d (g + 10) v (4 * q + k) := fun q k hq hk => by
        unfold htI
        rw [c 3 _ (by omega), c 4 _ (by omega), c 5 _ (by omega), c 6 _ (by omega)]
        have e5 : (if (gi d (g + 10 + 3) (4 * q + k)).toNatClampNeg = 5 then gi e (w' + 7) i else v (gi d (g + 10 + 3) (4 * q + k)).toNatClampNeg) = v (gi d (g + 10 + 3) (4 * q + k)).toNatClampNeg := by
          by_cases y : (gi d (g + 10 + 3) (4 * q + k)).toNatClampNeg = 5
          · rw [if_pos y, y, v5]
            rcases hw with z | z
            · exact z
            · obtain ⟨wh, h1, h2⟩ := hWh q k hq hk
              rw [h2, tnn _ wh rfl (by omega)] at y
              exact absurd ⟨q, k, hq, hk, by rw [h2, y]; rfl⟩ z
          · rw [if_neg y]
        show (if soI (gi d (g + 10 + 4) (4 * q + k)) (if (gi d (g + 10 + 3) (4 * q + k)).toNatClampNeg = 5 then gi e (w' + 7) i else v (gi d (g + 10 + 3) (4 * q + k)).toNatClampNeg) (gi d (g + 10 + 5) (4 * q + k)) = gi d (g + 10 + 6) (4 * q + k) then (0 : Int32) else 1) = _
        rw [e5]
      have al : ∀ q : Nat, q < R → (alT e (g + 10) (fun j => if j = 5 then gi e (w' + 7) i else v j) q (gi e (g + 10 + 2) q).toNatClampNeg ↔ alT d (g + 10) v q (gi d (g + 10 + 2) q).toNatClampNeg) := fun q hq => by
        unfold alT
        rw [c 2 _ (by omega)]
        exact ⟨fun z k hk => (ht q k hq hk).symm.trans (z k hk), fun z k hk => (ht q k hq hk).trans (z k hk)⟩
      rcases D with ⟨y, no⟩ | ⟨q, q1, q2, q3, q4⟩
      · exact Or.inl ⟨y, fun q hq z => no q hq ((al q hq).mp z)⟩
      · exact Or.inr ⟨q, q1, (al q q1).mpr q2, fun q' hq' z => q3 q' hq' ((al q' (by omega)).mp z), by rw [c 1 _ (by omega)]; exact q4⟩
