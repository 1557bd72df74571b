/-! how far it is free: the reference's side -/
theorem m_seen {dS : DY} (N : Nat) (d0 d : DY) (g w r : Nat) (ι : Nat → Nat) (L W n M i : Nat) (X Y : Int) (hv : MV d0 g w r ι L W n M) (hi : i < n) (hk : lkM d0 dS d) (hs : SEEN d0 d g w i ι n M) (bX : -100 ≤ X ∧ X ≤ 100) (bY : -100 ≤ Y ∧ Y ≤ 100) : ∀ (q k m : Nat), m + q = M → q < k → (∀ o : Nat, o < n → ι o < m → ¬ occ d0 g w i o X Y) → ∃ v : Int, F_X10_seenOn_3 Z0.1 N k 510 (iz r) (iz (ι i : Nat)) (iz X) (iz Y) (iz m) d = some (iz v, d) ∧ (v = -1 ∧ (∀ o : Nat, o < n → ¬ occ d0 g w i o X Y) ∨ ∃ o : Nat, o < n ∧ v = (ι o : Nat) ∧ occ d0 g w i o X Y ∧ ∀ o' : Nat, o' < o → ¬ occ d0 g w i o' X Y) := by
  have hv' := hv
  obtain ⟨⟨r14, L16, W6, n12, M12⟩, ⟨e0, e1, e2⟩, _, ⟨hι, hmono⟩, haway, hpos, hwk⟩ := hv'
  obtain ⟨_, _, _, la3⟩ := hwk i hi
  obtain ⟨s1, s2, s3⟩ := hs
  have g2 : gi d 531 (720 * r + 2) = iz M := by rw [hk.1 531 _ (by decide) (by decide) (by decide)]; exact e2
  have hιi := hι i hi
  intro q
  induction q with
  | zero =>
    intro k m hm hk' hno
    obtain ⟨k, rfl⟩ : ∃ j, k = j + 1 := ⟨k - 1, by omega⟩
    refine ⟨-1, ?_, Or.inl ⟨rfl, fun o ho => hno o ho (by have := hι o ho; omega)⟩⟩
    rw [F_X10_seenOn_3_s, m_row2, if_pos (ibr _ (by omega)), r_510_39, tnn _ (720 * r + 2) rfl (by omega), g2, if_pos (iz_lei (by omega))]
    rfl
  | succ q ih =>
    intro k m hm hk' hno
    obtain ⟨k, rfl⟩ : ∃ j, k = j + 1 := ⟨k - 1, by omega⟩
    have a1 : iz (m : Int) + (1 : Int32) = iz ((m + 1 : Nat) : Int) := iz_add m 1
    have im : ib (iz (m : Int)) 12 := iz_ib (by omega)
    have skip : (∀ o : Nat, o < n → ι o = m → ¬ occ d0 g w i o X Y) → ∃ v : Int, F_X10_seenOn_3 Z0.1 N k 510 (iz r) (iz (ι i : Nat)) (iz X) (iz Y) (iz ((m + 1 : Nat) : Int)) d = some (iz v, d) ∧ (v = -1 ∧ (∀ o : Nat, o < n → ¬ occ d0 g w i o X Y) ∨ ∃ o : Nat, o < n ∧ v = (ι o : Nat) ∧ occ d0 g w i o X Y ∧ ∀ o' : Nat, o' < o → ¬ occ d0 g w i o' X Y) := fun hz =>
      ih k (m + 1) (by omega) (by omega) (fun o ho hom => by
        rcases Nat.lt_or_ge (ι o) m with c | c
        · exact hno o ho c
        · exact hz o ho (by omega))
    rw [F_X10_seenOn_3_s, m_row2, if_pos (ibr _ (by omega)), r_510_39, tnn _ (720 * r + 2) rfl (by omega), g2, if_neg (show ¬ iz (M : Int) ≤ iz (m : Int) from iz_nle (by omega)), a1]
    by_cases c1 : m = ι i
    · rw [if_pos (by rw [c1])]
      exact skip (fun o ho hom z => z.1 (ι_inj hmono o i ho hi (by omega)))
    · rw [if_neg (show ¬ iz (m : Int) = iz (ι i : Nat) from iz_nei (by omega)), if_pos im, r_510_40, r_510_41, tnn _ m rfl (by omega), if_pos im, if_pos im]
      by_cases img : ∃ o : Nat, o < n ∧ ι o = m
      · obtain ⟨o, ho, hom⟩ := img
        have hoi : o ≠ i := fun z => c1 (by rw [← hom, z])
        obtain ⟨u1, u2⟩ := s1 o ho hoi
        obtain ⟨_, _, p3⟩ := hpos (lt d0 g i) o (by omega) ho
        unfold inS at p3
        rw [hom] at u1 u2
        rw [u1, u2]
        by_cases c2 : cx d0 w (lt d0 g i) o = X
        · rw [if_pos (by rw [c2])]
          by_cases c3 : cy d0 w (lt d0 g i) o = Y
          · rw [if_pos (by rw [c3])]
            by_cases c4 : cx d0 w (lt d0 g i) o = -1
            · rw [if_pos (show iz (cx d0 w (lt d0 g i) o) = -1 from by rw [c4]; rfl)]
              exact skip (fun o' ho' hom' z => by
                have := ι_inj hmono o' o ho' ho (by omega)
                rw [this] at z
                exact z.2.2.2 c4)
            · rw [if_neg (show ¬ iz (cx d0 w (lt d0 g i) o) = -1 from iz_nei (b := -1) (by omega))]
              refine ⟨m, rfl, Or.inr ⟨o, ho, by rw [hom], ⟨hoi, c2, c3, c4⟩, fun o' ho' => hno o' (by omega) ?_⟩⟩
              have := hmono o' o ho' ho
              omega
          · rw [if_neg (show ¬ iz (cy d0 w (lt d0 g i) o) = iz Y from iz_nei (by omega))]
            exact skip (fun o' ho' hom' z => by
                have := ι_inj hmono o' o ho' ho (by omega)
                rw [this] at z
                exact c3 z.2.2.1)
        · rw [if_neg (show ¬ iz (cx d0 w (lt d0 g i) o) = iz X from iz_nei (by omega))]
          exact skip (fun o' ho' hom' z => by
                have := ι_inj hmono o' o ho' ho (by omega)
                rw [this] at z
                exact c2 z.2.1)
      · have u1 := s3 m (by omega) (fun j hj z => img ⟨j, hj, z⟩)
        have sk := skip (fun o ho hom _ => img ⟨o, ho, hom⟩)
        rw [u1]
        by_cases c2 : (-1 : Int32) = iz X
        · rw [if_pos c2]
          by_cases c3 : gi d 533 m = iz Y
          · rw [if_pos c3, if_pos rfl]
            exact sk
          · rw [if_neg c3]
            exact sk
        · rw [if_neg c2]
          exact sk
theorem m_seenOn {dS : DY} (N : Nat) (d0 d : DY) (g w r : Nat) (ι : Nat → Nat) (L W n M i : Nat) (X Y : Int) (hN : 20 ≤ N) (hv : MV d0 g w r ι L W n M) (hi : i < n) (hk : lkM d0 dS d) (hs : SEEN d0 d g w i ι n M) (bX : -100 ≤ X ∧ X ≤ 100) (bY : -100 ≤ Y ∧ Y ≤ 100) : ∃ v : Int, F_X10_seenOn Z0.1 N 510 (iz r) (iz (ι i : Nat)) (iz X) (iz Y) d = some (iz v, d) ∧ (v = -1 ∧ (∀ o : Nat, o < n → ¬ occ d0 g w i o X Y) ∨ ∃ o : Nat, o < n ∧ v = (ι o : Nat) ∧ occ d0 g w i o X Y ∧ ∀ o' : Nat, o' < o → ¬ occ d0 g w i o' X Y) := by
  have hM := hv.1.2.2.2.2
  obtain ⟨v, h1, h2⟩ := m_seen N d0 d g w r ι L W n M i X Y hv hi hk hs bX bY M N 0 (by omega) (by omega) (fun o _ h => absurd h (by omega))
  exact ⟨v, h1, h2⟩
/-- one step of the walk ahead that finds nothing -/
theorem m_f34 {dS : DY} (N : Nat) (d0 d : DY) (g w r : Nat) (ι : Nat → Nat) (L W n M i k f : Nat) (dx dy x0 y0 : Int) (x5 : Int32) (hN : 20 ≤ N) (hv : MV d0 g w r ι L W n M) (hi : i < n) (hk : lkM d0 dS d) (hs : SEEN d0 d g w i ι n M) (hd : dirs dx dy) (hp : inS L W x0 y0) (k16 : k < 16) (h1 : inS L W (x0 + ((k + 1 : Nat) : Int) * dx) (y0 + ((k + 1 : Nat) : Int) * dy)) (h2 : ¬ wlP d0 g (x0 + ((k + 1 : Nat) : Int) * dx) (y0 + ((k + 1 : Nat) : Int) * dy)) (h3 : ∀ o : Nat, o < n → ¬ occ d0 g w i o (x0 + ((k + 1 : Nat) : Int) * dx) (y0 + ((k + 1 : Nat) : Int) * dy)) : F_X10_freeOn_34 Z0.1 N (f + 1) 510 (iz r) (iz (ι i : Nat)) (iz dx) (iz dy) x5 (iz (x0 + (k : Int) * dx)) (iz (y0 + (k : Int) * dy)) (iz k) d = F_X10_freeOn_34 Z0.1 N f 510 (iz r) (iz (ι i : Nat)) (iz dx) (iz dy) x5 (iz (x0 + ((k + 1 : Nat) : Int) * dx)) (iz (y0 + ((k + 1 : Nat) : Int) * dy)) (iz ((k + 1 : Nat) : Int)) (si d 510 42 (-1)) := by
  have hb := hv.1
  have hp' := hp
  unfold inS at hp'
  have ex : iz (x0 + k * dx) + iz dx = iz (x0 + ((k + 1 : Nat) : Int) * dx) := by
    rw [iz_add]
    refine congrArg iz ?_
    rcases hd with ⟨rfl, rfl⟩ | ⟨rfl, rfl⟩ | ⟨rfl, rfl⟩ | ⟨rfl, rfl⟩ <;> omega
  have ey : iz (y0 + k * dy) + iz dy = iz (y0 + ((k + 1 : Nat) : Int) * dy) := by
    rw [iz_add]
    refine congrArg iz ?_
    rcases hd with ⟨rfl, rfl⟩ | ⟨rfl, rfl⟩ | ⟨rfl, rfl⟩ | ⟨rfl, rfl⟩ <;> omega
  rw [F_X10_freeOn_34_s, if_neg (show ¬ (16 : Int32) ≤ iz (k : Int) from iz_nle (a := 16) (by omega)), ex, ey, show iz (k : Int) + (1 : Int32) = iz ((k + 1 : Nat) : Int) from iz_add k 1]
  generalize hX : x0 + ((k + 1 : Nat) : Int) * dx = X at *
  generalize hY : y0 + ((k + 1 : Nat) : Int) * dy = Y at *
  have h1' := h1
  unfold inS at h1'
  obtain ⟨v, v1, v2⟩ := m_seenOn N d0 d g w r ι L W n M i X Y hN hv hi hk hs (by omega) (by omega)
  have vm : v = -1 := by
    rcases v2 with z | ⟨o, ho, _, z, _⟩
    · exact z.1
    · exact absurd z (h3 o ho)
  rw [vm] at v1
  refine bnd (m_inside N d0 d g w r ι L W n M X Y hv hk (by omega) (by omega)) ?_
  show (if (if 0 ≤ X ∧ X < L ∧ 0 ≤ Y ∧ Y < W then (1 : Int32) else 0) = 0 then _ else _) = _
  rw [if_pos h1', if_neg (by decide : ¬ (1 : Int32) = 0)]
  refine bnd ((m_wall N d0 d g w r ι L W n M X Y hv hk h1).2 h2) ?_
  show (if (0 : Int32) = 0 then _ else _) = _
  rw [if_pos rfl]
  refine bnd v1 ?_
  rw [bd_eq, show gi (si (iz (-1), d).2 510 42 (iz (-1), d).1) 510 42 = -1 from rfl, if_pos rfl]
  rfl
/-- the last step -/
theorem m_f34e {dS : DY} (N : Nat) (d0 d : DY) (g w r : Nat) (ι : Nat → Nat) (L W n M i k f : Nat) (dx dy x0 y0 : Int) (x5 : Int) (hN : 20 ≤ N) (hv : MV d0 g w r ι L W n M) (hi : i < n) (hk : lkM d0 dS d) (hs : SEEN d0 d g w i ι n M) (hd : dirs dx dy) (hp : inS L W x0 y0) (k16 : k < 16) (hm : gi d 510 42 = -1) : (¬ inS L W (x0 + ((k + 1 : Nat) : Int) * dx) (y0 + ((k + 1 : Nat) : Int) * dy) → x5 = -1 ∨ x5 = 9 → F_X10_freeOn_34 Z0.1 N (f + 1) 510 (iz r) (iz (ι i : Nat)) (iz dx) (iz dy) (iz x5) (iz (x0 + (k : Int) * dx)) (iz (y0 + (k : Int) * dy)) (iz k) d = some (iz (if x5 = -1 then (k : Int) else x5), d)) ∧ (inS L W (x0 + ((k + 1 : Nat) : Int) * dx) (y0 + ((k + 1 : Nat) : Int) * dy) → wlP d0 g (x0 + ((k + 1 : Nat) : Int) * dx) (y0 + ((k + 1 : Nat) : Int) * dy) → F_X10_freeOn_34 Z0.1 N (f + 1) 510 (iz r) (iz (ι i : Nat)) (iz dx) (iz dy) (iz x5) (iz (x0 + (k : Int) * dx)) (iz (y0 + (k : Int) * dy)) (iz k) d = some (iz (min9 k), d)) ∧ (inS L W (x0 + ((k + 1 : Nat) : Int) * dx) (y0 + ((k + 1 : Nat) : Int) * dy) → ¬ wlP d0 g (x0 + ((k + 1 : Nat) : Int) * dx) (y0 + ((k + 1 : Nat) : Int) * dy) → ∀ o : Nat, o < n → occ d0 g w i o (x0 + ((k + 1 : Nat) : Int) * dx) (y0 + ((k + 1 : Nat) : Int) * dy) → (∀ o' : Nat, o' < o → ¬ occ d0 g w i o' (x0 + ((k + 1 : Nat) : Int) * dx) (y0 + ((k + 1 : Nat) : Int) * dy)) → F_X10_freeOn_34 Z0.1 N (f + 1) 510 (iz r) (iz (ι i : Nat)) (iz dx) (iz dy) (iz x5) (iz (x0 + (k : Int) * dx)) (iz (y0 + (k : Int) * dy)) (iz k) d = some (iz (min9 k), si d 510 42 (iz (ι o : Nat)))) := by
  have hb := hv.1
  have hp' := hp
  unfold inS at hp'
  have ex : iz (x0 + k * dx) + iz dx = iz (x0 + ((k + 1 : Nat) : Int) * dx) := by
    rw [iz_add]
    refine congrArg iz ?_
    rcases hd with ⟨rfl, rfl⟩ | ⟨rfl, rfl⟩ | ⟨rfl, rfl⟩ | ⟨rfl, rfl⟩ <;> omega
  have ey : iz (y0 + k * dy) + iz dy = iz (y0 + ((k + 1 : Nat) : Int) * dy) := by
    rw [iz_add]
    refine congrArg iz ?_
    rcases hd with ⟨rfl, rfl⟩ | ⟨rfl, rfl⟩ | ⟨rfl, rfl⟩ | ⟨rfl, rfl⟩ <;> omega
  have bX : -100 ≤ x0 + ((k + 1 : Nat) : Int) * dx ∧ x0 + ((k + 1 : Nat) : Int) * dx ≤ 100 := by rcases hd with ⟨rfl, rfl⟩ | ⟨rfl, rfl⟩ | ⟨rfl, rfl⟩ | ⟨rfl, rfl⟩ <;> omega
  have bY : -100 ≤ y0 + ((k + 1 : Nat) : Int) * dy ∧ y0 + ((k + 1 : Nat) : Int) * dy ≤ 100 := by rcases hd with ⟨rfl, rfl⟩ | ⟨rfl, rfl⟩ | ⟨rfl, rfl⟩ | ⟨rfl, rfl⟩ <;> omega
  have m9 : ∀ e : DY, (if (9 : Int32) ≤ iz (k : Int) then some ((9 : Int32), e) else some (iz (k : Int), e)) = some (iz (min9 k), e) := fun e => by
    unfold min9
    by_cases q : (k : Int) < 9
    · rw [if_neg (show ¬ (9 : Int32) ≤ iz (k : Int) from iz_nle (a := 9) (by omega)), if_pos q]
    · rw [if_pos (show (9 : Int32) ≤ iz (k : Int) from iz_lei (a := 9) (by omega)), if_neg q]
      rfl
  rw [F_X10_freeOn_34_s, if_neg (show ¬ (16 : Int32) ≤ iz (k : Int) from iz_nle (a := 16) (by omega)), ex, ey]
  generalize hX : x0 + ((k + 1 : Nat) : Int) * dx = X at *
  generalize hY : y0 + ((k + 1 : Nat) : Int) * dy = Y at *
  have hin := m_inside N d0 d g w r ι L W n M X Y hv hk bX bY
  refine ⟨fun h h5 => ?_, fun h hw => ?_, fun h hw o ho hoc hfi => ?_⟩
  · have h' : ¬ (0 ≤ X ∧ X < L ∧ 0 ≤ Y ∧ Y < W) := h
    rw [if_neg h'] at hin
    refine bnd hin ?_
    show (if (0 : Int32) = 0 then _ else _) = _
    rw [if_pos rfl]
    rcases h5 with z | z
    · rw [if_pos (show iz x5 = -1 from by rw [z]; rfl), if_pos z]
    · rw [if_neg (show ¬ iz x5 = -1 from iz_nei (b := -1) (by omega)), if_neg (by omega)]
  · have h' : (0 ≤ X ∧ X < L ∧ 0 ≤ Y ∧ Y < W) := h
    rw [if_pos h'] at hin
    refine bnd hin ?_
    show (if (1 : Int32) = 0 then _ else _) = _
    rw [if_neg (by decide : ¬ (1 : Int32) = 0)]
    refine bnd ((m_wall N d0 d g w r ι L W n M X Y hv hk h).1 hw) ?_
    show (if (1 : Int32) = 0 then _ else _) = _
    rw [if_neg (by decide : ¬ (1 : Int32) = 0)]
    exact m9 d
  · have h' : (0 ≤ X ∧ X < L ∧ 0 ≤ Y ∧ Y < W) := h
    rw [if_pos h'] at hin
    obtain ⟨v, v1, v2⟩ := m_seenOn N d0 d g w r ι L W n M i X Y hN hv hi hk hs bX bY
    have vm : v = (ι o : Nat) := by
      rcases v2 with ⟨_, z⟩ | ⟨o', ho', z1, z2, z3⟩
      · exact absurd hoc (z o ho)
      · rcases Nat.lt_trichotomy o o' with c | c | c
        · exact absurd hoc (z3 o c)
        · rw [c]; exact z1
        · exact absurd z2 (hfi o' c)
    rw [vm] at v1
    have hιo := hv.2.2.2.1.1 o ho
    refine bnd hin ?_
    show (if (1 : Int32) = 0 then _ else _) = _
    rw [if_neg (by decide : ¬ (1 : Int32) = 0)]
    refine bnd ((m_wall N d0 d g w r ι L W n M X Y hv hk h).2 hw) ?_
    show (if (0 : Int32) = 0 then _ else _) = _
    rw [if_pos rfl]
    refine bnd v1 ?_
    rw [bd_eq, show gi (si (iz (ι o : Nat), d).2 510 42 (iz (ι o : Nat), d).1) 510 42 = iz (ι o : Nat) from rfl, if_neg (show ¬ iz (ι o : Nat) = -1 from iz_nei (b := -1) (by omega))]
    exact m9 _
