set_option maxRecDepth 100000 in
noncomputable def F_X7_init (a0 : Nat) (S : ST) (dy : DY) : Option (ST × DY) := if gs S a0 = (0, 7) then bdZ (alS S (2, 500)) (alD S dy) fun Sk4 dyk4 => if gs Sk4 a0 = (0, 7) then if gs Sk4 (S.1 + 1) = (2, 500) then bdZ (sr Sk4 a0 0 (S.1 + 1)) (dyk4) fun Sk7 dyk7 => if gs Sk7 a0 = (0, 7) then bdZ (Sk7) (si dyk7 a0 3 (-1 : Int32)) fun Sk9 dyk9 => if gs Sk9 a0 = (0, 7) then bdZ (alS Sk9 (7, 3)) (alD Sk9 dyk9) fun Sk13 dyk13 => if gs Sk13 a0 = (0, 7) then if gs Sk13 (Sk9.1 + 1) = (7, 3) then bdZ (sr Sk13 a0 4 (Sk9.1 + 1)) (dyk13) fun Sk16 dyk16 => if gs Sk16 a0 = (0, 7) then bdZ (alS Sk16 (8, 3)) (alD Sk16 dyk16) fun Sk20 dyk20 => if gs Sk20 a0 = (0, 7) then if gs Sk20 (Sk16.1 + 1) = (8, 3) then bdZ (sr Sk20 a0 6 (Sk16.1 + 1)) (dyk20) fun Sk23 dyk23 => if gs Sk23 a0 = (0, 7) then bdZ (alS Sk23 (0, 4)) (alD Sk23 dyk23) fun Sk27 dyk27 => if gs Sk27 (Sk23.1 + 1) = (0, 4) then if gs Sk27 a0 = (0, 7) then (F_X4_init (Sk23.1 + 1) Sk27 dyk27).bind fun z30 => if gs z30.1 a0 = (0, 7) then if gs z30.1 (Sk23.1 + 1) = (0, 4) then bdZ (sr z30.1 a0 8 (Sk23.1 + 1)) (z30.2) fun Sk39 dyk39 => if gs Sk39 a0 = (0, 7) then bdZ (alS Sk39 (0, 2)) (alD Sk39 dyk39) fun Sk43 dyk43 => if gs Sk43 (Sk39.1 + 1) = (0, 2) then if gs Sk43 a0 = (0, 7) then (F_X2_init (Sk39.1 + 1) Sk43 dyk43).bind fun z46 => if gs z46.1 a0 = (0, 7) then if gs z46.1 (Sk39.1 + 1) = (0, 2) then bdZ (sr z46.1 a0 9 (Sk39.1 + 1)) (z46.2) fun Sk55 dyk55 => if gs Sk55 a0 = (0, 7) then bdZ (alS Sk55 (0, 8)) (alD Sk55 dyk55) fun Sk59 dyk59 => if gs Sk59 a0 = (0, 7) then if gs Sk59 (gr Sk59 a0 8) = (0, 4) then if gs Sk59 (gr Sk59 a0 9) = (0, 2) then if gs Sk59 (Sk55.1 + 1) = (0, 8) then (F_X8_init (Sk55.1 + 1) (gr Sk59 a0 8) (gr Sk59 a0 9) Sk59 dyk59).bind fun z64 => if gs z64.1 a0 = (0, 7) then if gs z64.1 (Sk55.1 + 1) = (0, 8) then bdZ (sr z64.1 a0 10 (Sk55.1 + 1)) (z64.2) fun Sk73 dyk73 => if gs Sk73 a0 = (0, 7) then bdZ (alS Sk73 (0, 1)) (alD Sk73 dyk73) fun Sk77 dyk77 => if gs Sk77 (Sk73.1 + 1) = (0, 1) then if gs Sk77 a0 = (0, 7) then (F_X1_init (Sk73.1 + 1) Sk77 dyk77).bind fun z80 => if gs z80.1 a0 = (0, 7) then if gs z80.1 (Sk73.1 + 1) = (0, 1) then bdZ (sr z80.1 a0 12 (Sk73.1 + 1)) (z80.2) fun Sk89 dyk89 => if gs Sk89 a0 = (0, 7) then if gs Sk89 (gr Sk89 a0 4) = (7, 3) then bdZ (alS Sk89 (0, 4)) (alD Sk89 dyk89) fun Sk94 dyk94 => if gs Sk94 (Sk89.1 + 1) = (0, 4) then if gs Sk94 a0 = (0, 7) then if gs Sk94 (gr Sk89 a0 4) = (7, 3) then (F_X4_init (Sk89.1 + 1) Sk94 dyk94).bind fun z98 => if gs z98.1 (gr Sk89 a0 4) = (7, 3) then if gs z98.1 (Sk89.1 + 1) = (0, 4) then bdZ (sr z98.1 (gr Sk89 a0 4) (0 : Int32).toNatClampNeg (Sk89.1 + 1)) (z98.2) fun Sk107 dyk107 => if gs Sk107 a0 = (0, 7) then if gs Sk107 (gr Sk107 a0 6) = (8, 3) then bdZ (alS Sk107 (0, 2)) (alD Sk107 dyk107) fun Sk112 dyk112 => if gs Sk112 (Sk107.1 + 1) = (0, 2) then if gs Sk112 a0 = (0, 7) then if gs Sk112 (gr Sk107 a0 6) = (8, 3) then (F_X2_init (Sk107.1 + 1) Sk112 dyk112).bind fun z116 => if gs z116.1 (gr Sk107 a0 6) = (8, 3) then if gs z116.1 (Sk107.1 + 1) = (0, 2) then bdZ (sr z116.1 (gr Sk107 a0 6) (0 : Int32).toNatClampNeg (Sk107.1 + 1)) (z116.2) fun Sk125 dyk125 => if gs Sk125 a0 = (0, 7) then if gs Sk125 (gr Sk125 a0 4) = (7, 3) then bdZ (alS Sk125 (0, 4)) (alD Sk125 dyk125) fun Sk130 dyk130 => if gs Sk130 (Sk125.1 + 1) = (0, 4) then if gs Sk130 a0 = (0, 7) then if gs Sk130 (gr Sk125 a0 4) = (7, 3) then (F_X4_init (Sk125.1 + 1) Sk130 dyk130).bind fun z134 => if gs z134.1 (gr Sk125 a0 4) = (7, 3) then if gs z134.1 (Sk125.1 + 1) = (0, 4) then bdZ (sr z134.1 (gr Sk125 a0 4) (1 : Int32).toNatClampNeg (Sk125.1 + 1)) (z134.2) fun Sk143 dyk143 => if gs Sk143 a0 = (0, 7) then if gs Sk143 (gr Sk143 a0 6) = (8, 3) then bdZ (alS Sk143 (0, 2)) (alD Sk143 dyk143) fun Sk148 dyk148 => if gs Sk148 (Sk143.1 + 1) = (0, 2) then if gs Sk148 a0 = (0, 7) then if gs Sk148 (gr Sk143 a0 6) = (8, 3) then (F_X2_init (Sk143.1 + 1) Sk148 dyk148).bind fun z152 => if gs z152.1 (gr Sk143 a0 6) = (8, 3) then if gs z152.1 (Sk143.1 + 1) = (0, 2) then bdZ (sr z152.1 (gr Sk143 a0 6) (1 : Int32).toNatClampNeg (Sk143.1 + 1)) (z152.2) fun Sk161 dyk161 => if gs Sk161 a0 = (0, 7) then if gs Sk161 (gr Sk161 a0 4) = (7, 3) then bdZ (alS Sk161 (0, 4)) (alD Sk161 dyk161) fun Sk166 dyk166 => if gs Sk166 (Sk161.1 + 1) = (0, 4) then if gs Sk166 a0 = (0, 7) then if gs Sk166 (gr Sk161 a0 4) = (7, 3) then (F_X4_init (Sk161.1 + 1) Sk166 dyk166).bind fun z170 => if gs z170.1 (gr Sk161 a0 4) = (7, 3) then if gs z170.1 (Sk161.1 + 1) = (0, 4) then bdZ (sr z170.1 (gr Sk161 a0 4) (2 : Int32).toNatClampNeg (Sk161.1 + 1)) (z170.2) fun Sk179 dyk179 => if gs Sk179 a0 = (0, 7) then if gs Sk179 (gr Sk179 a0 6) = (8, 3) then bdZ (alS Sk179 (0, 2)) (alD Sk179 dyk179) fun Sk184 dyk184 => if gs Sk184 (Sk179.1 + 1) = (0, 2) then if gs Sk184 a0 = (0, 7) then if gs Sk184 (gr Sk179 a0 6) = (8, 3) then (F_X2_init (Sk179.1 + 1) Sk184 dyk184).bind fun z188 => if gs z188.1 (gr Sk179 a0 6) = (8, 3) then if gs z188.1 (Sk179.1 + 1) = (0, 2) then bdZ (sr z188.1 (gr Sk179 a0 6) (2 : Int32).toNatClampNeg (Sk179.1 + 1)) (z188.2) fun Sk197 dyk197 => some (Sk197, dyk197) else none else none else none else none else none else none else none else none else none else none else none else none else none else none else none else none else none else none else none else none else none else none else none else none else none else none else none else none else none else none else none else none else none else none else none else none else none else none else none else none else none else none else none else none else none else none else none else none else none else none else none else none else none else none else none else none else none else none else none else none else none else none else none else none else none else none else none else none else none else none else none else none else none else none
theorem dX7_init_0 : decode cX7_init 0 = .ok (.aload_n 0, 1) := by decide +kernel
theorem dX7_init_1 : decode cX7_init 1 = .ok (.invokespecial 3, 3) := by decide +kernel
theorem dX7_init_4 : decode cX7_init 4 = .ok (.aload_n 0, 1) := by decide +kernel
theorem dX7_init_5 : decode cX7_init 5 = .ok (.sipush 500, 3) := by decide +kernel
theorem dX7_init_8 : decode cX7_init 8 = .ok (.newarray .byte, 2) := by decide +kernel
theorem dX7_init_10 : decode cX7_init 10 = .ok (.putfield 9, 3) := by decide +kernel
theorem dX7_init_13 : decode cX7_init 13 = .ok (.aload_n 0, 1) := by decide +kernel
theorem dX7_init_14 : decode cX7_init 14 = .ok (.iconst (-1), 1) := by decide +kernel
theorem dX7_init_15 : decode cX7_init 15 = .ok (.putfield 15, 3) := by decide +kernel
theorem dX7_init_18 : decode cX7_init 18 = .ok (.aload_n 0, 1) := by decide +kernel
theorem dX7_init_19 : decode cX7_init 19 = .ok (.iconst 3, 1) := by decide +kernel
theorem dX7_init_20 : decode cX7_init 20 = .ok (.anewarray 19, 3) := by decide +kernel
theorem dX7_init_23 : decode cX7_init 23 = .ok (.putfield 21, 3) := by decide +kernel
theorem dX7_init_26 : decode cX7_init 26 = .ok (.aload_n 0, 1) := by decide +kernel
theorem dX7_init_27 : decode cX7_init 27 = .ok (.iconst 3, 1) := by decide +kernel
theorem dX7_init_28 : decode cX7_init 28 = .ok (.anewarray 25, 3) := by decide +kernel
theorem dX7_init_31 : decode cX7_init 31 = .ok (.putfield 27, 3) := by decide +kernel
theorem dX7_init_34 : decode cX7_init 34 = .ok (.aload_n 0, 1) := by decide +kernel
theorem dX7_init_35 : decode cX7_init 35 = .ok (.new 19, 3) := by decide +kernel
theorem dX7_init_38 : decode cX7_init 38 = .ok (.dup, 1) := by decide +kernel
theorem dX7_init_39 : decode cX7_init 39 = .ok (.invokespecial 31, 3) := by decide +kernel
theorem dX7_init_42 : decode cX7_init 42 = .ok (.putfield 32, 3) := by decide +kernel
theorem dX7_init_45 : decode cX7_init 45 = .ok (.aload_n 0, 1) := by decide +kernel
theorem dX7_init_46 : decode cX7_init 46 = .ok (.new 25, 3) := by decide +kernel
theorem dX7_init_49 : decode cX7_init 49 = .ok (.dup, 1) := by decide +kernel
theorem dX7_init_50 : decode cX7_init 50 = .ok (.invokespecial 36, 3) := by decide +kernel
theorem dX7_init_53 : decode cX7_init 53 = .ok (.putfield 37, 3) := by decide +kernel
theorem dX7_init_56 : decode cX7_init 56 = .ok (.aload_n 0, 1) := by decide +kernel
theorem dX7_init_57 : decode cX7_init 57 = .ok (.new 41, 3) := by decide +kernel
theorem dX7_init_60 : decode cX7_init 60 = .ok (.dup, 1) := by decide +kernel
theorem dX7_init_61 : decode cX7_init 61 = .ok (.aload_n 0, 1) := by decide +kernel
theorem dX7_init_62 : decode cX7_init 62 = .ok (.getfield 32, 3) := by decide +kernel
theorem dX7_init_65 : decode cX7_init 65 = .ok (.aload_n 0, 1) := by decide +kernel
theorem dX7_init_66 : decode cX7_init 66 = .ok (.getfield 37, 3) := by decide +kernel
theorem dX7_init_69 : decode cX7_init 69 = .ok (.invokespecial 43, 3) := by decide +kernel
theorem dX7_init_72 : decode cX7_init 72 = .ok (.putfield 46, 3) := by decide +kernel
theorem dX7_init_75 : decode cX7_init 75 = .ok (.aload_n 0, 1) := by decide +kernel
theorem dX7_init_76 : decode cX7_init 76 = .ok (.new 50, 3) := by decide +kernel
theorem dX7_init_79 : decode cX7_init 79 = .ok (.dup, 1) := by decide +kernel
theorem dX7_init_80 : decode cX7_init 80 = .ok (.invokespecial 52, 3) := by decide +kernel
theorem dX7_init_83 : decode cX7_init 83 = .ok (.putfield 53, 3) := by decide +kernel
theorem dX7_init_86 : decode cX7_init 86 = .ok (.iconst 0, 1) := by decide +kernel
theorem dX7_init_87 : decode cX7_init 87 = .ok (.istore_n 1, 1) := by decide +kernel
theorem dX7_init_88 : decode cX7_init 88 = .ok (.iload_n 1, 1) := by decide +kernel
theorem dX7_init_89 : decode cX7_init 89 = .ok (.iconst 3, 1) := by decide +kernel
theorem dX7_init_90 : decode cX7_init 90 = .ok (.if_icmp .ge 35, 3) := by decide +kernel
theorem dX7_init_93 : decode cX7_init 93 = .ok (.aload_n 0, 1) := by decide +kernel
theorem dX7_init_94 : decode cX7_init 94 = .ok (.getfield 21, 3) := by decide +kernel
theorem dX7_init_97 : decode cX7_init 97 = .ok (.iload_n 1, 1) := by decide +kernel
theorem dX7_init_98 : decode cX7_init 98 = .ok (.new 19, 3) := by decide +kernel
theorem dX7_init_101 : decode cX7_init 101 = .ok (.dup, 1) := by decide +kernel
theorem dX7_init_102 : decode cX7_init 102 = .ok (.invokespecial 31, 3) := by decide +kernel
theorem dX7_init_105 : decode cX7_init 105 = .ok (.aastore, 1) := by decide +kernel
theorem dX7_init_106 : decode cX7_init 106 = .ok (.aload_n 0, 1) := by decide +kernel
theorem dX7_init_107 : decode cX7_init 107 = .ok (.getfield 27, 3) := by decide +kernel
theorem dX7_init_110 : decode cX7_init 110 = .ok (.iload_n 1, 1) := by decide +kernel
theorem dX7_init_111 : decode cX7_init 111 = .ok (.new 25, 3) := by decide +kernel
theorem dX7_init_114 : decode cX7_init 114 = .ok (.dup, 1) := by decide +kernel
theorem dX7_init_115 : decode cX7_init 115 = .ok (.invokespecial 36, 3) := by decide +kernel
theorem dX7_init_118 : decode cX7_init 118 = .ok (.aastore, 1) := by decide +kernel
theorem dX7_init_119 : decode cX7_init 119 = .ok (.iinc 1 1, 3) := by decide +kernel
theorem dX7_init_122 : decode cX7_init 122 = .ok (.goto (-34), 3) := by decide +kernel
theorem dX7_init_125 : decode cX7_init 125 = .ok (.return_, 1) := by decide +kernel
set_option maxHeartbeats 4000000 in
set_option maxRecDepth 100000 in
theorem M_X7_init (l : Launch) (G : GG) (ad : Nat → Nat) {S : ST} (hc0 : clo S) (a0 : Nat) (dy : DY) {S' : ST} {dy' : DY} (E : F_X7_init a0 S dy = some (S', dy')) : MN l yX7_init cX7_init 2 2 G ad [.ref (ad a0)] S S' dy dy' 89 3355 := by
  unfold F_X7_init at E
  have m0 : S.1 ≤ S.1 := Nat.le_refl _
  have ag0 : ∀ x, x ≤ S.1 → ad x = ad x := fun _ _ => rfl
  refine mn_of RX7 (by decide) rfl rfl (Nat.le_of_ble_eq_true rfl) (fun p e s m args below meth c A C HR HL HI => ?_)
  refine ww_sub (lv' := [(0, .ref (ad a0))]) [0] rfl ?_
  refine ww_aload_n C dX7_init_0 rfl 0 rfl ?_
  refine ww_objinit C dX7_init_1 q140 q133 qObj (Nat.le_of_ble_eq_true rfl) (Nat.le_of_ble_eq_true rfl) (Nat.le_of_ble_eq_true rfl) ?_
  refine ww_aload_n C dX7_init_4 rfl 0 rfl ?_
  refine ww_sipush (v := (500)) C dX7_init_5 (by decide) ?_
  obtain ⟨T_1, E⟩ := gd_of E
  refine ww_newa (t := 2) (N := 500) C dX7_init_8 hc0 rfl (by decide) (by decide) rfl q223 (by decide) (by decide) (Nat.le_of_ble_eq_true rfl) (Nat.le_of_ble_eq_true rfl) (Nat.le_of_ble_eq_true rfl) (fun ad3 gg2 => ?_)
  rw [← gg2 a0 (gs_lt T_1 (by decide)).2]
  refine ww_bdZ E (fun Sk4 dyk4 ek4 E => ?_)
  have mk4 : S.1 ≤ Sk4.1 := by rw [ek4]; exact Nat.le_succ_of_le m0
  have ck4 : clo Sk4 := by rw [ek4]; exact clo_al hc0
  have gk4 : ∀ x, x ≤ S.1 → ad3 x = ad x := fun x hx => (gg2 x (Nat.le_trans hx m0)).trans (ag0 x hx)
  obtain ⟨T_5, E⟩ := gd_of E
  obtain ⟨T_6, E⟩ := gd_of E
  refine ww_putr (ci := 7) (k0 := 0) C dX7_init_10 HI rfl rfl inm7 tyX7_ok nmX7 (by decide) T_5 T_6 (by decide) q367 rfl rfl (tyX7_ok 0 (by decide)) (fun _ => rfl) (fun _ => rfl) rfl ?_
  refine ww_bdZ E (fun Sk7 dyk7 ek7 E => ?_)
  have mk7 : S.1 ≤ Sk7.1 := by rw [ek7]; exact mk4
  have ck7 : clo Sk7 := by rw [ek7]; exact clo_sr ck4 (gs_lt T_6 (by decide)).2
  refine ww_aload_n C dX7_init_13 rfl 0 rfl ?_
  refine ww_iconst (v := (-1)) C dX7_init_14 (by decide) ?_
  obtain ⟨T_8, E⟩ := gd_of E
  refine ww_puti (ci := 7) (k0 := 3) C dX7_init_15 rfl rfl inm7 tyX7_ok nmX7 (by decide) T_8 q373 rfl rfl rfl ?_
  refine ww_bdZ E (fun Sk9 dyk9 ek9 E => ?_)
  have mk9 : S.1 ≤ Sk9.1 := by rw [ek9]; exact mk7
  have ck9 : clo Sk9 := by rw [ek9]; exact ck7
  refine ww_aload_n C dX7_init_18 rfl 0 rfl ?_
  refine ww_iconst (v := (3)) C dX7_init_19 (by decide) ?_
  obtain ⟨T_10, E⟩ := gd_of E
  refine ww_newq (t := 7) (N := 3) C dX7_init_20 ck9 (by decide) rfl (by decide) q141 (by decide) (by decide) (Nat.le_of_ble_eq_true rfl) (Nat.le_of_ble_eq_true rfl) (Nat.le_of_ble_eq_true rfl) (fun ad12 gg11 => ?_)
  rw [← gg11 a0 (gs_lt T_10 (by decide)).2]
  refine ww_bdZ E (fun Sk13 dyk13 ek13 E => ?_)
  have mk13 : S.1 ≤ Sk13.1 := by rw [ek13]; exact Nat.le_succ_of_le mk9
  have ck13 : clo Sk13 := by rw [ek13]; exact clo_al ck9
  have gk13 : ∀ x, x ≤ S.1 → ad12 x = ad x := fun x hx => (gg11 x (Nat.le_trans hx mk9)).trans (gk4 x hx)
  obtain ⟨T_14, E⟩ := gd_of E
  obtain ⟨T_15, E⟩ := gd_of E
  refine ww_putr (ci := 7) (k0 := 4) C dX7_init_23 HI rfl rfl inm7 tyX7_ok nmX7 (by decide) T_14 T_15 (by decide) q375 rfl rfl (tyX7_ok 4 (by decide)) (fun _ => rfl) (fun _ => rfl) rfl ?_
  refine ww_bdZ E (fun Sk16 dyk16 ek16 E => ?_)
  have mk16 : S.1 ≤ Sk16.1 := by rw [ek16]; exact mk13
  have ck16 : clo Sk16 := by rw [ek16]; exact clo_sr ck13 (gs_lt T_15 (by decide)).2
  refine ww_aload_n C dX7_init_26 rfl 0 rfl ?_
  refine ww_iconst (v := (3)) C dX7_init_27 (by decide) ?_
  obtain ⟨T_17, E⟩ := gd_of E
  refine ww_newq (t := 8) (N := 3) C dX7_init_28 ck16 (by decide) rfl (by decide) q143 (by decide) (by decide) (Nat.le_of_ble_eq_true rfl) (Nat.le_of_ble_eq_true rfl) (Nat.le_of_ble_eq_true rfl) (fun ad19 gg18 => ?_)
  rw [← gg18 a0 (gs_lt T_17 (by decide)).2]
  refine ww_bdZ E (fun Sk20 dyk20 ek20 E => ?_)
  have mk20 : S.1 ≤ Sk20.1 := by rw [ek20]; exact Nat.le_succ_of_le mk16
  have ck20 : clo Sk20 := by rw [ek20]; exact clo_al ck16
  have gk20 : ∀ x, x ≤ S.1 → ad19 x = ad x := fun x hx => (gg18 x (Nat.le_trans hx mk16)).trans (gk13 x hx)
  obtain ⟨T_21, E⟩ := gd_of E
  obtain ⟨T_22, E⟩ := gd_of E
  refine ww_putr (ci := 7) (k0 := 6) C dX7_init_31 HI rfl rfl inm7 tyX7_ok nmX7 (by decide) T_21 T_22 (by decide) q378 rfl rfl (tyX7_ok 6 (by decide)) (fun _ => rfl) (fun _ => rfl) rfl ?_
  refine ww_bdZ E (fun Sk23 dyk23 ek23 E => ?_)
  have mk23 : S.1 ≤ Sk23.1 := by rw [ek23]; exact mk20
  have ck23 : clo Sk23 := by rw [ek23]; exact clo_sr ck20 (gs_lt T_22 (by decide)).2
  refine ww_aload_n C dX7_init_34 rfl 0 rfl ?_
  obtain ⟨T_24, E⟩ := gd_of E
  refine ww_new (ci := 4) C dX7_init_35 ck23 rfl rfl inm4 tyX4_ok (by decide) q141 q145 q110 (Nat.le_of_ble_eq_true rfl) (Nat.le_of_ble_eq_true rfl) (fun ad26 gg25 => ?_)
  rw [← gg25 a0 (gs_lt T_24 (by decide)).2]
  refine ww_bdZ E (fun Sk27 dyk27 ek27 E => ?_)
  have mk27 : S.1 ≤ Sk27.1 := by rw [ek27]; exact Nat.le_succ_of_le mk23
  have ck27 : clo Sk27 := by rw [ek27]; exact clo_al ck23
  have gk27 : ∀ x, x ≤ S.1 → ad26 x = ad x := fun x hx => (gg25 x (Nat.le_trans hx mk23)).trans (gk20 x hx)
  refine ww_dup C dX7_init_38 rfl ?_
  obtain ⟨T_28, E⟩ := gd_of E
  obtain ⟨T_29, E⟩ := gd_of E
  obtain ⟨z30, e_31, E⟩ := bind_of E
  refine ww_callNN (n := 0) (st := [.ref (ad26 (Sk23.1 + 1)), .ref (ad26 a0)]) C [] (M_X4_init l G ad26 ck27 (Sk23.1 + 1) dyk27 e_31) ⟨q148, q110, by decide⟩ (List.mem_of_getElem? (i := 0) rfl) q147 rfl rfl (Nat.le_of_ble_eq_true rfl) ⟨(Nat.le_of_ble_eq_true rfl), (Nat.le_of_ble_eq_true rfl)⟩ ⟨(Nat.le_of_ble_eq_true rfl), (Nat.le_of_ble_eq_true rfl)⟩ dX7_init_39 rfl (fun ad33 gg32 ck34 mk35 => ?_)
  rw [← gg32 a0 (gs_lt T_29 (by decide)).2]
  rw [← gg32 (Sk23.1 + 1) (gs_lt T_28 (by decide)).2]
  have mk36 : S.1 ≤ z30.1.1 := Nat.le_trans mk27 mk35
  have gk36 : ∀ x, x ≤ S.1 → ad33 x = ad x := fun x hx => (gg32 x (Nat.le_trans hx mk27)).trans (gk27 x hx)
  obtain ⟨T_37, E⟩ := gd_of E
  obtain ⟨T_38, E⟩ := gd_of E
  refine ww_putr (ci := 7) (k0 := 8) C dX7_init_42 HI rfl rfl inm7 tyX7_ok nmX7 (by decide) T_37 T_38 (by decide) q381 rfl rfl (tyX7_ok 8 (by decide)) (fun _ => rfl) (fun _ => rfl) rfl ?_
  refine ww_bdZ E (fun Sk39 dyk39 ek39 E => ?_)
  have mk39 : S.1 ≤ Sk39.1 := by rw [ek39]; exact mk36
  have ck39 : clo Sk39 := by rw [ek39]; exact clo_sr ck34 (gs_lt T_38 (by decide)).2
  refine ww_aload_n C dX7_init_45 rfl 0 rfl ?_
  obtain ⟨T_40, E⟩ := gd_of E
  refine ww_new (ci := 2) C dX7_init_46 ck39 rfl rfl inm2 tyX2_ok (by decide) q143 q226 q111 (Nat.le_of_ble_eq_true rfl) (Nat.le_of_ble_eq_true rfl) (fun ad42 gg41 => ?_)
  rw [← gg41 a0 (gs_lt T_40 (by decide)).2]
  refine ww_bdZ E (fun Sk43 dyk43 ek43 E => ?_)
  have mk43 : S.1 ≤ Sk43.1 := by rw [ek43]; exact Nat.le_succ_of_le mk39
  have ck43 : clo Sk43 := by rw [ek43]; exact clo_al ck39
  have gk43 : ∀ x, x ≤ S.1 → ad42 x = ad x := fun x hx => (gg41 x (Nat.le_trans hx mk39)).trans (gk36 x hx)
  refine ww_dup C dX7_init_49 rfl ?_
  obtain ⟨T_44, E⟩ := gd_of E
  obtain ⟨T_45, E⟩ := gd_of E
  obtain ⟨z46, e_47, E⟩ := bind_of E
  refine ww_callNN (n := 0) (st := [.ref (ad42 (Sk39.1 + 1)), .ref (ad42 a0)]) C [] (M_X2_init l G ad42 ck43 (Sk39.1 + 1) dyk43 e_47) ⟨q229, q111, by decide⟩ (List.mem_of_getElem? (i := 1) rfl) q228 rfl rfl (Nat.le_of_ble_eq_true rfl) ⟨(Nat.le_of_ble_eq_true rfl), (Nat.le_of_ble_eq_true rfl)⟩ ⟨(Nat.le_of_ble_eq_true rfl), (Nat.le_of_ble_eq_true rfl)⟩ dX7_init_50 rfl (fun ad49 gg48 ck50 mk51 => ?_)
  rw [← gg48 a0 (gs_lt T_45 (by decide)).2]
  rw [← gg48 (Sk39.1 + 1) (gs_lt T_44 (by decide)).2]
  have mk52 : S.1 ≤ z46.1.1 := Nat.le_trans mk43 mk51
  have gk52 : ∀ x, x ≤ S.1 → ad49 x = ad x := fun x hx => (gg48 x (Nat.le_trans hx mk43)).trans (gk43 x hx)
  obtain ⟨T_53, E⟩ := gd_of E
  obtain ⟨T_54, E⟩ := gd_of E
  refine ww_putr (ci := 7) (k0 := 9) C dX7_init_53 HI rfl rfl inm7 tyX7_ok nmX7 (by decide) T_53 T_54 (by decide) q383 rfl rfl (tyX7_ok 9 (by decide)) (fun _ => rfl) (fun _ => rfl) rfl ?_
  refine ww_bdZ E (fun Sk55 dyk55 ek55 E => ?_)
  have mk55 : S.1 ≤ Sk55.1 := by rw [ek55]; exact mk52
  have ck55 : clo Sk55 := by rw [ek55]; exact clo_sr ck50 (gs_lt T_54 (by decide)).2
  refine ww_aload_n C dX7_init_56 rfl 0 rfl ?_
  obtain ⟨T_56, E⟩ := gd_of E
  refine ww_new (ci := 8) C dX7_init_57 ck55 rfl rfl inm8 tyX8_ok (by decide) q255 q256 q112 (Nat.le_of_ble_eq_true rfl) (Nat.le_of_ble_eq_true rfl) (fun ad58 gg57 => ?_)
  rw [← gg57 a0 (gs_lt T_56 (by decide)).2]
  refine ww_bdZ E (fun Sk59 dyk59 ek59 E => ?_)
  have mk59 : S.1 ≤ Sk59.1 := by rw [ek59]; exact Nat.le_succ_of_le mk55
  have ck59 : clo Sk59 := by rw [ek59]; exact clo_al ck55
  have gk59 : ∀ x, x ≤ S.1 → ad58 x = ad x := fun x hx => (gg57 x (Nat.le_trans hx mk55)).trans (gk52 x hx)
  refine ww_dup C dX7_init_60 rfl ?_
  refine ww_aload_n C dX7_init_61 rfl 0 rfl ?_
  obtain ⟨T_60, E⟩ := gd_of E
  obtain ⟨T_61, E⟩ := gd_of E
  refine ww_getr (ci := 7) (k0 := 8) C dX7_init_62 rfl rfl inm7 (by decide) T_60 q381 rfl T_61 (by decide) ?_
  refine ww_aload_n C dX7_init_65 rfl 0 rfl ?_
  obtain ⟨T_62, E⟩ := gd_of E
  refine ww_getr (ci := 7) (k0 := 9) C dX7_init_66 rfl rfl inm7 (by decide) T_60 q383 rfl T_62 (by decide) ?_
  obtain ⟨T_63, E⟩ := gd_of E
  obtain ⟨z64, e_65, E⟩ := bind_of E
  refine ww_callN (n := 2) (st := [.ref (ad58 (Sk55.1 + 1)), .ref (ad58 a0)]) C [.ref (ad58 (gr Sk59 a0 8)), .ref (ad58 (gr Sk59 a0 9))] (M_X8_init l G ad58 ck59 (Sk55.1 + 1) (gr Sk59 a0 8) (gr Sk59 a0 9) dyk59 e_65) ⟨q259, q112, by decide⟩ q257 q258 rfl rfl (Nat.le_of_ble_eq_true rfl) ⟨(Nat.le_of_ble_eq_true rfl), (Nat.le_of_ble_eq_true rfl)⟩ ⟨(Nat.le_of_ble_eq_true rfl), (Nat.le_of_ble_eq_true rfl)⟩ dX7_init_69 rfl (fun ad67 gg66 ck68 mk69 => ?_)
  rw [← gg66 a0 (gs_lt T_60 (by decide)).2]
  rw [← gg66 (Sk55.1 + 1) (gs_lt T_63 (by decide)).2]
  have mk70 : S.1 ≤ z64.1.1 := Nat.le_trans mk59 mk69
  have gk70 : ∀ x, x ≤ S.1 → ad67 x = ad x := fun x hx => (gg66 x (Nat.le_trans hx mk59)).trans (gk59 x hx)
  obtain ⟨T_71, E⟩ := gd_of E
  obtain ⟨T_72, E⟩ := gd_of E
  refine ww_putr (ci := 7) (k0 := 10) C dX7_init_72 HI rfl rfl inm7 tyX7_ok nmX7 (by decide) T_71 T_72 (by decide) q385 rfl rfl (tyX7_ok 10 (by decide)) (fun _ => rfl) (fun _ => rfl) rfl ?_
  refine ww_bdZ E (fun Sk73 dyk73 ek73 E => ?_)
  have mk73 : S.1 ≤ Sk73.1 := by rw [ek73]; exact mk70
  have ck73 : clo Sk73 := by rw [ek73]; exact clo_sr ck68 (gs_lt T_72 (by decide)).2
  refine ww_aload_n C dX7_init_75 rfl 0 rfl ?_
  obtain ⟨T_74, E⟩ := gd_of E
  refine ww_new (ci := 1) C dX7_init_76 ck73 rfl rfl inm1 tyX1_ok (by decide) q341 q342 q113 (Nat.le_of_ble_eq_true rfl) (Nat.le_of_ble_eq_true rfl) (fun ad76 gg75 => ?_)
  rw [← gg75 a0 (gs_lt T_74 (by decide)).2]
  refine ww_bdZ E (fun Sk77 dyk77 ek77 E => ?_)
  have mk77 : S.1 ≤ Sk77.1 := by rw [ek77]; exact Nat.le_succ_of_le mk73
  have ck77 : clo Sk77 := by rw [ek77]; exact clo_al ck73
  have gk77 : ∀ x, x ≤ S.1 → ad76 x = ad x := fun x hx => (gg75 x (Nat.le_trans hx mk73)).trans (gk70 x hx)
  refine ww_dup C dX7_init_79 rfl ?_
  obtain ⟨T_78, E⟩ := gd_of E
  obtain ⟨T_79, E⟩ := gd_of E
  obtain ⟨z80, e_81, E⟩ := bind_of E
  refine ww_callNN (n := 0) (st := [.ref (ad76 (Sk73.1 + 1)), .ref (ad76 a0)]) C [] (M_X1_init l G ad76 ck77 (Sk73.1 + 1) dyk77 e_81) ⟨q345, q113, by decide⟩ (List.mem_of_getElem? (i := 2) rfl) q344 rfl rfl (Nat.le_of_ble_eq_true rfl) ⟨(Nat.le_of_ble_eq_true rfl), (Nat.le_of_ble_eq_true rfl)⟩ ⟨(Nat.le_of_ble_eq_true rfl), (Nat.le_of_ble_eq_true rfl)⟩ dX7_init_80 rfl (fun ad83 gg82 ck84 mk85 => ?_)
  rw [← gg82 a0 (gs_lt T_79 (by decide)).2]
  rw [← gg82 (Sk73.1 + 1) (gs_lt T_78 (by decide)).2]
  have mk86 : S.1 ≤ z80.1.1 := Nat.le_trans mk77 mk85
  have gk86 : ∀ x, x ≤ S.1 → ad83 x = ad x := fun x hx => (gg82 x (Nat.le_trans hx mk77)).trans (gk77 x hx)
  obtain ⟨T_87, E⟩ := gd_of E
  obtain ⟨T_88, E⟩ := gd_of E
  refine ww_putr (ci := 7) (k0 := 12) C dX7_init_83 HI rfl rfl inm7 tyX7_ok nmX7 (by decide) T_87 T_88 (by decide) q389 rfl rfl (tyX7_ok 12 (by decide)) (fun _ => rfl) (fun _ => rfl) rfl ?_
  refine ww_bdZ E (fun Sk89 dyk89 ek89 E => ?_)
  have mk89 : S.1 ≤ Sk89.1 := by rw [ek89]; exact mk86
  have ck89 : clo Sk89 := by rw [ek89]; exact clo_sr ck84 (gs_lt T_88 (by decide)).2
  refine ww_iconst (v := (0)) C dX7_init_86 (by decide) ?_
  refine ww_istore_n (lv' := [(1, .int (0 : Int32)), (0, .ref (ad83 a0))]) C dX7_init_87 rfl (by decide) rfl ?_
  refine ww_iload_n C dX7_init_88 rfl 0 rfl ?_
  refine ww_iconst (v := (3)) C dX7_init_89 (by decide) ?_
  refine ww_jcgeF (tgt := 125) C dX7_init_90 (by decide) (by decide) ?_
  refine ww_aload_n C dX7_init_93 rfl 1 rfl ?_
  obtain ⟨T_90, E⟩ := gd_of E
  obtain ⟨T_91, E⟩ := gd_of E
  refine ww_getr (ci := 7) (k0 := 4) C dX7_init_94 rfl rfl inm7 (by decide) T_90 q375 rfl T_91 (by decide) ?_
  refine ww_iload_n C dX7_init_97 rfl 0 rfl ?_
  refine ww_new (ci := 4) C dX7_init_98 ck89 rfl rfl inm4 tyX4_ok (by decide) q141 q145 q110 (Nat.le_of_ble_eq_true rfl) (Nat.le_of_ble_eq_true rfl) (fun ad93 gg92 => ?_)
  rw [← gg92 a0 (gs_lt T_90 (by decide)).2]
  rw [← gg92 (gr Sk89 a0 4) (gs_lt T_91 (by decide)).2]
  refine ww_bdZ E (fun Sk94 dyk94 ek94 E => ?_)
  have mk94 : S.1 ≤ Sk94.1 := by rw [ek94]; exact Nat.le_succ_of_le mk89
  have ck94 : clo Sk94 := by rw [ek94]; exact clo_al ck89
  have gk94 : ∀ x, x ≤ S.1 → ad93 x = ad x := fun x hx => (gg92 x (Nat.le_trans hx mk89)).trans (gk86 x hx)
  refine ww_dup C dX7_init_101 rfl ?_
  obtain ⟨T_95, E⟩ := gd_of E
  obtain ⟨T_96, E⟩ := gd_of E
  obtain ⟨T_97, E⟩ := gd_of E
  obtain ⟨z98, e_99, E⟩ := bind_of E
  refine ww_callNN (n := 0) (st := [.ref (ad93 (Sk89.1 + 1)), .int (0 : Int32), .ref (ad93 (gr Sk89 a0 4))]) C [] (M_X4_init l G ad93 ck94 (Sk89.1 + 1) dyk94 e_99) ⟨q148, q110, by decide⟩ (List.mem_of_getElem? (i := 0) rfl) q147 rfl rfl (Nat.le_of_ble_eq_true rfl) ⟨(Nat.le_of_ble_eq_true rfl), (Nat.le_of_ble_eq_true rfl)⟩ ⟨(Nat.le_of_ble_eq_true rfl), (Nat.le_of_ble_eq_true rfl)⟩ dX7_init_102 rfl (fun ad101 gg100 ck102 mk103 => ?_)
  rw [← gg100 a0 (gs_lt T_96 (by decide)).2]
  rw [← gg100 (gr Sk89 a0 4) (gs_lt T_97 (by decide)).2]
  rw [← gg100 (Sk89.1 + 1) (gs_lt T_95 (by decide)).2]
  have mk104 : S.1 ≤ z98.1.1 := Nat.le_trans mk94 mk103
  have gk104 : ∀ x, x ≤ S.1 → ad101 x = ad x := fun x hx => (gg100 x (Nat.le_trans hx mk94)).trans (gk94 x hx)
  obtain ⟨T_105, E⟩ := gd_of E
  obtain ⟨T_106, E⟩ := gd_of E
  refine ww_aast (ci := 4) C dX7_init_105 T_105 (by decide) (by decide) rfl rfl T_106 (by decide) ?_
  refine ww_bdZ E (fun Sk107 dyk107 ek107 E => ?_)
  have mk107 : S.1 ≤ Sk107.1 := by rw [ek107]; exact mk104
  have ck107 : clo Sk107 := by rw [ek107]; exact clo_sr ck102 (gs_lt T_106 (by decide)).2
  refine ww_aload_n C dX7_init_106 rfl 1 rfl ?_
  obtain ⟨T_108, E⟩ := gd_of E
  obtain ⟨T_109, E⟩ := gd_of E
  refine ww_getr (ci := 7) (k0 := 6) C dX7_init_107 rfl rfl inm7 (by decide) T_108 q378 rfl T_109 (by decide) ?_
  refine ww_iload_n C dX7_init_110 rfl 0 rfl ?_
  refine ww_new (ci := 2) C dX7_init_111 ck107 rfl rfl inm2 tyX2_ok (by decide) q143 q226 q111 (Nat.le_of_ble_eq_true rfl) (Nat.le_of_ble_eq_true rfl) (fun ad111 gg110 => ?_)
  rw [← gg110 a0 (gs_lt T_108 (by decide)).2]
  rw [← gg110 (gr Sk107 a0 6) (gs_lt T_109 (by decide)).2]
  refine ww_bdZ E (fun Sk112 dyk112 ek112 E => ?_)
  have mk112 : S.1 ≤ Sk112.1 := by rw [ek112]; exact Nat.le_succ_of_le mk107
  have ck112 : clo Sk112 := by rw [ek112]; exact clo_al ck107
  have gk112 : ∀ x, x ≤ S.1 → ad111 x = ad x := fun x hx => (gg110 x (Nat.le_trans hx mk107)).trans (gk104 x hx)
  refine ww_dup C dX7_init_114 rfl ?_
  obtain ⟨T_113, E⟩ := gd_of E
  obtain ⟨T_114, E⟩ := gd_of E
  obtain ⟨T_115, E⟩ := gd_of E
  obtain ⟨z116, e_117, E⟩ := bind_of E
  refine ww_callNN (n := 0) (st := [.ref (ad111 (Sk107.1 + 1)), .int (0 : Int32), .ref (ad111 (gr Sk107 a0 6))]) C [] (M_X2_init l G ad111 ck112 (Sk107.1 + 1) dyk112 e_117) ⟨q229, q111, by decide⟩ (List.mem_of_getElem? (i := 1) rfl) q228 rfl rfl (Nat.le_of_ble_eq_true rfl) ⟨(Nat.le_of_ble_eq_true rfl), (Nat.le_of_ble_eq_true rfl)⟩ ⟨(Nat.le_of_ble_eq_true rfl), (Nat.le_of_ble_eq_true rfl)⟩ dX7_init_115 rfl (fun ad119 gg118 ck120 mk121 => ?_)
  rw [← gg118 a0 (gs_lt T_114 (by decide)).2]
  rw [← gg118 (gr Sk107 a0 6) (gs_lt T_115 (by decide)).2]
  rw [← gg118 (Sk107.1 + 1) (gs_lt T_113 (by decide)).2]
  have mk122 : S.1 ≤ z116.1.1 := Nat.le_trans mk112 mk121
  have gk122 : ∀ x, x ≤ S.1 → ad119 x = ad x := fun x hx => (gg118 x (Nat.le_trans hx mk112)).trans (gk112 x hx)
  obtain ⟨T_123, E⟩ := gd_of E
  obtain ⟨T_124, E⟩ := gd_of E
  refine ww_aast (ci := 2) C dX7_init_118 T_123 (by decide) (by decide) rfl rfl T_124 (by decide) ?_
  refine ww_bdZ E (fun Sk125 dyk125 ek125 E => ?_)
  have mk125 : S.1 ≤ Sk125.1 := by rw [ek125]; exact mk122
  have ck125 : clo Sk125 := by rw [ek125]; exact clo_sr ck120 (gs_lt T_124 (by decide)).2
  refine ww_iinc (v := (1)) (lv' := [(1, .int (1 : Int32)), (0, .ref (ad119 a0))]) C dX7_init_119 0 rfl (by decide) (by decide) rfl ?_
  refine ww_goto (tgt := 88) C dX7_init_122 (by decide) ?_
  refine ww_iload_n C dX7_init_88 rfl 0 rfl ?_
  refine ww_iconst (v := (3)) C dX7_init_89 (by decide) ?_
  refine ww_jcgeF (tgt := 125) C dX7_init_90 (by decide) (by decide) ?_
  refine ww_aload_n C dX7_init_93 rfl 1 rfl ?_
  obtain ⟨T_126, E⟩ := gd_of E
  obtain ⟨T_127, E⟩ := gd_of E
  refine ww_getr (ci := 7) (k0 := 4) C dX7_init_94 rfl rfl inm7 (by decide) T_126 q375 rfl T_127 (by decide) ?_
  refine ww_iload_n C dX7_init_97 rfl 0 rfl ?_
  refine ww_new (ci := 4) C dX7_init_98 ck125 rfl rfl inm4 tyX4_ok (by decide) q141 q145 q110 (Nat.le_of_ble_eq_true rfl) (Nat.le_of_ble_eq_true rfl) (fun ad129 gg128 => ?_)
  rw [← gg128 a0 (gs_lt T_126 (by decide)).2]
  rw [← gg128 (gr Sk125 a0 4) (gs_lt T_127 (by decide)).2]
  refine ww_bdZ E (fun Sk130 dyk130 ek130 E => ?_)
  have mk130 : S.1 ≤ Sk130.1 := by rw [ek130]; exact Nat.le_succ_of_le mk125
  have ck130 : clo Sk130 := by rw [ek130]; exact clo_al ck125
  have gk130 : ∀ x, x ≤ S.1 → ad129 x = ad x := fun x hx => (gg128 x (Nat.le_trans hx mk125)).trans (gk122 x hx)
  refine ww_dup C dX7_init_101 rfl ?_
  obtain ⟨T_131, E⟩ := gd_of E
  obtain ⟨T_132, E⟩ := gd_of E
  obtain ⟨T_133, E⟩ := gd_of E
  obtain ⟨z134, e_135, E⟩ := bind_of E
  refine ww_callNN (n := 0) (st := [.ref (ad129 (Sk125.1 + 1)), .int (1 : Int32), .ref (ad129 (gr Sk125 a0 4))]) C [] (M_X4_init l G ad129 ck130 (Sk125.1 + 1) dyk130 e_135) ⟨q148, q110, by decide⟩ (List.mem_of_getElem? (i := 0) rfl) q147 rfl rfl (Nat.le_of_ble_eq_true rfl) ⟨(Nat.le_of_ble_eq_true rfl), (Nat.le_of_ble_eq_true rfl)⟩ ⟨(Nat.le_of_ble_eq_true rfl), (Nat.le_of_ble_eq_true rfl)⟩ dX7_init_102 rfl (fun ad137 gg136 ck138 mk139 => ?_)
  rw [← gg136 a0 (gs_lt T_132 (by decide)).2]
  rw [← gg136 (gr Sk125 a0 4) (gs_lt T_133 (by decide)).2]
  rw [← gg136 (Sk125.1 + 1) (gs_lt T_131 (by decide)).2]
  have mk140 : S.1 ≤ z134.1.1 := Nat.le_trans mk130 mk139
  have gk140 : ∀ x, x ≤ S.1 → ad137 x = ad x := fun x hx => (gg136 x (Nat.le_trans hx mk130)).trans (gk130 x hx)
  obtain ⟨T_141, E⟩ := gd_of E
  obtain ⟨T_142, E⟩ := gd_of E
  refine ww_aast (ci := 4) C dX7_init_105 T_141 (by decide) (by decide) rfl rfl T_142 (by decide) ?_
  refine ww_bdZ E (fun Sk143 dyk143 ek143 E => ?_)
  have mk143 : S.1 ≤ Sk143.1 := by rw [ek143]; exact mk140
  have ck143 : clo Sk143 := by rw [ek143]; exact clo_sr ck138 (gs_lt T_142 (by decide)).2
  refine ww_aload_n C dX7_init_106 rfl 1 rfl ?_
  obtain ⟨T_144, E⟩ := gd_of E
  obtain ⟨T_145, E⟩ := gd_of E
  refine ww_getr (ci := 7) (k0 := 6) C dX7_init_107 rfl rfl inm7 (by decide) T_144 q378 rfl T_145 (by decide) ?_
  refine ww_iload_n C dX7_init_110 rfl 0 rfl ?_
  refine ww_new (ci := 2) C dX7_init_111 ck143 rfl rfl inm2 tyX2_ok (by decide) q143 q226 q111 (Nat.le_of_ble_eq_true rfl) (Nat.le_of_ble_eq_true rfl) (fun ad147 gg146 => ?_)
  rw [← gg146 a0 (gs_lt T_144 (by decide)).2]
  rw [← gg146 (gr Sk143 a0 6) (gs_lt T_145 (by decide)).2]
  refine ww_bdZ E (fun Sk148 dyk148 ek148 E => ?_)
  have mk148 : S.1 ≤ Sk148.1 := by rw [ek148]; exact Nat.le_succ_of_le mk143
  have ck148 : clo Sk148 := by rw [ek148]; exact clo_al ck143
  have gk148 : ∀ x, x ≤ S.1 → ad147 x = ad x := fun x hx => (gg146 x (Nat.le_trans hx mk143)).trans (gk140 x hx)
  refine ww_dup C dX7_init_114 rfl ?_
  obtain ⟨T_149, E⟩ := gd_of E
  obtain ⟨T_150, E⟩ := gd_of E
  obtain ⟨T_151, E⟩ := gd_of E
  obtain ⟨z152, e_153, E⟩ := bind_of E
  refine ww_callNN (n := 0) (st := [.ref (ad147 (Sk143.1 + 1)), .int (1 : Int32), .ref (ad147 (gr Sk143 a0 6))]) C [] (M_X2_init l G ad147 ck148 (Sk143.1 + 1) dyk148 e_153) ⟨q229, q111, by decide⟩ (List.mem_of_getElem? (i := 1) rfl) q228 rfl rfl (Nat.le_of_ble_eq_true rfl) ⟨(Nat.le_of_ble_eq_true rfl), (Nat.le_of_ble_eq_true rfl)⟩ ⟨(Nat.le_of_ble_eq_true rfl), (Nat.le_of_ble_eq_true rfl)⟩ dX7_init_115 rfl (fun ad155 gg154 ck156 mk157 => ?_)
  rw [← gg154 a0 (gs_lt T_150 (by decide)).2]
  rw [← gg154 (gr Sk143 a0 6) (gs_lt T_151 (by decide)).2]
  rw [← gg154 (Sk143.1 + 1) (gs_lt T_149 (by decide)).2]
  have mk158 : S.1 ≤ z152.1.1 := Nat.le_trans mk148 mk157
  have gk158 : ∀ x, x ≤ S.1 → ad155 x = ad x := fun x hx => (gg154 x (Nat.le_trans hx mk148)).trans (gk148 x hx)
  obtain ⟨T_159, E⟩ := gd_of E
  obtain ⟨T_160, E⟩ := gd_of E
  refine ww_aast (ci := 2) C dX7_init_118 T_159 (by decide) (by decide) rfl rfl T_160 (by decide) ?_
  refine ww_bdZ E (fun Sk161 dyk161 ek161 E => ?_)
  have mk161 : S.1 ≤ Sk161.1 := by rw [ek161]; exact mk158
  have ck161 : clo Sk161 := by rw [ek161]; exact clo_sr ck156 (gs_lt T_160 (by decide)).2
  refine ww_iinc (v := (2)) (lv' := [(1, .int (2 : Int32)), (0, .ref (ad155 a0))]) C dX7_init_119 0 rfl (by decide) (by decide) rfl ?_
  refine ww_goto (tgt := 88) C dX7_init_122 (by decide) ?_
  refine ww_iload_n C dX7_init_88 rfl 0 rfl ?_
  refine ww_iconst (v := (3)) C dX7_init_89 (by decide) ?_
  refine ww_jcgeF (tgt := 125) C dX7_init_90 (by decide) (by decide) ?_
  refine ww_aload_n C dX7_init_93 rfl 1 rfl ?_
  obtain ⟨T_162, E⟩ := gd_of E
  obtain ⟨T_163, E⟩ := gd_of E
  refine ww_getr (ci := 7) (k0 := 4) C dX7_init_94 rfl rfl inm7 (by decide) T_162 q375 rfl T_163 (by decide) ?_
  refine ww_iload_n C dX7_init_97 rfl 0 rfl ?_
  refine ww_new (ci := 4) C dX7_init_98 ck161 rfl rfl inm4 tyX4_ok (by decide) q141 q145 q110 (Nat.le_of_ble_eq_true rfl) (Nat.le_of_ble_eq_true rfl) (fun ad165 gg164 => ?_)
  rw [← gg164 a0 (gs_lt T_162 (by decide)).2]
  rw [← gg164 (gr Sk161 a0 4) (gs_lt T_163 (by decide)).2]
  refine ww_bdZ E (fun Sk166 dyk166 ek166 E => ?_)
  have mk166 : S.1 ≤ Sk166.1 := by rw [ek166]; exact Nat.le_succ_of_le mk161
  have ck166 : clo Sk166 := by rw [ek166]; exact clo_al ck161
  have gk166 : ∀ x, x ≤ S.1 → ad165 x = ad x := fun x hx => (gg164 x (Nat.le_trans hx mk161)).trans (gk158 x hx)
  refine ww_dup C dX7_init_101 rfl ?_
  obtain ⟨T_167, E⟩ := gd_of E
  obtain ⟨T_168, E⟩ := gd_of E
  obtain ⟨T_169, E⟩ := gd_of E
  obtain ⟨z170, e_171, E⟩ := bind_of E
  refine ww_callNN (n := 0) (st := [.ref (ad165 (Sk161.1 + 1)), .int (2 : Int32), .ref (ad165 (gr Sk161 a0 4))]) C [] (M_X4_init l G ad165 ck166 (Sk161.1 + 1) dyk166 e_171) ⟨q148, q110, by decide⟩ (List.mem_of_getElem? (i := 0) rfl) q147 rfl rfl (Nat.le_of_ble_eq_true rfl) ⟨(Nat.le_of_ble_eq_true rfl), (Nat.le_of_ble_eq_true rfl)⟩ ⟨(Nat.le_of_ble_eq_true rfl), (Nat.le_of_ble_eq_true rfl)⟩ dX7_init_102 rfl (fun ad173 gg172 ck174 mk175 => ?_)
  rw [← gg172 a0 (gs_lt T_168 (by decide)).2]
  rw [← gg172 (gr Sk161 a0 4) (gs_lt T_169 (by decide)).2]
  rw [← gg172 (Sk161.1 + 1) (gs_lt T_167 (by decide)).2]
  have mk176 : S.1 ≤ z170.1.1 := Nat.le_trans mk166 mk175
  have gk176 : ∀ x, x ≤ S.1 → ad173 x = ad x := fun x hx => (gg172 x (Nat.le_trans hx mk166)).trans (gk166 x hx)
  obtain ⟨T_177, E⟩ := gd_of E
  obtain ⟨T_178, E⟩ := gd_of E
  refine ww_aast (ci := 4) C dX7_init_105 T_177 (by decide) (by decide) rfl rfl T_178 (by decide) ?_
  refine ww_bdZ E (fun Sk179 dyk179 ek179 E => ?_)
  have mk179 : S.1 ≤ Sk179.1 := by rw [ek179]; exact mk176
  have ck179 : clo Sk179 := by rw [ek179]; exact clo_sr ck174 (gs_lt T_178 (by decide)).2
  refine ww_aload_n C dX7_init_106 rfl 1 rfl ?_
  obtain ⟨T_180, E⟩ := gd_of E
  obtain ⟨T_181, E⟩ := gd_of E
  refine ww_getr (ci := 7) (k0 := 6) C dX7_init_107 rfl rfl inm7 (by decide) T_180 q378 rfl T_181 (by decide) ?_
  refine ww_iload_n C dX7_init_110 rfl 0 rfl ?_
  refine ww_new (ci := 2) C dX7_init_111 ck179 rfl rfl inm2 tyX2_ok (by decide) q143 q226 q111 (Nat.le_of_ble_eq_true rfl) (Nat.le_of_ble_eq_true rfl) (fun ad183 gg182 => ?_)
  rw [← gg182 a0 (gs_lt T_180 (by decide)).2]
  rw [← gg182 (gr Sk179 a0 6) (gs_lt T_181 (by decide)).2]
  refine ww_bdZ E (fun Sk184 dyk184 ek184 E => ?_)
  have mk184 : S.1 ≤ Sk184.1 := by rw [ek184]; exact Nat.le_succ_of_le mk179
  have ck184 : clo Sk184 := by rw [ek184]; exact clo_al ck179
  have gk184 : ∀ x, x ≤ S.1 → ad183 x = ad x := fun x hx => (gg182 x (Nat.le_trans hx mk179)).trans (gk176 x hx)
  refine ww_dup C dX7_init_114 rfl ?_
  obtain ⟨T_185, E⟩ := gd_of E
  obtain ⟨T_186, E⟩ := gd_of E
  obtain ⟨T_187, E⟩ := gd_of E
  obtain ⟨z188, e_189, E⟩ := bind_of E
  refine ww_callNN (n := 0) (st := [.ref (ad183 (Sk179.1 + 1)), .int (2 : Int32), .ref (ad183 (gr Sk179 a0 6))]) C [] (M_X2_init l G ad183 ck184 (Sk179.1 + 1) dyk184 e_189) ⟨q229, q111, by decide⟩ (List.mem_of_getElem? (i := 1) rfl) q228 rfl rfl (Nat.le_of_ble_eq_true rfl) ⟨(Nat.le_of_ble_eq_true rfl), (Nat.le_of_ble_eq_true rfl)⟩ ⟨(Nat.le_of_ble_eq_true rfl), (Nat.le_of_ble_eq_true rfl)⟩ dX7_init_115 rfl (fun ad191 gg190 ck192 mk193 => ?_)
  rw [← gg190 a0 (gs_lt T_186 (by decide)).2]
  rw [← gg190 (gr Sk179 a0 6) (gs_lt T_187 (by decide)).2]
  rw [← gg190 (Sk179.1 + 1) (gs_lt T_185 (by decide)).2]
  have mk194 : S.1 ≤ z188.1.1 := Nat.le_trans mk184 mk193
  have gk194 : ∀ x, x ≤ S.1 → ad191 x = ad x := fun x hx => (gg190 x (Nat.le_trans hx mk184)).trans (gk184 x hx)
  obtain ⟨T_195, E⟩ := gd_of E
  obtain ⟨T_196, E⟩ := gd_of E
  refine ww_aast (ci := 2) C dX7_init_118 T_195 (by decide) (by decide) rfl rfl T_196 (by decide) ?_
  refine ww_bdZ E (fun Sk197 dyk197 ek197 E => ?_)
  have mk197 : S.1 ≤ Sk197.1 := by rw [ek197]; exact mk194
  have ck197 : clo Sk197 := by rw [ek197]; exact clo_sr ck192 (gs_lt T_196 (by decide)).2
  refine ww_iinc (v := (3)) (lv' := [(1, .int (3 : Int32)), (0, .ref (ad191 a0))]) C dX7_init_119 0 rfl (by decide) (by decide) rfl ?_
  refine ww_goto (tgt := 88) C dX7_init_122 (by decide) ?_
  refine ww_iload_n C dX7_init_88 rfl 0 rfl ?_
  refine ww_iconst (v := (3)) C dX7_init_89 (by decide) ?_
  refine ww_jcgeT (tgt := 125) C dX7_init_90 (by decide) (by decide) ?_
  exact ww_vretN C HR HL dX7_init_125 ck197 mk197 gk194 E
set_option maxRecDepth 100000 in
noncomputable def F_X0_init (a0 : Nat) (a1 : Nat) (a2 : Nat) (S : ST) (dy : DY) : Option (ST × DY) := if gs S a0 = (0, 0) then if gs S a1 = (0, 4) then if gs S a2 = (0, 2) then bdZ (alS S (5, 9)) (alD S dy) fun Sk6 dyk6 => if gs Sk6 a0 = (0, 0) then if gs Sk6 (S.1 + 1) = (5, 9) then bdZ (sr Sk6 a0 2 (S.1 + 1)) (dyk6) fun Sk9 dyk9 => if gs Sk9 a0 = (0, 0) then if gs Sk9 a1 = (0, 4) then if gs Sk9 a2 = (0, 2) then bdZ (alS Sk9 (1, 90)) (alD Sk9 dyk9) fun Sk15 dyk15 => if gs Sk15 a0 = (0, 0) then if gs Sk15 (Sk9.1 + 1) = (1, 90) then bdZ (sr Sk15 a0 3 (Sk9.1 + 1)) (dyk15) fun Sk18 dyk18 => if gs Sk18 a0 = (0, 0) then if gs Sk18 a1 = (0, 4) then if gs Sk18 a2 = (0, 2) then bdZ (alS Sk18 (4, 512)) (alD Sk18 dyk18) fun Sk24 dyk24 => if gs Sk24 a0 = (0, 0) then if gs Sk24 (Sk18.1 + 1) = (4, 512) then bdZ (sr Sk24 a0 4 (Sk18.1 + 1)) (dyk24) fun Sk27 dyk27 => if gs Sk27 a0 = (0, 0) then if gs Sk27 a1 = (0, 4) then if gs Sk27 a2 = (0, 2) then bdZ (alS Sk27 (1, 512)) (alD Sk27 dyk27) fun Sk33 dyk33 => if gs Sk33 a0 = (0, 0) then if gs Sk33 (Sk27.1 + 1) = (1, 512) then bdZ (sr Sk33 a0 5 (Sk27.1 + 1)) (dyk33) fun Sk36 dyk36 => if gs Sk36 a0 = (0, 0) then if gs Sk36 a1 = (0, 4) then if gs Sk36 a2 = (0, 2) then bdZ (alS Sk36 (1, 5120)) (alD Sk36 dyk36) fun Sk42 dyk42 => if gs Sk42 a0 = (0, 0) then if gs Sk42 (Sk36.1 + 1) = (1, 5120) then bdZ (sr Sk42 a0 6 (Sk36.1 + 1)) (dyk42) fun Sk45 dyk45 => if gs Sk45 a0 = (0, 0) then if gs Sk45 a1 = (0, 4) then bdZ (sr Sk45 a0 0 a1) (dyk45) fun Sk48 dyk48 => if gs Sk48 a0 = (0, 0) then if gs Sk48 a2 = (0, 2) then bdZ (sr Sk48 a0 1 a2) (dyk48) fun Sk51 dyk51 => if gs Sk51 a0 = (0, 0) then if gs Sk51 (gr Sk51 a0 2) = (5, 9) then if gs Sk51 a1 = (0, 4) then if gs Sk51 a2 = (0, 2) then bdZ (alS Sk51 (0, 8)) (alD Sk51 dyk51) fun Sk58 dyk58 => if gs Sk58 (Sk51.1 + 1) = (0, 8) then if gs Sk58 a1 = (0, 4) then if gs Sk58 a2 = (0, 2) then if gs Sk58 a0 = (0, 0) then if gs Sk58 (gr Sk51 a0 2) = (5, 9) then (F_X8_init (Sk51.1 + 1) a1 a2 Sk58 dyk58).bind fun z64 => if gs z64.1 (gr Sk51 a0 2) = (5, 9) then if gs z64.1 (Sk51.1 + 1) = (0, 8) then bdZ (sr z64.1 (gr Sk51 a0 2) (0 : Int32).toNatClampNeg (Sk51.1 + 1)) (z64.2) fun Sk73 dyk73 => if gs Sk73 a0 = (0, 0) then if gs Sk73 (gr Sk73 a0 2) = (5, 9) then if gs Sk73 a1 = (0, 4) then if gs Sk73 a2 = (0, 2) then bdZ (alS Sk73 (0, 8)) (alD Sk73 dyk73) fun Sk80 dyk80 => if gs Sk80 (Sk73.1 + 1) = (0, 8) then if gs Sk80 a1 = (0, 4) then if gs Sk80 a2 = (0, 2) then if gs Sk80 a0 = (0, 0) then if gs Sk80 (gr Sk73 a0 2) = (5, 9) then (F_X8_init (Sk73.1 + 1) a1 a2 Sk80 dyk80).bind fun z86 => if gs z86.1 (gr Sk73 a0 2) = (5, 9) then if gs z86.1 (Sk73.1 + 1) = (0, 8) then bdZ (sr z86.1 (gr Sk73 a0 2) (1 : Int32).toNatClampNeg (Sk73.1 + 1)) (z86.2) fun Sk95 dyk95 => if gs Sk95 a0 = (0, 0) then if gs Sk95 (gr Sk95 a0 2) = (5, 9) then if gs Sk95 a1 = (0, 4) then if gs Sk95 a2 = (0, 2) then bdZ (alS Sk95 (0, 8)) (alD Sk95 dyk95) fun Sk102 dyk102 => if gs Sk102 (Sk95.1 + 1) = (0, 8) then if gs Sk102 a1 = (0, 4) then if gs Sk102 a2 = (0, 2) then if gs Sk102 a0 = (0, 0) then if gs Sk102 (gr Sk95 a0 2) = (5, 9) then (F_X8_init (Sk95.1 + 1) a1 a2 Sk102 dyk102).bind fun z108 => if gs z108.1 (gr Sk95 a0 2) = (5, 9) then if gs z108.1 (Sk95.1 + 1) = (0, 8) then bdZ (sr z108.1 (gr Sk95 a0 2) (2 : Int32).toNatClampNeg (Sk95.1 + 1)) (z108.2) fun Sk117 dyk117 => if gs Sk117 a0 = (0, 0) then if gs Sk117 (gr Sk117 a0 2) = (5, 9) then if gs Sk117 a1 = (0, 4) then if gs Sk117 a2 = (0, 2) then bdZ (alS Sk117 (0, 8)) (alD Sk117 dyk117) fun Sk124 dyk124 => if gs Sk124 (Sk117.1 + 1) = (0, 8) then if gs Sk124 a1 = (0, 4) then if gs Sk124 a2 = (0, 2) then if gs Sk124 a0 = (0, 0) then if gs Sk124 (gr Sk117 a0 2) = (5, 9) then (F_X8_init (Sk117.1 + 1) a1 a2 Sk124 dyk124).bind fun z130 => if gs z130.1 (gr Sk117 a0 2) = (5, 9) then if gs z130.1 (Sk117.1 + 1) = (0, 8) then bdZ (sr z130.1 (gr Sk117 a0 2) (3 : Int32).toNatClampNeg (Sk117.1 + 1)) (z130.2) fun Sk139 dyk139 => if gs Sk139 a0 = (0, 0) then if gs Sk139 (gr Sk139 a0 2) = (5, 9) then if gs Sk139 a1 = (0, 4) then if gs Sk139 a2 = (0, 2) then bdZ (alS Sk139 (0, 8)) (alD Sk139 dyk139) fun Sk146 dyk146 => if gs Sk146 (Sk139.1 + 1) = (0, 8) then if gs Sk146 a1 = (0, 4) then if gs Sk146 a2 = (0, 2) then if gs Sk146 a0 = (0, 0) then if gs Sk146 (gr Sk139 a0 2) = (5, 9) then (F_X8_init (Sk139.1 + 1) a1 a2 Sk146 dyk146).bind fun z152 => if gs z152.1 (gr Sk139 a0 2) = (5, 9) then if gs z152.1 (Sk139.1 + 1) = (0, 8) then bdZ (sr z152.1 (gr Sk139 a0 2) (4 : Int32).toNatClampNeg (Sk139.1 + 1)) (z152.2) fun Sk161 dyk161 => if gs Sk161 a0 = (0, 0) then if gs Sk161 (gr Sk161 a0 2) = (5, 9) then if gs Sk161 a1 = (0, 4) then if gs Sk161 a2 = (0, 2) then bdZ (alS Sk161 (0, 8)) (alD Sk161 dyk161) fun Sk168 dyk168 => if gs Sk168 (Sk161.1 + 1) = (0, 8) then if gs Sk168 a1 = (0, 4) then if gs Sk168 a2 = (0, 2) then if gs Sk168 a0 = (0, 0) then if gs Sk168 (gr Sk161 a0 2) = (5, 9) then (F_X8_init (Sk161.1 + 1) a1 a2 Sk168 dyk168).bind fun z174 => if gs z174.1 (gr Sk161 a0 2) = (5, 9) then if gs z174.1 (Sk161.1 + 1) = (0, 8) then bdZ (sr z174.1 (gr Sk161 a0 2) (5 : Int32).toNatClampNeg (Sk161.1 + 1)) (z174.2) fun Sk183 dyk183 => if gs Sk183 a0 = (0, 0) then if gs Sk183 (gr Sk183 a0 2) = (5, 9) then if gs Sk183 a1 = (0, 4) then if gs Sk183 a2 = (0, 2) then bdZ (alS Sk183 (0, 8)) (alD Sk183 dyk183) fun Sk190 dyk190 => if gs Sk190 (Sk183.1 + 1) = (0, 8) then if gs Sk190 a1 = (0, 4) then if gs Sk190 a2 = (0, 2) then if gs Sk190 a0 = (0, 0) then if gs Sk190 (gr Sk183 a0 2) = (5, 9) then (F_X8_init (Sk183.1 + 1) a1 a2 Sk190 dyk190).bind fun z196 => if gs z196.1 (gr Sk183 a0 2) = (5, 9) then if gs z196.1 (Sk183.1 + 1) = (0, 8) then bdZ (sr z196.1 (gr Sk183 a0 2) (6 : Int32).toNatClampNeg (Sk183.1 + 1)) (z196.2) fun Sk205 dyk205 => if gs Sk205 a0 = (0, 0) then if gs Sk205 (gr Sk205 a0 2) = (5, 9) then if gs Sk205 a1 = (0, 4) then if gs Sk205 a2 = (0, 2) then bdZ (alS Sk205 (0, 8)) (alD Sk205 dyk205) fun Sk212 dyk212 => if gs Sk212 (Sk205.1 + 1) = (0, 8) then if gs Sk212 a1 = (0, 4) then if gs Sk212 a2 = (0, 2) then if gs Sk212 a0 = (0, 0) then if gs Sk212 (gr Sk205 a0 2) = (5, 9) then (F_X8_init (Sk205.1 + 1) a1 a2 Sk212 dyk212).bind fun z218 => if gs z218.1 (gr Sk205 a0 2) = (5, 9) then if gs z218.1 (Sk205.1 + 1) = (0, 8) then bdZ (sr z218.1 (gr Sk205 a0 2) (7 : Int32).toNatClampNeg (Sk205.1 + 1)) (z218.2) fun Sk227 dyk227 => if gs Sk227 a0 = (0, 0) then if gs Sk227 (gr Sk227 a0 2) = (5, 9) then if gs Sk227 a1 = (0, 4) then if gs Sk227 a2 = (0, 2) then bdZ (alS Sk227 (0, 8)) (alD Sk227 dyk227) fun Sk234 dyk234 => if gs Sk234 (Sk227.1 + 1) = (0, 8) then if gs Sk234 a1 = (0, 4) then if gs Sk234 a2 = (0, 2) then if gs Sk234 a0 = (0, 0) then if gs Sk234 (gr Sk227 a0 2) = (5, 9) then (F_X8_init (Sk227.1 + 1) a1 a2 Sk234 dyk234).bind fun z240 => if gs z240.1 (gr Sk227 a0 2) = (5, 9) then if gs z240.1 (Sk227.1 + 1) = (0, 8) then bdZ (sr z240.1 (gr Sk227 a0 2) (8 : Int32).toNatClampNeg (Sk227.1 + 1)) (z240.2) fun Sk249 dyk249 => some (Sk249, dyk249) else none else none else none else none else none else none else none else none else none else none else none else none else none else none else none else none else none else none else none else none else none else none else none else none else none else none else none else none else none else none else none else none else none else none else none else none else none else none else none else none else none else none else none else none else none else none else none else none else none else none else none else none else none else none else none else none else none else none else none else none else none else none else none else none else none else none else none else none else none else none else none else none else none else none else none else none else none else none else none else none else none else none else none else none else none else none else none else none else none else none else none else none else none else none else none else none else none else none else none else none else none else none else none else none else none else none else none else none else none else none else none else none else none else none else none else none else none else none else none else none else none else none else none else none else none else none else none else none
theorem dX0_init_0 : decode cX0_init 0 = .ok (.aload_n 0, 1) := by decide +kernel
theorem dX0_init_1 : decode cX0_init 1 = .ok (.invokespecial 5, 3) := by decide +kernel
theorem dX0_init_4 : decode cX0_init 4 = .ok (.aload_n 0, 1) := by decide +kernel
theorem dX0_init_5 : decode cX0_init 5 = .ok (.bipush 9, 2) := by decide +kernel
theorem dX0_init_7 : decode cX0_init 7 = .ok (.anewarray 11, 3) := by decide +kernel
theorem dX0_init_10 : decode cX0_init 10 = .ok (.putfield 13, 3) := by decide +kernel
theorem dX0_init_13 : decode cX0_init 13 = .ok (.aload_n 0, 1) := by decide +kernel
theorem dX0_init_14 : decode cX0_init 14 = .ok (.bipush 90, 2) := by decide +kernel
theorem dX0_init_16 : decode cX0_init 16 = .ok (.newarray .int, 2) := by decide +kernel
theorem dX0_init_18 : decode cX0_init 18 = .ok (.putfield 17, 3) := by decide +kernel
theorem dX0_init_21 : decode cX0_init 21 = .ok (.aload_n 0, 1) := by decide +kernel
theorem dX0_init_22 : decode cX0_init 22 = .ok (.sipush 512, 3) := by decide +kernel
theorem dX0_init_25 : decode cX0_init 25 = .ok (.newarray .long, 2) := by decide +kernel
theorem dX0_init_27 : decode cX0_init 27 = .ok (.putfield 21, 3) := by decide +kernel
theorem dX0_init_30 : decode cX0_init 30 = .ok (.aload_n 0, 1) := by decide +kernel
theorem dX0_init_31 : decode cX0_init 31 = .ok (.sipush 512, 3) := by decide +kernel
theorem dX0_init_34 : decode cX0_init 34 = .ok (.newarray .int, 2) := by decide +kernel
theorem dX0_init_36 : decode cX0_init 36 = .ok (.putfield 25, 3) := by decide +kernel
theorem dX0_init_39 : decode cX0_init 39 = .ok (.aload_n 0, 1) := by decide +kernel
theorem dX0_init_40 : decode cX0_init 40 = .ok (.sipush 5120, 3) := by decide +kernel
theorem dX0_init_43 : decode cX0_init 43 = .ok (.newarray .int, 2) := by decide +kernel
theorem dX0_init_45 : decode cX0_init 45 = .ok (.putfield 28, 3) := by decide +kernel
theorem dX0_init_48 : decode cX0_init 48 = .ok (.aload_n 0, 1) := by decide +kernel
theorem dX0_init_49 : decode cX0_init 49 = .ok (.aload_n 1, 1) := by decide +kernel
theorem dX0_init_50 : decode cX0_init 50 = .ok (.putfield 31, 3) := by decide +kernel
theorem dX0_init_53 : decode cX0_init 53 = .ok (.aload_n 0, 1) := by decide +kernel
theorem dX0_init_54 : decode cX0_init 54 = .ok (.aload_n 2, 1) := by decide +kernel
theorem dX0_init_55 : decode cX0_init 55 = .ok (.putfield 35, 3) := by decide +kernel
theorem dX0_init_58 : decode cX0_init 58 = .ok (.iconst 0, 1) := by decide +kernel
theorem dX0_init_59 : decode cX0_init 59 = .ok (.istore_n 3, 1) := by decide +kernel
theorem dX0_init_60 : decode cX0_init 60 = .ok (.iload_n 3, 1) := by decide +kernel
theorem dX0_init_61 : decode cX0_init 61 = .ok (.bipush 8, 2) := by decide +kernel
theorem dX0_init_63 : decode cX0_init 63 = .ok (.if_icmp .gt 24, 3) := by decide +kernel
theorem dX0_init_66 : decode cX0_init 66 = .ok (.aload_n 0, 1) := by decide +kernel
theorem dX0_init_67 : decode cX0_init 67 = .ok (.getfield 13, 3) := by decide +kernel
theorem dX0_init_70 : decode cX0_init 70 = .ok (.iload_n 3, 1) := by decide +kernel
theorem dX0_init_71 : decode cX0_init 71 = .ok (.new 11, 3) := by decide +kernel
theorem dX0_init_74 : decode cX0_init 74 = .ok (.dup, 1) := by decide +kernel
theorem dX0_init_75 : decode cX0_init 75 = .ok (.aload_n 1, 1) := by decide +kernel
theorem dX0_init_76 : decode cX0_init 76 = .ok (.aload_n 2, 1) := by decide +kernel
theorem dX0_init_77 : decode cX0_init 77 = .ok (.invokespecial 39, 3) := by decide +kernel
theorem dX0_init_80 : decode cX0_init 80 = .ok (.aastore, 1) := by decide +kernel
theorem dX0_init_81 : decode cX0_init 81 = .ok (.iinc 3 1, 3) := by decide +kernel
theorem dX0_init_84 : decode cX0_init 84 = .ok (.goto (-24), 3) := by decide +kernel
theorem dX0_init_87 : decode cX0_init 87 = .ok (.return_, 1) := by decide +kernel
set_option maxHeartbeats 4000000 in
set_option maxRecDepth 100000 in
theorem M_X0_init (l : Launch) (G : GG) (ad : Nat → Nat) {S : ST} (hc0 : clo S) (a0 : Nat) (a1 : Nat) (a2 : Nat) (dy : DY) {S' : ST} {dy' : DY} (E : F_X0_init a0 a1 a2 S dy = some (S', dy')) : MN l yX0_init cX0_init 4 2 G ad [.ref (ad a0), .ref (ad a1), .ref (ad a2)] S S' dy dy' 113 8817 := by
  unfold F_X0_init at E
  have m0 : S.1 ≤ S.1 := Nat.le_refl _
  have ag0 : ∀ x, x ≤ S.1 → ad x = ad x := fun _ _ => rfl
  refine mn_of RX0 (by decide) rfl rfl (Nat.le_of_ble_eq_true rfl) (fun p e s m args below meth c A C HR HL HI => ?_)
  refine ww_sub (lv' := [(0, .ref (ad a0)), (1, .ref (ad a1)), (2, .ref (ad a2))]) [0, 1, 2] rfl ?_
  refine ww_aload_n C dX0_init_0 rfl 0 rfl ?_
  refine ww_objinit C dX0_init_1 q465 q133 qObj (Nat.le_of_ble_eq_true rfl) (Nat.le_of_ble_eq_true rfl) (Nat.le_of_ble_eq_true rfl) ?_
  refine ww_aload_n C dX0_init_4 rfl 0 rfl ?_
  refine ww_bipush (v := (9)) C dX0_init_5 (by decide) ?_
  obtain ⟨T_1, E⟩ := gd_of E
  obtain ⟨T_2, E⟩ := gd_of E
  obtain ⟨T_3, E⟩ := gd_of E
  refine ww_newq (t := 5) (N := 9) C dX0_init_7 hc0 (by decide) rfl (by decide) q466 (by decide) (by decide) (Nat.le_of_ble_eq_true rfl) (Nat.le_of_ble_eq_true rfl) (Nat.le_of_ble_eq_true rfl) (fun ad5 gg4 => ?_)
  rw [← gg4 a0 (gs_lt T_1 (by decide)).2]
  rw [← gg4 a1 (gs_lt T_2 (by decide)).2]
  rw [← gg4 a2 (gs_lt T_3 (by decide)).2]
  refine ww_bdZ E (fun Sk6 dyk6 ek6 E => ?_)
  have mk6 : S.1 ≤ Sk6.1 := by rw [ek6]; exact Nat.le_succ_of_le m0
  have ck6 : clo Sk6 := by rw [ek6]; exact clo_al hc0
  have gk6 : ∀ x, x ≤ S.1 → ad5 x = ad x := fun x hx => (gg4 x (Nat.le_trans hx m0)).trans (ag0 x hx)
  obtain ⟨T_7, E⟩ := gd_of E
  obtain ⟨T_8, E⟩ := gd_of E
  refine ww_putr (ci := 0) (k0 := 2) C dX0_init_10 HI rfl rfl inm0 tyX0_ok nmX0 (by decide) T_7 T_8 (by decide) q471 rfl rfl (tyX0_ok 2 (by decide)) (fun _ => rfl) (fun _ => rfl) rfl ?_
  refine ww_bdZ E (fun Sk9 dyk9 ek9 E => ?_)
  have mk9 : S.1 ≤ Sk9.1 := by rw [ek9]; exact mk6
  have ck9 : clo Sk9 := by rw [ek9]; exact clo_sr ck6 (gs_lt T_8 (by decide)).2
  refine ww_aload_n C dX0_init_13 rfl 0 rfl ?_
  refine ww_bipush (v := (90)) C dX0_init_14 (by decide) ?_
  obtain ⟨T_10, E⟩ := gd_of E
  obtain ⟨T_11, E⟩ := gd_of E
  obtain ⟨T_12, E⟩ := gd_of E
  refine ww_newa (t := 1) (N := 90) C dX0_init_16 ck9 rfl (by decide) (by decide) rfl q225 (by decide) (by decide) (Nat.le_of_ble_eq_true rfl) (Nat.le_of_ble_eq_true rfl) (Nat.le_of_ble_eq_true rfl) (fun ad14 gg13 => ?_)
  rw [← gg13 a0 (gs_lt T_10 (by decide)).2]
  rw [← gg13 a1 (gs_lt T_11 (by decide)).2]
  rw [← gg13 a2 (gs_lt T_12 (by decide)).2]
  refine ww_bdZ E (fun Sk15 dyk15 ek15 E => ?_)
  have mk15 : S.1 ≤ Sk15.1 := by rw [ek15]; exact Nat.le_succ_of_le mk9
  have ck15 : clo Sk15 := by rw [ek15]; exact clo_al ck9
  have gk15 : ∀ x, x ≤ S.1 → ad14 x = ad x := fun x hx => (gg13 x (Nat.le_trans hx mk9)).trans (gk6 x hx)
  obtain ⟨T_16, E⟩ := gd_of E
  obtain ⟨T_17, E⟩ := gd_of E
  refine ww_putr (ci := 0) (k0 := 3) C dX0_init_18 HI rfl rfl inm0 tyX0_ok nmX0 (by decide) T_16 T_17 (by decide) q472 rfl rfl (tyX0_ok 3 (by decide)) (fun _ => rfl) (fun _ => rfl) rfl ?_
  refine ww_bdZ E (fun Sk18 dyk18 ek18 E => ?_)
  have mk18 : S.1 ≤ Sk18.1 := by rw [ek18]; exact mk15
  have ck18 : clo Sk18 := by rw [ek18]; exact clo_sr ck15 (gs_lt T_17 (by decide)).2
  refine ww_aload_n C dX0_init_21 rfl 0 rfl ?_
  refine ww_sipush (v := (512)) C dX0_init_22 (by decide) ?_
  obtain ⟨T_19, E⟩ := gd_of E
  obtain ⟨T_20, E⟩ := gd_of E
  obtain ⟨T_21, E⟩ := gd_of E
  refine ww_newa (t := 4) (N := 512) C dX0_init_25 ck18 rfl (by decide) (by decide) rfl q497 (by decide) (by decide) (Nat.le_of_ble_eq_true rfl) (Nat.le_of_ble_eq_true rfl) (Nat.le_of_ble_eq_true rfl) (fun ad23 gg22 => ?_)
  rw [← gg22 a0 (gs_lt T_19 (by decide)).2]
  rw [← gg22 a1 (gs_lt T_20 (by decide)).2]
  rw [← gg22 a2 (gs_lt T_21 (by decide)).2]
  refine ww_bdZ E (fun Sk24 dyk24 ek24 E => ?_)
  have mk24 : S.1 ≤ Sk24.1 := by rw [ek24]; exact Nat.le_succ_of_le mk18
  have ck24 : clo Sk24 := by rw [ek24]; exact clo_al ck18
  have gk24 : ∀ x, x ≤ S.1 → ad23 x = ad x := fun x hx => (gg22 x (Nat.le_trans hx mk18)).trans (gk15 x hx)
  obtain ⟨T_25, E⟩ := gd_of E
  obtain ⟨T_26, E⟩ := gd_of E
  refine ww_putr (ci := 0) (k0 := 4) C dX0_init_27 HI rfl rfl inm0 tyX0_ok nmX0 (by decide) T_25 T_26 (by decide) q473 rfl rfl (tyX0_ok 4 (by decide)) (fun _ => rfl) (fun _ => rfl) rfl ?_
  refine ww_bdZ E (fun Sk27 dyk27 ek27 E => ?_)
  have mk27 : S.1 ≤ Sk27.1 := by rw [ek27]; exact mk24
  have ck27 : clo Sk27 := by rw [ek27]; exact clo_sr ck24 (gs_lt T_26 (by decide)).2
  refine ww_aload_n C dX0_init_30 rfl 0 rfl ?_
  refine ww_sipush (v := (512)) C dX0_init_31 (by decide) ?_
  obtain ⟨T_28, E⟩ := gd_of E
  obtain ⟨T_29, E⟩ := gd_of E
  obtain ⟨T_30, E⟩ := gd_of E
  refine ww_newa (t := 1) (N := 512) C dX0_init_34 ck27 rfl (by decide) (by decide) rfl q225 (by decide) (by decide) (Nat.le_of_ble_eq_true rfl) (Nat.le_of_ble_eq_true rfl) (Nat.le_of_ble_eq_true rfl) (fun ad32 gg31 => ?_)
  rw [← gg31 a0 (gs_lt T_28 (by decide)).2]
  rw [← gg31 a1 (gs_lt T_29 (by decide)).2]
  rw [← gg31 a2 (gs_lt T_30 (by decide)).2]
  refine ww_bdZ E (fun Sk33 dyk33 ek33 E => ?_)
  have mk33 : S.1 ≤ Sk33.1 := by rw [ek33]; exact Nat.le_succ_of_le mk27
  have ck33 : clo Sk33 := by rw [ek33]; exact clo_al ck27
  have gk33 : ∀ x, x ≤ S.1 → ad32 x = ad x := fun x hx => (gg31 x (Nat.le_trans hx mk27)).trans (gk24 x hx)
  obtain ⟨T_34, E⟩ := gd_of E
  obtain ⟨T_35, E⟩ := gd_of E
  refine ww_putr (ci := 0) (k0 := 5) C dX0_init_36 HI rfl rfl inm0 tyX0_ok nmX0 (by decide) T_34 T_35 (by decide) q474 rfl rfl (tyX0_ok 5 (by decide)) (fun _ => rfl) (fun _ => rfl) rfl ?_
  refine ww_bdZ E (fun Sk36 dyk36 ek36 E => ?_)
  have mk36 : S.1 ≤ Sk36.1 := by rw [ek36]; exact mk33
  have ck36 : clo Sk36 := by rw [ek36]; exact clo_sr ck33 (gs_lt T_35 (by decide)).2
  refine ww_aload_n C dX0_init_39 rfl 0 rfl ?_
  refine ww_sipush (v := (5120)) C dX0_init_40 (by decide) ?_
  obtain ⟨T_37, E⟩ := gd_of E
  obtain ⟨T_38, E⟩ := gd_of E
  obtain ⟨T_39, E⟩ := gd_of E
  refine ww_newa (t := 1) (N := 5120) C dX0_init_43 ck36 rfl (by decide) (by decide) rfl q225 (by decide) (by decide) (Nat.le_of_ble_eq_true rfl) (Nat.le_of_ble_eq_true rfl) (Nat.le_of_ble_eq_true rfl) (fun ad41 gg40 => ?_)
  rw [← gg40 a0 (gs_lt T_37 (by decide)).2]
  rw [← gg40 a1 (gs_lt T_38 (by decide)).2]
  rw [← gg40 a2 (gs_lt T_39 (by decide)).2]
  refine ww_bdZ E (fun Sk42 dyk42 ek42 E => ?_)
  have mk42 : S.1 ≤ Sk42.1 := by rw [ek42]; exact Nat.le_succ_of_le mk36
  have ck42 : clo Sk42 := by rw [ek42]; exact clo_al ck36
  have gk42 : ∀ x, x ≤ S.1 → ad41 x = ad x := fun x hx => (gg40 x (Nat.le_trans hx mk36)).trans (gk33 x hx)
  obtain ⟨T_43, E⟩ := gd_of E
  obtain ⟨T_44, E⟩ := gd_of E
  refine ww_putr (ci := 0) (k0 := 6) C dX0_init_45 HI rfl rfl inm0 tyX0_ok nmX0 (by decide) T_43 T_44 (by decide) q475 rfl rfl (tyX0_ok 6 (by decide)) (fun _ => rfl) (fun _ => rfl) rfl ?_
  refine ww_bdZ E (fun Sk45 dyk45 ek45 E => ?_)
  have mk45 : S.1 ≤ Sk45.1 := by rw [ek45]; exact mk42
  have ck45 : clo Sk45 := by rw [ek45]; exact clo_sr ck42 (gs_lt T_44 (by decide)).2
  refine ww_aload_n C dX0_init_48 rfl 0 rfl ?_
  refine ww_aload_n C dX0_init_49 rfl 1 rfl ?_
  obtain ⟨T_46, E⟩ := gd_of E
  obtain ⟨T_47, E⟩ := gd_of E
  refine ww_putr (ci := 0) (k0 := 0) C dX0_init_50 HI rfl rfl inm0 tyX0_ok nmX0 (by decide) T_46 T_47 (by decide) q469 rfl rfl (tyX0_ok 0 (by decide)) (fun _ => rfl) (fun _ => rfl) rfl ?_
  refine ww_bdZ E (fun Sk48 dyk48 ek48 E => ?_)
  have mk48 : S.1 ≤ Sk48.1 := by rw [ek48]; exact mk45
  have ck48 : clo Sk48 := by rw [ek48]; exact clo_sr ck45 (gs_lt T_47 (by decide)).2
  refine ww_aload_n C dX0_init_53 rfl 0 rfl ?_
  refine ww_aload_n C dX0_init_54 rfl 2 rfl ?_
  obtain ⟨T_49, E⟩ := gd_of E
  obtain ⟨T_50, E⟩ := gd_of E
  refine ww_putr (ci := 0) (k0 := 1) C dX0_init_55 HI rfl rfl inm0 tyX0_ok nmX0 (by decide) T_49 T_50 (by decide) q470 rfl rfl (tyX0_ok 1 (by decide)) (fun _ => rfl) (fun _ => rfl) rfl ?_
  refine ww_bdZ E (fun Sk51 dyk51 ek51 E => ?_)
  have mk51 : S.1 ≤ Sk51.1 := by rw [ek51]; exact mk48
  have ck51 : clo Sk51 := by rw [ek51]; exact clo_sr ck48 (gs_lt T_50 (by decide)).2
  refine ww_iconst (v := (0)) C dX0_init_58 (by decide) ?_
  refine ww_istore_n (lv' := [(3, .int (0 : Int32)), (0, .ref (ad41 a0)), (1, .ref (ad41 a1)), (2, .ref (ad41 a2))]) C dX0_init_59 rfl (by decide) rfl ?_
  refine ww_iload_n C dX0_init_60 rfl 0 rfl ?_
  refine ww_bipush (v := (8)) C dX0_init_61 (by decide) ?_
  refine ww_jcgtF (tgt := 87) C dX0_init_63 (by decide) (by decide) ?_
  refine ww_aload_n C dX0_init_66 rfl 1 rfl ?_
  obtain ⟨T_52, E⟩ := gd_of E
  obtain ⟨T_53, E⟩ := gd_of E
  refine ww_getr (ci := 0) (k0 := 2) C dX0_init_67 rfl rfl inm0 (by decide) T_52 q471 rfl T_53 (by decide) ?_
  refine ww_iload_n C dX0_init_70 rfl 0 rfl ?_
  obtain ⟨T_54, E⟩ := gd_of E
  obtain ⟨T_55, E⟩ := gd_of E
  refine ww_new (ci := 8) C dX0_init_71 ck51 rfl rfl inm8 tyX8_ok (by decide) q466 q256 q112 (Nat.le_of_ble_eq_true rfl) (Nat.le_of_ble_eq_true rfl) (fun ad57 gg56 => ?_)
  rw [← gg56 a0 (gs_lt T_52 (by decide)).2]
  rw [← gg56 a1 (gs_lt T_54 (by decide)).2]
  rw [← gg56 a2 (gs_lt T_55 (by decide)).2]
  rw [← gg56 (gr Sk51 a0 2) (gs_lt T_53 (by decide)).2]
  refine ww_bdZ E (fun Sk58 dyk58 ek58 E => ?_)
  have mk58 : S.1 ≤ Sk58.1 := by rw [ek58]; exact Nat.le_succ_of_le mk51
  have ck58 : clo Sk58 := by rw [ek58]; exact clo_al ck51
  have gk58 : ∀ x, x ≤ S.1 → ad57 x = ad x := fun x hx => (gg56 x (Nat.le_trans hx mk51)).trans (gk42 x hx)
  refine ww_dup C dX0_init_74 rfl ?_
  refine ww_aload_n C dX0_init_75 rfl 2 rfl ?_
  refine ww_aload_n C dX0_init_76 rfl 3 rfl ?_
  obtain ⟨T_59, E⟩ := gd_of E
  obtain ⟨T_60, E⟩ := gd_of E
  obtain ⟨T_61, E⟩ := gd_of E
  obtain ⟨T_62, E⟩ := gd_of E
  obtain ⟨T_63, E⟩ := gd_of E
  obtain ⟨z64, e_65, E⟩ := bind_of E
  refine ww_callN (n := 2) (st := [.ref (ad57 (Sk51.1 + 1)), .int (0 : Int32), .ref (ad57 (gr Sk51 a0 2))]) C [.ref (ad57 a1), .ref (ad57 a2)] (M_X8_init l G ad57 ck58 (Sk51.1 + 1) a1 a2 dyk58 e_65) ⟨q259, q112, by decide⟩ q468 q258 rfl rfl (Nat.le_of_ble_eq_true rfl) ⟨(Nat.le_of_ble_eq_true rfl), (Nat.le_of_ble_eq_true rfl)⟩ ⟨(Nat.le_of_ble_eq_true rfl), (Nat.le_of_ble_eq_true rfl)⟩ dX0_init_77 rfl (fun ad67 gg66 ck68 mk69 => ?_)
  rw [← gg66 a0 (gs_lt T_62 (by decide)).2]
  rw [← gg66 a1 (gs_lt T_60 (by decide)).2]
  rw [← gg66 a2 (gs_lt T_61 (by decide)).2]
  rw [← gg66 (gr Sk51 a0 2) (gs_lt T_63 (by decide)).2]
  rw [← gg66 (Sk51.1 + 1) (gs_lt T_59 (by decide)).2]
  have mk70 : S.1 ≤ z64.1.1 := Nat.le_trans mk58 mk69
  have gk70 : ∀ x, x ≤ S.1 → ad67 x = ad x := fun x hx => (gg66 x (Nat.le_trans hx mk58)).trans (gk58 x hx)
  obtain ⟨T_71, E⟩ := gd_of E
  obtain ⟨T_72, E⟩ := gd_of E
  refine ww_aast (ci := 8) C dX0_init_80 T_71 (by decide) (by decide) rfl rfl T_72 (by decide) ?_
  refine ww_bdZ E (fun Sk73 dyk73 ek73 E => ?_)
  have mk73 : S.1 ≤ Sk73.1 := by rw [ek73]; exact mk70
  have ck73 : clo Sk73 := by rw [ek73]; exact clo_sr ck68 (gs_lt T_72 (by decide)).2
  refine ww_iinc (v := (1)) (lv' := [(3, .int (1 : Int32)), (0, .ref (ad67 a0)), (1, .ref (ad67 a1)), (2, .ref (ad67 a2))]) C dX0_init_81 0 rfl (by decide) (by decide) rfl ?_
  refine ww_goto (tgt := 60) C dX0_init_84 (by decide) ?_
  refine ww_iload_n C dX0_init_60 rfl 0 rfl ?_
  refine ww_bipush (v := (8)) C dX0_init_61 (by decide) ?_
  refine ww_jcgtF (tgt := 87) C dX0_init_63 (by decide) (by decide) ?_
  refine ww_aload_n C dX0_init_66 rfl 1 rfl ?_
  obtain ⟨T_74, E⟩ := gd_of E
  obtain ⟨T_75, E⟩ := gd_of E
  refine ww_getr (ci := 0) (k0 := 2) C dX0_init_67 rfl rfl inm0 (by decide) T_74 q471 rfl T_75 (by decide) ?_
  refine ww_iload_n C dX0_init_70 rfl 0 rfl ?_
  obtain ⟨T_76, E⟩ := gd_of E
  obtain ⟨T_77, E⟩ := gd_of E
  refine ww_new (ci := 8) C dX0_init_71 ck73 rfl rfl inm8 tyX8_ok (by decide) q466 q256 q112 (Nat.le_of_ble_eq_true rfl) (Nat.le_of_ble_eq_true rfl) (fun ad79 gg78 => ?_)
  rw [← gg78 a0 (gs_lt T_74 (by decide)).2]
  rw [← gg78 a1 (gs_lt T_76 (by decide)).2]
  rw [← gg78 a2 (gs_lt T_77 (by decide)).2]
  rw [← gg78 (gr Sk73 a0 2) (gs_lt T_75 (by decide)).2]
  refine ww_bdZ E (fun Sk80 dyk80 ek80 E => ?_)
  have mk80 : S.1 ≤ Sk80.1 := by rw [ek80]; exact Nat.le_succ_of_le mk73
  have ck80 : clo Sk80 := by rw [ek80]; exact clo_al ck73
  have gk80 : ∀ x, x ≤ S.1 → ad79 x = ad x := fun x hx => (gg78 x (Nat.le_trans hx mk73)).trans (gk70 x hx)
  refine ww_dup C dX0_init_74 rfl ?_
  refine ww_aload_n C dX0_init_75 rfl 2 rfl ?_
  refine ww_aload_n C dX0_init_76 rfl 3 rfl ?_
  obtain ⟨T_81, E⟩ := gd_of E
  obtain ⟨T_82, E⟩ := gd_of E
  obtain ⟨T_83, E⟩ := gd_of E
  obtain ⟨T_84, E⟩ := gd_of E
  obtain ⟨T_85, E⟩ := gd_of E
  obtain ⟨z86, e_87, E⟩ := bind_of E
  refine ww_callN (n := 2) (st := [.ref (ad79 (Sk73.1 + 1)), .int (1 : Int32), .ref (ad79 (gr Sk73 a0 2))]) C [.ref (ad79 a1), .ref (ad79 a2)] (M_X8_init l G ad79 ck80 (Sk73.1 + 1) a1 a2 dyk80 e_87) ⟨q259, q112, by decide⟩ q468 q258 rfl rfl (Nat.le_of_ble_eq_true rfl) ⟨(Nat.le_of_ble_eq_true rfl), (Nat.le_of_ble_eq_true rfl)⟩ ⟨(Nat.le_of_ble_eq_true rfl), (Nat.le_of_ble_eq_true rfl)⟩ dX0_init_77 rfl (fun ad89 gg88 ck90 mk91 => ?_)
  rw [← gg88 a0 (gs_lt T_84 (by decide)).2]
  rw [← gg88 a1 (gs_lt T_82 (by decide)).2]
  rw [← gg88 a2 (gs_lt T_83 (by decide)).2]
  rw [← gg88 (gr Sk73 a0 2) (gs_lt T_85 (by decide)).2]
  rw [← gg88 (Sk73.1 + 1) (gs_lt T_81 (by decide)).2]
  have mk92 : S.1 ≤ z86.1.1 := Nat.le_trans mk80 mk91
  have gk92 : ∀ x, x ≤ S.1 → ad89 x = ad x := fun x hx => (gg88 x (Nat.le_trans hx mk80)).trans (gk80 x hx)
  obtain ⟨T_93, E⟩ := gd_of E
  obtain ⟨T_94, E⟩ := gd_of E
  refine ww_aast (ci := 8) C dX0_init_80 T_93 (by decide) (by decide) rfl rfl T_94 (by decide) ?_
  refine ww_bdZ E (fun Sk95 dyk95 ek95 E => ?_)
  have mk95 : S.1 ≤ Sk95.1 := by rw [ek95]; exact mk92
  have ck95 : clo Sk95 := by rw [ek95]; exact clo_sr ck90 (gs_lt T_94 (by decide)).2
  refine ww_iinc (v := (2)) (lv' := [(3, .int (2 : Int32)), (0, .ref (ad89 a0)), (1, .ref (ad89 a1)), (2, .ref (ad89 a2))]) C dX0_init_81 0 rfl (by decide) (by decide) rfl ?_
  refine ww_goto (tgt := 60) C dX0_init_84 (by decide) ?_
  refine ww_iload_n C dX0_init_60 rfl 0 rfl ?_
  refine ww_bipush (v := (8)) C dX0_init_61 (by decide) ?_
  refine ww_jcgtF (tgt := 87) C dX0_init_63 (by decide) (by decide) ?_
  refine ww_aload_n C dX0_init_66 rfl 1 rfl ?_
  obtain ⟨T_96, E⟩ := gd_of E
  obtain ⟨T_97, E⟩ := gd_of E
  refine ww_getr (ci := 0) (k0 := 2) C dX0_init_67 rfl rfl inm0 (by decide) T_96 q471 rfl T_97 (by decide) ?_
  refine ww_iload_n C dX0_init_70 rfl 0 rfl ?_
  obtain ⟨T_98, E⟩ := gd_of E
  obtain ⟨T_99, E⟩ := gd_of E
  refine ww_new (ci := 8) C dX0_init_71 ck95 rfl rfl inm8 tyX8_ok (by decide) q466 q256 q112 (Nat.le_of_ble_eq_true rfl) (Nat.le_of_ble_eq_true rfl) (fun ad101 gg100 => ?_)
  rw [← gg100 a0 (gs_lt T_96 (by decide)).2]
  rw [← gg100 a1 (gs_lt T_98 (by decide)).2]
  rw [← gg100 a2 (gs_lt T_99 (by decide)).2]
  rw [← gg100 (gr Sk95 a0 2) (gs_lt T_97 (by decide)).2]
  refine ww_bdZ E (fun Sk102 dyk102 ek102 E => ?_)
  have mk102 : S.1 ≤ Sk102.1 := by rw [ek102]; exact Nat.le_succ_of_le mk95
  have ck102 : clo Sk102 := by rw [ek102]; exact clo_al ck95
  have gk102 : ∀ x, x ≤ S.1 → ad101 x = ad x := fun x hx => (gg100 x (Nat.le_trans hx mk95)).trans (gk92 x hx)
  refine ww_dup C dX0_init_74 rfl ?_
  refine ww_aload_n C dX0_init_75 rfl 2 rfl ?_
  refine ww_aload_n C dX0_init_76 rfl 3 rfl ?_
  obtain ⟨T_103, E⟩ := gd_of E
  obtain ⟨T_104, E⟩ := gd_of E
  obtain ⟨T_105, E⟩ := gd_of E
  obtain ⟨T_106, E⟩ := gd_of E
  obtain ⟨T_107, E⟩ := gd_of E
  obtain ⟨z108, e_109, E⟩ := bind_of E
  refine ww_callN (n := 2) (st := [.ref (ad101 (Sk95.1 + 1)), .int (2 : Int32), .ref (ad101 (gr Sk95 a0 2))]) C [.ref (ad101 a1), .ref (ad101 a2)] (M_X8_init l G ad101 ck102 (Sk95.1 + 1) a1 a2 dyk102 e_109) ⟨q259, q112, by decide⟩ q468 q258 rfl rfl (Nat.le_of_ble_eq_true rfl) ⟨(Nat.le_of_ble_eq_true rfl), (Nat.le_of_ble_eq_true rfl)⟩ ⟨(Nat.le_of_ble_eq_true rfl), (Nat.le_of_ble_eq_true rfl)⟩ dX0_init_77 rfl (fun ad111 gg110 ck112 mk113 => ?_)
  rw [← gg110 a0 (gs_lt T_106 (by decide)).2]
  rw [← gg110 a1 (gs_lt T_104 (by decide)).2]
  rw [← gg110 a2 (gs_lt T_105 (by decide)).2]
  rw [← gg110 (gr Sk95 a0 2) (gs_lt T_107 (by decide)).2]
  rw [← gg110 (Sk95.1 + 1) (gs_lt T_103 (by decide)).2]
  have mk114 : S.1 ≤ z108.1.1 := Nat.le_trans mk102 mk113
  have gk114 : ∀ x, x ≤ S.1 → ad111 x = ad x := fun x hx => (gg110 x (Nat.le_trans hx mk102)).trans (gk102 x hx)
  obtain ⟨T_115, E⟩ := gd_of E
  obtain ⟨T_116, E⟩ := gd_of E
  refine ww_aast (ci := 8) C dX0_init_80 T_115 (by decide) (by decide) rfl rfl T_116 (by decide) ?_
  refine ww_bdZ E (fun Sk117 dyk117 ek117 E => ?_)
  have mk117 : S.1 ≤ Sk117.1 := by rw [ek117]; exact mk114
  have ck117 : clo Sk117 := by rw [ek117]; exact clo_sr ck112 (gs_lt T_116 (by decide)).2
  refine ww_iinc (v := (3)) (lv' := [(3, .int (3 : Int32)), (0, .ref (ad111 a0)), (1, .ref (ad111 a1)), (2, .ref (ad111 a2))]) C dX0_init_81 0 rfl (by decide) (by decide) rfl ?_
  refine ww_goto (tgt := 60) C dX0_init_84 (by decide) ?_
  refine ww_iload_n C dX0_init_60 rfl 0 rfl ?_
  refine ww_bipush (v := (8)) C dX0_init_61 (by decide) ?_
  refine ww_jcgtF (tgt := 87) C dX0_init_63 (by decide) (by decide) ?_
  refine ww_aload_n C dX0_init_66 rfl 1 rfl ?_
  obtain ⟨T_118, E⟩ := gd_of E
  obtain ⟨T_119, E⟩ := gd_of E
  refine ww_getr (ci := 0) (k0 := 2) C dX0_init_67 rfl rfl inm0 (by decide) T_118 q471 rfl T_119 (by decide) ?_
  refine ww_iload_n C dX0_init_70 rfl 0 rfl ?_
  obtain ⟨T_120, E⟩ := gd_of E
  obtain ⟨T_121, E⟩ := gd_of E
  refine ww_new (ci := 8) C dX0_init_71 ck117 rfl rfl inm8 tyX8_ok (by decide) q466 q256 q112 (Nat.le_of_ble_eq_true rfl) (Nat.le_of_ble_eq_true rfl) (fun ad123 gg122 => ?_)
  rw [← gg122 a0 (gs_lt T_118 (by decide)).2]
  rw [← gg122 a1 (gs_lt T_120 (by decide)).2]
  rw [← gg122 a2 (gs_lt T_121 (by decide)).2]
  rw [← gg122 (gr Sk117 a0 2) (gs_lt T_119 (by decide)).2]
  refine ww_bdZ E (fun Sk124 dyk124 ek124 E => ?_)
  have mk124 : S.1 ≤ Sk124.1 := by rw [ek124]; exact Nat.le_succ_of_le mk117
  have ck124 : clo Sk124 := by rw [ek124]; exact clo_al ck117
  have gk124 : ∀ x, x ≤ S.1 → ad123 x = ad x := fun x hx => (gg122 x (Nat.le_trans hx mk117)).trans (gk114 x hx)
  refine ww_dup C dX0_init_74 rfl ?_
  refine ww_aload_n C dX0_init_75 rfl 2 rfl ?_
  refine ww_aload_n C dX0_init_76 rfl 3 rfl ?_
  obtain ⟨T_125, E⟩ := gd_of E
  obtain ⟨T_126, E⟩ := gd_of E
  obtain ⟨T_127, E⟩ := gd_of E
  obtain ⟨T_128, E⟩ := gd_of E
  obtain ⟨T_129, E⟩ := gd_of E
  obtain ⟨z130, e_131, E⟩ := bind_of E
  refine ww_callN (n := 2) (st := [.ref (ad123 (Sk117.1 + 1)), .int (3 : Int32), .ref (ad123 (gr Sk117 a0 2))]) C [.ref (ad123 a1), .ref (ad123 a2)] (M_X8_init l G ad123 ck124 (Sk117.1 + 1) a1 a2 dyk124 e_131) ⟨q259, q112, by decide⟩ q468 q258 rfl rfl (Nat.le_of_ble_eq_true rfl) ⟨(Nat.le_of_ble_eq_true rfl), (Nat.le_of_ble_eq_true rfl)⟩ ⟨(Nat.le_of_ble_eq_true rfl), (Nat.le_of_ble_eq_true rfl)⟩ dX0_init_77 rfl (fun ad133 gg132 ck134 mk135 => ?_)
  rw [← gg132 a0 (gs_lt T_128 (by decide)).2]
  rw [← gg132 a1 (gs_lt T_126 (by decide)).2]
  rw [← gg132 a2 (gs_lt T_127 (by decide)).2]
  rw [← gg132 (gr Sk117 a0 2) (gs_lt T_129 (by decide)).2]
  rw [← gg132 (Sk117.1 + 1) (gs_lt T_125 (by decide)).2]
  have mk136 : S.1 ≤ z130.1.1 := Nat.le_trans mk124 mk135
  have gk136 : ∀ x, x ≤ S.1 → ad133 x = ad x := fun x hx => (gg132 x (Nat.le_trans hx mk124)).trans (gk124 x hx)
  obtain ⟨T_137, E⟩ := gd_of E
  obtain ⟨T_138, E⟩ := gd_of E
  refine ww_aast (ci := 8) C dX0_init_80 T_137 (by decide) (by decide) rfl rfl T_138 (by decide) ?_
  refine ww_bdZ E (fun Sk139 dyk139 ek139 E => ?_)
  have mk139 : S.1 ≤ Sk139.1 := by rw [ek139]; exact mk136
  have ck139 : clo Sk139 := by rw [ek139]; exact clo_sr ck134 (gs_lt T_138 (by decide)).2
  refine ww_iinc (v := (4)) (lv' := [(3, .int (4 : Int32)), (0, .ref (ad133 a0)), (1, .ref (ad133 a1)), (2, .ref (ad133 a2))]) C dX0_init_81 0 rfl (by decide) (by decide) rfl ?_
  refine ww_goto (tgt := 60) C dX0_init_84 (by decide) ?_
  refine ww_iload_n C dX0_init_60 rfl 0 rfl ?_
  refine ww_bipush (v := (8)) C dX0_init_61 (by decide) ?_
  refine ww_jcgtF (tgt := 87) C dX0_init_63 (by decide) (by decide) ?_
  refine ww_aload_n C dX0_init_66 rfl 1 rfl ?_
  obtain ⟨T_140, E⟩ := gd_of E
  obtain ⟨T_141, E⟩ := gd_of E
  refine ww_getr (ci := 0) (k0 := 2) C dX0_init_67 rfl rfl inm0 (by decide) T_140 q471 rfl T_141 (by decide) ?_
  refine ww_iload_n C dX0_init_70 rfl 0 rfl ?_
  obtain ⟨T_142, E⟩ := gd_of E
  obtain ⟨T_143, E⟩ := gd_of E
  refine ww_new (ci := 8) C dX0_init_71 ck139 rfl rfl inm8 tyX8_ok (by decide) q466 q256 q112 (Nat.le_of_ble_eq_true rfl) (Nat.le_of_ble_eq_true rfl) (fun ad145 gg144 => ?_)
  rw [← gg144 a0 (gs_lt T_140 (by decide)).2]
  rw [← gg144 a1 (gs_lt T_142 (by decide)).2]
  rw [← gg144 a2 (gs_lt T_143 (by decide)).2]
  rw [← gg144 (gr Sk139 a0 2) (gs_lt T_141 (by decide)).2]
  refine ww_bdZ E (fun Sk146 dyk146 ek146 E => ?_)
  have mk146 : S.1 ≤ Sk146.1 := by rw [ek146]; exact Nat.le_succ_of_le mk139
  have ck146 : clo Sk146 := by rw [ek146]; exact clo_al ck139
  have gk146 : ∀ x, x ≤ S.1 → ad145 x = ad x := fun x hx => (gg144 x (Nat.le_trans hx mk139)).trans (gk136 x hx)
  refine ww_dup C dX0_init_74 rfl ?_
  refine ww_aload_n C dX0_init_75 rfl 2 rfl ?_
  refine ww_aload_n C dX0_init_76 rfl 3 rfl ?_
  obtain ⟨T_147, E⟩ := gd_of E
  obtain ⟨T_148, E⟩ := gd_of E
  obtain ⟨T_149, E⟩ := gd_of E
  obtain ⟨T_150, E⟩ := gd_of E
  obtain ⟨T_151, E⟩ := gd_of E
  obtain ⟨z152, e_153, E⟩ := bind_of E
  refine ww_callN (n := 2) (st := [.ref (ad145 (Sk139.1 + 1)), .int (4 : Int32), .ref (ad145 (gr Sk139 a0 2))]) C [.ref (ad145 a1), .ref (ad145 a2)] (M_X8_init l G ad145 ck146 (Sk139.1 + 1) a1 a2 dyk146 e_153) ⟨q259, q112, by decide⟩ q468 q258 rfl rfl (Nat.le_of_ble_eq_true rfl) ⟨(Nat.le_of_ble_eq_true rfl), (Nat.le_of_ble_eq_true rfl)⟩ ⟨(Nat.le_of_ble_eq_true rfl), (Nat.le_of_ble_eq_true rfl)⟩ dX0_init_77 rfl (fun ad155 gg154 ck156 mk157 => ?_)
  rw [← gg154 a0 (gs_lt T_150 (by decide)).2]
  rw [← gg154 a1 (gs_lt T_148 (by decide)).2]
  rw [← gg154 a2 (gs_lt T_149 (by decide)).2]
  rw [← gg154 (gr Sk139 a0 2) (gs_lt T_151 (by decide)).2]
  rw [← gg154 (Sk139.1 + 1) (gs_lt T_147 (by decide)).2]
  have mk158 : S.1 ≤ z152.1.1 := Nat.le_trans mk146 mk157
  have gk158 : ∀ x, x ≤ S.1 → ad155 x = ad x := fun x hx => (gg154 x (Nat.le_trans hx mk146)).trans (gk146 x hx)
  obtain ⟨T_159, E⟩ := gd_of E
  obtain ⟨T_160, E⟩ := gd_of E
  refine ww_aast (ci := 8) C dX0_init_80 T_159 (by decide) (by decide) rfl rfl T_160 (by decide) ?_
  refine ww_bdZ E (fun Sk161 dyk161 ek161 E => ?_)
  have mk161 : S.1 ≤ Sk161.1 := by rw [ek161]; exact mk158
  have ck161 : clo Sk161 := by rw [ek161]; exact clo_sr ck156 (gs_lt T_160 (by decide)).2
  refine ww_iinc (v := (5)) (lv' := [(3, .int (5 : Int32)), (0, .ref (ad155 a0)), (1, .ref (ad155 a1)), (2, .ref (ad155 a2))]) C dX0_init_81 0 rfl (by decide) (by decide) rfl ?_
  refine ww_goto (tgt := 60) C dX0_init_84 (by decide) ?_
  refine ww_iload_n C dX0_init_60 rfl 0 rfl ?_
  refine ww_bipush (v := (8)) C dX0_init_61 (by decide) ?_
  refine ww_jcgtF (tgt := 87) C dX0_init_63 (by decide) (by decide) ?_
  refine ww_aload_n C dX0_init_66 rfl 1 rfl ?_
  obtain ⟨T_162, E⟩ := gd_of E
  obtain ⟨T_163, E⟩ := gd_of E
  refine ww_getr (ci := 0) (k0 := 2) C dX0_init_67 rfl rfl inm0 (by decide) T_162 q471 rfl T_163 (by decide) ?_
  refine ww_iload_n C dX0_init_70 rfl 0 rfl ?_
  obtain ⟨T_164, E⟩ := gd_of E
  obtain ⟨T_165, E⟩ := gd_of E
  refine ww_new (ci := 8) C dX0_init_71 ck161 rfl rfl inm8 tyX8_ok (by decide) q466 q256 q112 (Nat.le_of_ble_eq_true rfl) (Nat.le_of_ble_eq_true rfl) (fun ad167 gg166 => ?_)
  rw [← gg166 a0 (gs_lt T_162 (by decide)).2]
  rw [← gg166 a1 (gs_lt T_164 (by decide)).2]
  rw [← gg166 a2 (gs_lt T_165 (by decide)).2]
  rw [← gg166 (gr Sk161 a0 2) (gs_lt T_163 (by decide)).2]
  refine ww_bdZ E (fun Sk168 dyk168 ek168 E => ?_)
  have mk168 : S.1 ≤ Sk168.1 := by rw [ek168]; exact Nat.le_succ_of_le mk161
  have ck168 : clo Sk168 := by rw [ek168]; exact clo_al ck161
  have gk168 : ∀ x, x ≤ S.1 → ad167 x = ad x := fun x hx => (gg166 x (Nat.le_trans hx mk161)).trans (gk158 x hx)
  refine ww_dup C dX0_init_74 rfl ?_
  refine ww_aload_n C dX0_init_75 rfl 2 rfl ?_
  refine ww_aload_n C dX0_init_76 rfl 3 rfl ?_
  obtain ⟨T_169, E⟩ := gd_of E
  obtain ⟨T_170, E⟩ := gd_of E
  obtain ⟨T_171, E⟩ := gd_of E
  obtain ⟨T_172, E⟩ := gd_of E
  obtain ⟨T_173, E⟩ := gd_of E
  obtain ⟨z174, e_175, E⟩ := bind_of E
  refine ww_callN (n := 2) (st := [.ref (ad167 (Sk161.1 + 1)), .int (5 : Int32), .ref (ad167 (gr Sk161 a0 2))]) C [.ref (ad167 a1), .ref (ad167 a2)] (M_X8_init l G ad167 ck168 (Sk161.1 + 1) a1 a2 dyk168 e_175) ⟨q259, q112, by decide⟩ q468 q258 rfl rfl (Nat.le_of_ble_eq_true rfl) ⟨(Nat.le_of_ble_eq_true rfl), (Nat.le_of_ble_eq_true rfl)⟩ ⟨(Nat.le_of_ble_eq_true rfl), (Nat.le_of_ble_eq_true rfl)⟩ dX0_init_77 rfl (fun ad177 gg176 ck178 mk179 => ?_)
  rw [← gg176 a0 (gs_lt T_172 (by decide)).2]
  rw [← gg176 a1 (gs_lt T_170 (by decide)).2]
  rw [← gg176 a2 (gs_lt T_171 (by decide)).2]
  rw [← gg176 (gr Sk161 a0 2) (gs_lt T_173 (by decide)).2]
  rw [← gg176 (Sk161.1 + 1) (gs_lt T_169 (by decide)).2]
  have mk180 : S.1 ≤ z174.1.1 := Nat.le_trans mk168 mk179
  have gk180 : ∀ x, x ≤ S.1 → ad177 x = ad x := fun x hx => (gg176 x (Nat.le_trans hx mk168)).trans (gk168 x hx)
  obtain ⟨T_181, E⟩ := gd_of E
  obtain ⟨T_182, E⟩ := gd_of E
  refine ww_aast (ci := 8) C dX0_init_80 T_181 (by decide) (by decide) rfl rfl T_182 (by decide) ?_
  refine ww_bdZ E (fun Sk183 dyk183 ek183 E => ?_)
  have mk183 : S.1 ≤ Sk183.1 := by rw [ek183]; exact mk180
  have ck183 : clo Sk183 := by rw [ek183]; exact clo_sr ck178 (gs_lt T_182 (by decide)).2
  refine ww_iinc (v := (6)) (lv' := [(3, .int (6 : Int32)), (0, .ref (ad177 a0)), (1, .ref (ad177 a1)), (2, .ref (ad177 a2))]) C dX0_init_81 0 rfl (by decide) (by decide) rfl ?_
  refine ww_goto (tgt := 60) C dX0_init_84 (by decide) ?_
  refine ww_iload_n C dX0_init_60 rfl 0 rfl ?_
  refine ww_bipush (v := (8)) C dX0_init_61 (by decide) ?_
  refine ww_jcgtF (tgt := 87) C dX0_init_63 (by decide) (by decide) ?_
  refine ww_aload_n C dX0_init_66 rfl 1 rfl ?_
  obtain ⟨T_184, E⟩ := gd_of E
  obtain ⟨T_185, E⟩ := gd_of E
  refine ww_getr (ci := 0) (k0 := 2) C dX0_init_67 rfl rfl inm0 (by decide) T_184 q471 rfl T_185 (by decide) ?_
  refine ww_iload_n C dX0_init_70 rfl 0 rfl ?_
  obtain ⟨T_186, E⟩ := gd_of E
  obtain ⟨T_187, E⟩ := gd_of E
  refine ww_new (ci := 8) C dX0_init_71 ck183 rfl rfl inm8 tyX8_ok (by decide) q466 q256 q112 (Nat.le_of_ble_eq_true rfl) (Nat.le_of_ble_eq_true rfl) (fun ad189 gg188 => ?_)
  rw [← gg188 a0 (gs_lt T_184 (by decide)).2]
  rw [← gg188 a1 (gs_lt T_186 (by decide)).2]
  rw [← gg188 a2 (gs_lt T_187 (by decide)).2]
  rw [← gg188 (gr Sk183 a0 2) (gs_lt T_185 (by decide)).2]
  refine ww_bdZ E (fun Sk190 dyk190 ek190 E => ?_)
  have mk190 : S.1 ≤ Sk190.1 := by rw [ek190]; exact Nat.le_succ_of_le mk183
  have ck190 : clo Sk190 := by rw [ek190]; exact clo_al ck183
  have gk190 : ∀ x, x ≤ S.1 → ad189 x = ad x := fun x hx => (gg188 x (Nat.le_trans hx mk183)).trans (gk180 x hx)
  refine ww_dup C dX0_init_74 rfl ?_
  refine ww_aload_n C dX0_init_75 rfl 2 rfl ?_
  refine ww_aload_n C dX0_init_76 rfl 3 rfl ?_
  obtain ⟨T_191, E⟩ := gd_of E
  obtain ⟨T_192, E⟩ := gd_of E
  obtain ⟨T_193, E⟩ := gd_of E
  obtain ⟨T_194, E⟩ := gd_of E
  obtain ⟨T_195, E⟩ := gd_of E
  obtain ⟨z196, e_197, E⟩ := bind_of E
  refine ww_callN (n := 2) (st := [.ref (ad189 (Sk183.1 + 1)), .int (6 : Int32), .ref (ad189 (gr Sk183 a0 2))]) C [.ref (ad189 a1), .ref (ad189 a2)] (M_X8_init l G ad189 ck190 (Sk183.1 + 1) a1 a2 dyk190 e_197) ⟨q259, q112, by decide⟩ q468 q258 rfl rfl (Nat.le_of_ble_eq_true rfl) ⟨(Nat.le_of_ble_eq_true rfl), (Nat.le_of_ble_eq_true rfl)⟩ ⟨(Nat.le_of_ble_eq_true rfl), (Nat.le_of_ble_eq_true rfl)⟩ dX0_init_77 rfl (fun ad199 gg198 ck200 mk201 => ?_)
  rw [← gg198 a0 (gs_lt T_194 (by decide)).2]
  rw [← gg198 a1 (gs_lt T_192 (by decide)).2]
  rw [← gg198 a2 (gs_lt T_193 (by decide)).2]
  rw [← gg198 (gr Sk183 a0 2) (gs_lt T_195 (by decide)).2]
  rw [← gg198 (Sk183.1 + 1) (gs_lt T_191 (by decide)).2]
  have mk202 : S.1 ≤ z196.1.1 := Nat.le_trans mk190 mk201
  have gk202 : ∀ x, x ≤ S.1 → ad199 x = ad x := fun x hx => (gg198 x (Nat.le_trans hx mk190)).trans (gk190 x hx)
  obtain ⟨T_203, E⟩ := gd_of E
  obtain ⟨T_204, E⟩ := gd_of E
  refine ww_aast (ci := 8) C dX0_init_80 T_203 (by decide) (by decide) rfl rfl T_204 (by decide) ?_
  refine ww_bdZ E (fun Sk205 dyk205 ek205 E => ?_)
  have mk205 : S.1 ≤ Sk205.1 := by rw [ek205]; exact mk202
  have ck205 : clo Sk205 := by rw [ek205]; exact clo_sr ck200 (gs_lt T_204 (by decide)).2
  refine ww_iinc (v := (7)) (lv' := [(3, .int (7 : Int32)), (0, .ref (ad199 a0)), (1, .ref (ad199 a1)), (2, .ref (ad199 a2))]) C dX0_init_81 0 rfl (by decide) (by decide) rfl ?_
  refine ww_goto (tgt := 60) C dX0_init_84 (by decide) ?_
  refine ww_iload_n C dX0_init_60 rfl 0 rfl ?_
  refine ww_bipush (v := (8)) C dX0_init_61 (by decide) ?_
  refine ww_jcgtF (tgt := 87) C dX0_init_63 (by decide) (by decide) ?_
  refine ww_aload_n C dX0_init_66 rfl 1 rfl ?_
  obtain ⟨T_206, E⟩ := gd_of E
  obtain ⟨T_207, E⟩ := gd_of E
  refine ww_getr (ci := 0) (k0 := 2) C dX0_init_67 rfl rfl inm0 (by decide) T_206 q471 rfl T_207 (by decide) ?_
  refine ww_iload_n C dX0_init_70 rfl 0 rfl ?_
  obtain ⟨T_208, E⟩ := gd_of E
  obtain ⟨T_209, E⟩ := gd_of E
  refine ww_new (ci := 8) C dX0_init_71 ck205 rfl rfl inm8 tyX8_ok (by decide) q466 q256 q112 (Nat.le_of_ble_eq_true rfl) (Nat.le_of_ble_eq_true rfl) (fun ad211 gg210 => ?_)
  rw [← gg210 a0 (gs_lt T_206 (by decide)).2]
  rw [← gg210 a1 (gs_lt T_208 (by decide)).2]
  rw [← gg210 a2 (gs_lt T_209 (by decide)).2]
  rw [← gg210 (gr Sk205 a0 2) (gs_lt T_207 (by decide)).2]
  refine ww_bdZ E (fun Sk212 dyk212 ek212 E => ?_)
  have mk212 : S.1 ≤ Sk212.1 := by rw [ek212]; exact Nat.le_succ_of_le mk205
  have ck212 : clo Sk212 := by rw [ek212]; exact clo_al ck205
  have gk212 : ∀ x, x ≤ S.1 → ad211 x = ad x := fun x hx => (gg210 x (Nat.le_trans hx mk205)).trans (gk202 x hx)
  refine ww_dup C dX0_init_74 rfl ?_
  refine ww_aload_n C dX0_init_75 rfl 2 rfl ?_
  refine ww_aload_n C dX0_init_76 rfl 3 rfl ?_
  obtain ⟨T_213, E⟩ := gd_of E
  obtain ⟨T_214, E⟩ := gd_of E
  obtain ⟨T_215, E⟩ := gd_of E
  obtain ⟨T_216, E⟩ := gd_of E
  obtain ⟨T_217, E⟩ := gd_of E
  obtain ⟨z218, e_219, E⟩ := bind_of E
  refine ww_callN (n := 2) (st := [.ref (ad211 (Sk205.1 + 1)), .int (7 : Int32), .ref (ad211 (gr Sk205 a0 2))]) C [.ref (ad211 a1), .ref (ad211 a2)] (M_X8_init l G ad211 ck212 (Sk205.1 + 1) a1 a2 dyk212 e_219) ⟨q259, q112, by decide⟩ q468 q258 rfl rfl (Nat.le_of_ble_eq_true rfl) ⟨(Nat.le_of_ble_eq_true rfl), (Nat.le_of_ble_eq_true rfl)⟩ ⟨(Nat.le_of_ble_eq_true rfl), (Nat.le_of_ble_eq_true rfl)⟩ dX0_init_77 rfl (fun ad221 gg220 ck222 mk223 => ?_)
  rw [← gg220 a0 (gs_lt T_216 (by decide)).2]
  rw [← gg220 a1 (gs_lt T_214 (by decide)).2]
  rw [← gg220 a2 (gs_lt T_215 (by decide)).2]
  rw [← gg220 (gr Sk205 a0 2) (gs_lt T_217 (by decide)).2]
  rw [← gg220 (Sk205.1 + 1) (gs_lt T_213 (by decide)).2]
  have mk224 : S.1 ≤ z218.1.1 := Nat.le_trans mk212 mk223
  have gk224 : ∀ x, x ≤ S.1 → ad221 x = ad x := fun x hx => (gg220 x (Nat.le_trans hx mk212)).trans (gk212 x hx)
  obtain ⟨T_225, E⟩ := gd_of E
  obtain ⟨T_226, E⟩ := gd_of E
  refine ww_aast (ci := 8) C dX0_init_80 T_225 (by decide) (by decide) rfl rfl T_226 (by decide) ?_
  refine ww_bdZ E (fun Sk227 dyk227 ek227 E => ?_)
  have mk227 : S.1 ≤ Sk227.1 := by rw [ek227]; exact mk224
  have ck227 : clo Sk227 := by rw [ek227]; exact clo_sr ck222 (gs_lt T_226 (by decide)).2
  refine ww_iinc (v := (8)) (lv' := [(3, .int (8 : Int32)), (0, .ref (ad221 a0)), (1, .ref (ad221 a1)), (2, .ref (ad221 a2))]) C dX0_init_81 0 rfl (by decide) (by decide) rfl ?_
  refine ww_goto (tgt := 60) C dX0_init_84 (by decide) ?_
  refine ww_iload_n C dX0_init_60 rfl 0 rfl ?_
  refine ww_bipush (v := (8)) C dX0_init_61 (by decide) ?_
  refine ww_jcgtF (tgt := 87) C dX0_init_63 (by decide) (by decide) ?_
  refine ww_aload_n C dX0_init_66 rfl 1 rfl ?_
  obtain ⟨T_228, E⟩ := gd_of E
  obtain ⟨T_229, E⟩ := gd_of E
  refine ww_getr (ci := 0) (k0 := 2) C dX0_init_67 rfl rfl inm0 (by decide) T_228 q471 rfl T_229 (by decide) ?_
  refine ww_iload_n C dX0_init_70 rfl 0 rfl ?_
  obtain ⟨T_230, E⟩ := gd_of E
  obtain ⟨T_231, E⟩ := gd_of E
  refine ww_new (ci := 8) C dX0_init_71 ck227 rfl rfl inm8 tyX8_ok (by decide) q466 q256 q112 (Nat.le_of_ble_eq_true rfl) (Nat.le_of_ble_eq_true rfl) (fun ad233 gg232 => ?_)
  rw [← gg232 a0 (gs_lt T_228 (by decide)).2]
  rw [← gg232 a1 (gs_lt T_230 (by decide)).2]
  rw [← gg232 a2 (gs_lt T_231 (by decide)).2]
  rw [← gg232 (gr Sk227 a0 2) (gs_lt T_229 (by decide)).2]
  refine ww_bdZ E (fun Sk234 dyk234 ek234 E => ?_)
  have mk234 : S.1 ≤ Sk234.1 := by rw [ek234]; exact Nat.le_succ_of_le mk227
  have ck234 : clo Sk234 := by rw [ek234]; exact clo_al ck227
  have gk234 : ∀ x, x ≤ S.1 → ad233 x = ad x := fun x hx => (gg232 x (Nat.le_trans hx mk227)).trans (gk224 x hx)
  refine ww_dup C dX0_init_74 rfl ?_
  refine ww_aload_n C dX0_init_75 rfl 2 rfl ?_
  refine ww_aload_n C dX0_init_76 rfl 3 rfl ?_
  obtain ⟨T_235, E⟩ := gd_of E
  obtain ⟨T_236, E⟩ := gd_of E
  obtain ⟨T_237, E⟩ := gd_of E
  obtain ⟨T_238, E⟩ := gd_of E
  obtain ⟨T_239, E⟩ := gd_of E
  obtain ⟨z240, e_241, E⟩ := bind_of E
  refine ww_callN (n := 2) (st := [.ref (ad233 (Sk227.1 + 1)), .int (8 : Int32), .ref (ad233 (gr Sk227 a0 2))]) C [.ref (ad233 a1), .ref (ad233 a2)] (M_X8_init l G ad233 ck234 (Sk227.1 + 1) a1 a2 dyk234 e_241) ⟨q259, q112, by decide⟩ q468 q258 rfl rfl (Nat.le_of_ble_eq_true rfl) ⟨(Nat.le_of_ble_eq_true rfl), (Nat.le_of_ble_eq_true rfl)⟩ ⟨(Nat.le_of_ble_eq_true rfl), (Nat.le_of_ble_eq_true rfl)⟩ dX0_init_77 rfl (fun ad243 gg242 ck244 mk245 => ?_)
  rw [← gg242 a0 (gs_lt T_238 (by decide)).2]
  rw [← gg242 a1 (gs_lt T_236 (by decide)).2]
  rw [← gg242 a2 (gs_lt T_237 (by decide)).2]
  rw [← gg242 (gr Sk227 a0 2) (gs_lt T_239 (by decide)).2]
  rw [← gg242 (Sk227.1 + 1) (gs_lt T_235 (by decide)).2]
  have mk246 : S.1 ≤ z240.1.1 := Nat.le_trans mk234 mk245
  have gk246 : ∀ x, x ≤ S.1 → ad243 x = ad x := fun x hx => (gg242 x (Nat.le_trans hx mk234)).trans (gk234 x hx)
  obtain ⟨T_247, E⟩ := gd_of E
  obtain ⟨T_248, E⟩ := gd_of E
  refine ww_aast (ci := 8) C dX0_init_80 T_247 (by decide) (by decide) rfl rfl T_248 (by decide) ?_
  refine ww_bdZ E (fun Sk249 dyk249 ek249 E => ?_)
  have mk249 : S.1 ≤ Sk249.1 := by rw [ek249]; exact mk246
  have ck249 : clo Sk249 := by rw [ek249]; exact clo_sr ck244 (gs_lt T_248 (by decide)).2
  refine ww_iinc (v := (9)) (lv' := [(3, .int (9 : Int32)), (0, .ref (ad243 a0)), (1, .ref (ad243 a1)), (2, .ref (ad243 a2))]) C dX0_init_81 0 rfl (by decide) (by decide) rfl ?_
  refine ww_goto (tgt := 60) C dX0_init_84 (by decide) ?_
  refine ww_iload_n C dX0_init_60 rfl 0 rfl ?_
  refine ww_bipush (v := (8)) C dX0_init_61 (by decide) ?_
  refine ww_jcgtT (tgt := 87) C dX0_init_63 (by decide) (by decide) ?_
  exact ww_vretN C HR HL dX0_init_87 ck249 mk249 gk246 E
set_option maxRecDepth 100000 in
noncomputable def F_X9_init (a0 : Nat) (S : ST) (dy : DY) : Option (ST × DY) := if gs S a0 = (0, 9) then bdZ (alS S (0, 7)) (alD S dy) fun Sk4 dyk4 => if gs Sk4 (S.1 + 1) = (0, 7) then if gs Sk4 a0 = (0, 9) then (F_X7_init (S.1 + 1) Sk4 dyk4).bind fun z7 => if gs z7.1 a0 = (0, 9) then if gs z7.1 (S.1 + 1) = (0, 7) then bdZ (sr z7.1 a0 0 (S.1 + 1)) (z7.2) fun Sk16 dyk16 => if gs Sk16 a0 = (0, 9) then bdZ (alS Sk16 (6, 3)) (alD Sk16 dyk16) fun Sk20 dyk20 => if gs Sk20 a0 = (0, 9) then if gs Sk20 (Sk16.1 + 1) = (6, 3) then bdZ (sr Sk20 a0 1 (Sk16.1 + 1)) (dyk20) fun Sk23 dyk23 => if gs Sk23 a0 = (0, 9) then bdZ (alS Sk23 (3, 3)) (alD Sk23 dyk23) fun Sk27 dyk27 => if gs Sk27 a0 = (0, 9) then if gs Sk27 (Sk23.1 + 1) = (3, 3) then bdZ (sr Sk27 a0 2 (Sk23.1 + 1)) (dyk27) fun Sk30 dyk30 => if gs Sk30 a0 = (0, 9) then bdZ (alS Sk30 (0, 6)) (alD Sk30 dyk30) fun Sk34 dyk34 => if gs Sk34 a0 = (0, 9) then if gs Sk34 (gr Sk34 a0 0) = (0, 7) then if gs Sk34 (gr Sk34 (gr Sk34 a0 0) 0) = (2, 500) then if gs Sk34 (Sk30.1 + 1) = (0, 6) then (F_X6_init (Sk30.1 + 1) (gr Sk34 (gr Sk34 a0 0) 0) Sk34 dyk34).bind fun z39 => if gs z39.1 a0 = (0, 9) then if gs z39.1 (Sk30.1 + 1) = (0, 6) then bdZ (sr z39.1 a0 3 (Sk30.1 + 1)) (z39.2) fun Sk48 dyk48 => if gs Sk48 a0 = (0, 9) then bdZ (alS Sk48 (0, 4)) (alD Sk48 dyk48) fun Sk52 dyk52 => if gs Sk52 (Sk48.1 + 1) = (0, 4) then if gs Sk52 a0 = (0, 9) then (F_X4_init (Sk48.1 + 1) Sk52 dyk52).bind fun z55 => if gs z55.1 a0 = (0, 9) then if gs z55.1 (Sk48.1 + 1) = (0, 4) then bdZ (sr z55.1 a0 4 (Sk48.1 + 1)) (z55.2) fun Sk64 dyk64 => if gs Sk64 a0 = (0, 9) then bdZ (alS Sk64 (0, 2)) (alD Sk64 dyk64) fun Sk68 dyk68 => if gs Sk68 (Sk64.1 + 1) = (0, 2) then if gs Sk68 a0 = (0, 9) then (F_X2_init (Sk64.1 + 1) Sk68 dyk68).bind fun z71 => if gs z71.1 a0 = (0, 9) then if gs z71.1 (Sk64.1 + 1) = (0, 2) then bdZ (sr z71.1 a0 5 (Sk64.1 + 1)) (z71.2) fun Sk80 dyk80 => if gs Sk80 a0 = (0, 9) then bdZ (alS Sk80 (0, 8)) (alD Sk80 dyk80) fun Sk84 dyk84 => if gs Sk84 a0 = (0, 9) then if gs Sk84 (gr Sk84 a0 4) = (0, 4) then if gs Sk84 (gr Sk84 a0 5) = (0, 2) then if gs Sk84 (Sk80.1 + 1) = (0, 8) then (F_X8_init (Sk80.1 + 1) (gr Sk84 a0 4) (gr Sk84 a0 5) Sk84 dyk84).bind fun z89 => if gs z89.1 a0 = (0, 9) then if gs z89.1 (Sk80.1 + 1) = (0, 8) then bdZ (sr z89.1 a0 6 (Sk80.1 + 1)) (z89.2) fun Sk98 dyk98 => if gs Sk98 a0 = (0, 9) then bdZ (alS Sk98 (0, 0)) (alD Sk98 dyk98) fun Sk102 dyk102 => if gs Sk102 a0 = (0, 9) then if gs Sk102 (gr Sk102 a0 4) = (0, 4) then if gs Sk102 (gr Sk102 a0 5) = (0, 2) then if gs Sk102 (Sk98.1 + 1) = (0, 0) then (F_X0_init (Sk98.1 + 1) (gr Sk102 a0 4) (gr Sk102 a0 5) Sk102 dyk102).bind fun z107 => if gs z107.1 a0 = (0, 9) then if gs z107.1 (Sk98.1 + 1) = (0, 0) then bdZ (sr z107.1 a0 7 (Sk98.1 + 1)) (z107.2) fun Sk116 dyk116 => if gs Sk116 a0 = (0, 9) then bdZ (alS Sk116 (0, 5)) (alD Sk116 dyk116) fun Sk120 dyk120 => if gs Sk120 a0 = (0, 9) then if gs Sk120 (gr Sk120 a0 3) = (0, 6) then if gs Sk120 (gr Sk120 a0 4) = (0, 4) then if gs Sk120 (Sk116.1 + 1) = (0, 5) then (F_X5_init (Sk116.1 + 1) (gr Sk120 a0 3) (gr Sk120 a0 4) Sk120 dyk120).bind fun z125 => if gs z125.1 a0 = (0, 9) then if gs z125.1 (Sk116.1 + 1) = (0, 5) then bdZ (sr z125.1 a0 8 (Sk116.1 + 1)) (z125.2) fun Sk134 dyk134 => if gs Sk134 a0 = (0, 9) then bdZ (alS Sk134 (0, 3)) (alD Sk134 dyk134) fun Sk138 dyk138 => if gs Sk138 a0 = (0, 9) then if gs Sk138 (gr Sk138 a0 3) = (0, 6) then if gs Sk138 (gr Sk138 a0 5) = (0, 2) then if gs Sk138 (Sk134.1 + 1) = (0, 3) then (F_X3_init (Sk134.1 + 1) (gr Sk138 a0 3) (gr Sk138 a0 5) Sk138 dyk138).bind fun z143 => if gs z143.1 a0 = (0, 9) then if gs z143.1 (Sk134.1 + 1) = (0, 3) then bdZ (sr z143.1 a0 9 (Sk134.1 + 1)) (z143.2) fun Sk152 dyk152 => if gs Sk152 a0 = (0, 9) then if gs Sk152 (gr Sk152 a0 1) = (6, 3) then bdZ (alS Sk152 (0, 7)) (alD Sk152 dyk152) fun Sk157 dyk157 => if gs Sk157 (Sk152.1 + 1) = (0, 7) then if gs Sk157 a0 = (0, 9) then if gs Sk157 (gr Sk152 a0 1) = (6, 3) then (F_X7_init (Sk152.1 + 1) Sk157 dyk157).bind fun z161 => if gs z161.1 (gr Sk152 a0 1) = (6, 3) then if gs z161.1 (Sk152.1 + 1) = (0, 7) then bdZ (sr z161.1 (gr Sk152 a0 1) (0 : Int32).toNatClampNeg (Sk152.1 + 1)) (z161.2) fun Sk170 dyk170 => if gs Sk170 a0 = (0, 9) then if gs Sk170 (gr Sk170 a0 1) = (6, 3) then bdZ (alS Sk170 (0, 7)) (alD Sk170 dyk170) fun Sk175 dyk175 => if gs Sk175 (Sk170.1 + 1) = (0, 7) then if gs Sk175 a0 = (0, 9) then if gs Sk175 (gr Sk170 a0 1) = (6, 3) then (F_X7_init (Sk170.1 + 1) Sk175 dyk175).bind fun z179 => if gs z179.1 (gr Sk170 a0 1) = (6, 3) then if gs z179.1 (Sk170.1 + 1) = (0, 7) then bdZ (sr z179.1 (gr Sk170 a0 1) (1 : Int32).toNatClampNeg (Sk170.1 + 1)) (z179.2) fun Sk188 dyk188 => if gs Sk188 a0 = (0, 9) then if gs Sk188 (gr Sk188 a0 1) = (6, 3) then bdZ (alS Sk188 (0, 7)) (alD Sk188 dyk188) fun Sk193 dyk193 => if gs Sk193 (Sk188.1 + 1) = (0, 7) then if gs Sk193 a0 = (0, 9) then if gs Sk193 (gr Sk188 a0 1) = (6, 3) then (F_X7_init (Sk188.1 + 1) Sk193 dyk193).bind fun z197 => if gs z197.1 (gr Sk188 a0 1) = (6, 3) then if gs z197.1 (Sk188.1 + 1) = (0, 7) then bdZ (sr z197.1 (gr Sk188 a0 1) (2 : Int32).toNatClampNeg (Sk188.1 + 1)) (z197.2) fun Sk206 dyk206 => if gs Sk206 a0 = (0, 9) then if gs Sk206 (gr Sk206 a0 1) = (6, 3) then some (Sk206, dyk206) else none else none else none else none else none else none else none else none else none else none else none else none else none else none else none else none else none else none else none else none else none else none else none else none else none else none else none else none else none else none else none else none else none else none else none else none else none else none else none else none else none else none else none else none else none else none else none else none else none else none else none else none else none else none else none else none else none else none else none else none else none else none else none else none else none else none else none else none else none else none else none else none else none else none else none else none else none else none else none
theorem dX9_init_0 : decode cX9_init 0 = .ok (.aload_n 0, 1) := by decide +kernel
theorem dX9_init_1 : decode cX9_init 1 = .ok (.invokespecial 1, 3) := by decide +kernel
theorem dX9_init_4 : decode cX9_init 4 = .ok (.aload_n 0, 1) := by decide +kernel
theorem dX9_init_5 : decode cX9_init 5 = .ok (.new 7, 3) := by decide +kernel
theorem dX9_init_8 : decode cX9_init 8 = .ok (.dup, 1) := by decide +kernel
theorem dX9_init_9 : decode cX9_init 9 = .ok (.invokespecial 9, 3) := by decide +kernel
theorem dX9_init_12 : decode cX9_init 12 = .ok (.putfield 10, 3) := by decide +kernel
theorem dX9_init_15 : decode cX9_init 15 = .ok (.aload_n 0, 1) := by decide +kernel
theorem dX9_init_16 : decode cX9_init 16 = .ok (.iconst 3, 1) := by decide +kernel
theorem dX9_init_17 : decode cX9_init 17 = .ok (.anewarray 7, 3) := by decide +kernel
theorem dX9_init_20 : decode cX9_init 20 = .ok (.putfield 16, 3) := by decide +kernel
theorem dX9_init_23 : decode cX9_init 23 = .ok (.aload_n 0, 1) := by decide +kernel
theorem dX9_init_24 : decode cX9_init 24 = .ok (.iconst 3, 1) := by decide +kernel
theorem dX9_init_25 : decode cX9_init 25 = .ok (.newarray .boolean, 2) := by decide +kernel
theorem dX9_init_27 : decode cX9_init 27 = .ok (.putfield 20, 3) := by decide +kernel
theorem dX9_init_30 : decode cX9_init 30 = .ok (.aload_n 0, 1) := by decide +kernel
theorem dX9_init_31 : decode cX9_init 31 = .ok (.new 24, 3) := by decide +kernel
theorem dX9_init_34 : decode cX9_init 34 = .ok (.dup, 1) := by decide +kernel
theorem dX9_init_35 : decode cX9_init 35 = .ok (.aload_n 0, 1) := by decide +kernel
theorem dX9_init_36 : decode cX9_init 36 = .ok (.getfield 10, 3) := by decide +kernel
theorem dX9_init_39 : decode cX9_init 39 = .ok (.getfield 26, 3) := by decide +kernel
theorem dX9_init_42 : decode cX9_init 42 = .ok (.invokespecial 30, 3) := by decide +kernel
theorem dX9_init_45 : decode cX9_init 45 = .ok (.putfield 33, 3) := by decide +kernel
theorem dX9_init_48 : decode cX9_init 48 = .ok (.aload_n 0, 1) := by decide +kernel
theorem dX9_init_49 : decode cX9_init 49 = .ok (.new 37, 3) := by decide +kernel
theorem dX9_init_52 : decode cX9_init 52 = .ok (.dup, 1) := by decide +kernel
theorem dX9_init_53 : decode cX9_init 53 = .ok (.invokespecial 39, 3) := by decide +kernel
theorem dX9_init_56 : decode cX9_init 56 = .ok (.putfield 40, 3) := by decide +kernel
theorem dX9_init_59 : decode cX9_init 59 = .ok (.aload_n 0, 1) := by decide +kernel
theorem dX9_init_60 : decode cX9_init 60 = .ok (.new 44, 3) := by decide +kernel
theorem dX9_init_63 : decode cX9_init 63 = .ok (.dup, 1) := by decide +kernel
theorem dX9_init_64 : decode cX9_init 64 = .ok (.invokespecial 46, 3) := by decide +kernel
theorem dX9_init_67 : decode cX9_init 67 = .ok (.putfield 47, 3) := by decide +kernel
theorem dX9_init_70 : decode cX9_init 70 = .ok (.aload_n 0, 1) := by decide +kernel
theorem dX9_init_71 : decode cX9_init 71 = .ok (.new 51, 3) := by decide +kernel
theorem dX9_init_74 : decode cX9_init 74 = .ok (.dup, 1) := by decide +kernel
theorem dX9_init_75 : decode cX9_init 75 = .ok (.aload_n 0, 1) := by decide +kernel
theorem dX9_init_76 : decode cX9_init 76 = .ok (.getfield 40, 3) := by decide +kernel
theorem dX9_init_79 : decode cX9_init 79 = .ok (.aload_n 0, 1) := by decide +kernel
theorem dX9_init_80 : decode cX9_init 80 = .ok (.getfield 47, 3) := by decide +kernel
theorem dX9_init_83 : decode cX9_init 83 = .ok (.invokespecial 53, 3) := by decide +kernel
theorem dX9_init_86 : decode cX9_init 86 = .ok (.putfield 56, 3) := by decide +kernel
theorem dX9_init_89 : decode cX9_init 89 = .ok (.aload_n 0, 1) := by decide +kernel
theorem dX9_init_90 : decode cX9_init 90 = .ok (.new 60, 3) := by decide +kernel
theorem dX9_init_93 : decode cX9_init 93 = .ok (.dup, 1) := by decide +kernel
theorem dX9_init_94 : decode cX9_init 94 = .ok (.aload_n 0, 1) := by decide +kernel
theorem dX9_init_95 : decode cX9_init 95 = .ok (.getfield 40, 3) := by decide +kernel
theorem dX9_init_98 : decode cX9_init 98 = .ok (.aload_n 0, 1) := by decide +kernel
theorem dX9_init_99 : decode cX9_init 99 = .ok (.getfield 47, 3) := by decide +kernel
theorem dX9_init_102 : decode cX9_init 102 = .ok (.invokespecial 62, 3) := by decide +kernel
theorem dX9_init_105 : decode cX9_init 105 = .ok (.putfield 63, 3) := by decide +kernel
theorem dX9_init_108 : decode cX9_init 108 = .ok (.aload_n 0, 1) := by decide +kernel
theorem dX9_init_109 : decode cX9_init 109 = .ok (.new 67, 3) := by decide +kernel
theorem dX9_init_112 : decode cX9_init 112 = .ok (.dup, 1) := by decide +kernel
theorem dX9_init_113 : decode cX9_init 113 = .ok (.aload_n 0, 1) := by decide +kernel
theorem dX9_init_114 : decode cX9_init 114 = .ok (.getfield 33, 3) := by decide +kernel
theorem dX9_init_117 : decode cX9_init 117 = .ok (.aload_n 0, 1) := by decide +kernel
theorem dX9_init_118 : decode cX9_init 118 = .ok (.getfield 40, 3) := by decide +kernel
theorem dX9_init_121 : decode cX9_init 121 = .ok (.invokespecial 69, 3) := by decide +kernel
theorem dX9_init_124 : decode cX9_init 124 = .ok (.putfield 72, 3) := by decide +kernel
theorem dX9_init_127 : decode cX9_init 127 = .ok (.aload_n 0, 1) := by decide +kernel
theorem dX9_init_128 : decode cX9_init 128 = .ok (.new 76, 3) := by decide +kernel
theorem dX9_init_131 : decode cX9_init 131 = .ok (.dup, 1) := by decide +kernel
theorem dX9_init_132 : decode cX9_init 132 = .ok (.aload_n 0, 1) := by decide +kernel
theorem dX9_init_133 : decode cX9_init 133 = .ok (.getfield 33, 3) := by decide +kernel
theorem dX9_init_136 : decode cX9_init 136 = .ok (.aload_n 0, 1) := by decide +kernel
theorem dX9_init_137 : decode cX9_init 137 = .ok (.getfield 47, 3) := by decide +kernel
theorem dX9_init_140 : decode cX9_init 140 = .ok (.invokespecial 78, 3) := by decide +kernel
theorem dX9_init_143 : decode cX9_init 143 = .ok (.putfield 81, 3) := by decide +kernel
theorem dX9_init_146 : decode cX9_init 146 = .ok (.iconst 0, 1) := by decide +kernel
theorem dX9_init_147 : decode cX9_init 147 = .ok (.istore_n 1, 1) := by decide +kernel
theorem dX9_init_148 : decode cX9_init 148 = .ok (.iload_n 1, 1) := by decide +kernel
theorem dX9_init_149 : decode cX9_init 149 = .ok (.aload_n 0, 1) := by decide +kernel
theorem dX9_init_150 : decode cX9_init 150 = .ok (.getfield 16, 3) := by decide +kernel
theorem dX9_init_153 : decode cX9_init 153 = .ok (.arraylength, 1) := by decide +kernel
theorem dX9_init_154 : decode cX9_init 154 = .ok (.if_icmp .ge 22, 3) := by decide +kernel
theorem dX9_init_157 : decode cX9_init 157 = .ok (.aload_n 0, 1) := by decide +kernel
theorem dX9_init_158 : decode cX9_init 158 = .ok (.getfield 16, 3) := by decide +kernel
theorem dX9_init_161 : decode cX9_init 161 = .ok (.iload_n 1, 1) := by decide +kernel
theorem dX9_init_162 : decode cX9_init 162 = .ok (.new 7, 3) := by decide +kernel
theorem dX9_init_165 : decode cX9_init 165 = .ok (.dup, 1) := by decide +kernel
theorem dX9_init_166 : decode cX9_init 166 = .ok (.invokespecial 9, 3) := by decide +kernel
theorem dX9_init_169 : decode cX9_init 169 = .ok (.aastore, 1) := by decide +kernel
theorem dX9_init_170 : decode cX9_init 170 = .ok (.iinc 1 1, 3) := by decide +kernel
theorem dX9_init_173 : decode cX9_init 173 = .ok (.goto (-25), 3) := by decide +kernel
theorem dX9_init_176 : decode cX9_init 176 = .ok (.return_, 1) := by decide +kernel
set_option maxHeartbeats 4000000 in
set_option maxRecDepth 100000 in
theorem M_X9_init (l : Launch) (G : GG) (ad : Nat → Nat) {S : ST} (hc0 : clo S) (a0 : Nat) (dy : DY) {S' : ST} {dy' : DY} (E : F_X9_init a0 S dy = some (S', dy')) : MN l yX9_init cX9_init 2 3 G ad [.ref (ad a0)] S S' dy dy' 508 23102 := by
  unfold F_X9_init at E
  have m0 : S.1 ≤ S.1 := Nat.le_refl _
  have ag0 : ∀ x, x ≤ S.1 → ad x = ad x := fun _ _ => rfl
  refine mn_of RX9 (by decide) rfl rfl (Nat.le_of_ble_eq_true rfl) (fun p e s m args below meth c A C HR HL HI => ?_)
  refine ww_sub (lv' := [(0, .ref (ad a0))]) [0] rfl ?_
  refine ww_aload_n C dX9_init_0 rfl 0 rfl ?_
  refine ww_objinit C dX9_init_1 q132 q133 qObj (Nat.le_of_ble_eq_true rfl) (Nat.le_of_ble_eq_true rfl) (Nat.le_of_ble_eq_true rfl) ?_
  refine ww_aload_n C dX9_init_4 rfl 0 rfl ?_
  obtain ⟨T_1, E⟩ := gd_of E
  refine ww_new (ci := 7) C dX9_init_5 hc0 rfl rfl inm7 tyX7_ok (by decide) q135 q136 q109 (Nat.le_of_ble_eq_true rfl) (Nat.le_of_ble_eq_true rfl) (fun ad3 gg2 => ?_)
  rw [← gg2 a0 (gs_lt T_1 (by decide)).2]
  refine ww_bdZ E (fun Sk4 dyk4 ek4 E => ?_)
  have mk4 : S.1 ≤ Sk4.1 := by rw [ek4]; exact Nat.le_succ_of_le m0
  have ck4 : clo Sk4 := by rw [ek4]; exact clo_al hc0
  have gk4 : ∀ x, x ≤ S.1 → ad3 x = ad x := fun x hx => (gg2 x (Nat.le_trans hx m0)).trans (ag0 x hx)
  refine ww_dup C dX9_init_8 rfl ?_
  obtain ⟨T_5, E⟩ := gd_of E
  obtain ⟨T_6, E⟩ := gd_of E
  obtain ⟨z7, e_8, E⟩ := bind_of E
  refine ww_callN (n := 0) (st := [.ref (ad3 (S.1 + 1)), .ref (ad3 a0)]) C [] (M_X7_init l G ad3 ck4 (S.1 + 1) dyk4 e_8) ⟨q139, q109, by decide⟩ q137 q138 rfl rfl (Nat.le_of_ble_eq_true rfl) ⟨(Nat.le_of_ble_eq_true rfl), (Nat.le_of_ble_eq_true rfl)⟩ ⟨(Nat.le_of_ble_eq_true rfl), (Nat.le_of_ble_eq_true rfl)⟩ dX9_init_9 rfl (fun ad10 gg9 ck11 mk12 => ?_)
  rw [← gg9 a0 (gs_lt T_6 (by decide)).2]
  rw [← gg9 (S.1 + 1) (gs_lt T_5 (by decide)).2]
  have mk13 : S.1 ≤ z7.1.1 := Nat.le_trans mk4 mk12
  have gk13 : ∀ x, x ≤ S.1 → ad10 x = ad x := fun x hx => (gg9 x (Nat.le_trans hx mk4)).trans (gk4 x hx)
  obtain ⟨T_14, E⟩ := gd_of E
  obtain ⟨T_15, E⟩ := gd_of E
  refine ww_putr (ci := 9) (k0 := 0) C dX9_init_12 HI rfl rfl inm9 tyX9_ok nmX9 (by decide) T_14 T_15 (by decide) q524 rfl rfl (tyX9_ok 0 (by decide)) (fun _ => rfl) (fun _ => rfl) rfl ?_
  refine ww_bdZ E (fun Sk16 dyk16 ek16 E => ?_)
  have mk16 : S.1 ≤ Sk16.1 := by rw [ek16]; exact mk13
  have ck16 : clo Sk16 := by rw [ek16]; exact clo_sr ck11 (gs_lt T_15 (by decide)).2
  refine ww_aload_n C dX9_init_15 rfl 0 rfl ?_
  refine ww_iconst (v := (3)) C dX9_init_16 (by decide) ?_
  obtain ⟨T_17, E⟩ := gd_of E
  refine ww_newq (t := 6) (N := 3) C dX9_init_17 ck16 (by decide) rfl (by decide) q135 (by decide) (by decide) (Nat.le_of_ble_eq_true rfl) (Nat.le_of_ble_eq_true rfl) (Nat.le_of_ble_eq_true rfl) (fun ad19 gg18 => ?_)
  rw [← gg18 a0 (gs_lt T_17 (by decide)).2]
  refine ww_bdZ E (fun Sk20 dyk20 ek20 E => ?_)
  have mk20 : S.1 ≤ Sk20.1 := by rw [ek20]; exact Nat.le_succ_of_le mk16
  have ck20 : clo Sk20 := by rw [ek20]; exact clo_al ck16
  have gk20 : ∀ x, x ≤ S.1 → ad19 x = ad x := fun x hx => (gg18 x (Nat.le_trans hx mk16)).trans (gk13 x hx)
  obtain ⟨T_21, E⟩ := gd_of E
  obtain ⟨T_22, E⟩ := gd_of E
  refine ww_putr (ci := 9) (k0 := 1) C dX9_init_20 HI rfl rfl inm9 tyX9_ok nmX9 (by decide) T_21 T_22 (by decide) q525 rfl rfl (tyX9_ok 1 (by decide)) (fun _ => rfl) (fun _ => rfl) rfl ?_
  refine ww_bdZ E (fun Sk23 dyk23 ek23 E => ?_)
  have mk23 : S.1 ≤ Sk23.1 := by rw [ek23]; exact mk20
  have ck23 : clo Sk23 := by rw [ek23]; exact clo_sr ck20 (gs_lt T_22 (by decide)).2
  refine ww_aload_n C dX9_init_23 rfl 0 rfl ?_
  refine ww_iconst (v := (3)) C dX9_init_24 (by decide) ?_
  obtain ⟨T_24, E⟩ := gd_of E
  refine ww_newa (t := 3) (N := 3) C dX9_init_25 ck23 rfl (by decide) (by decide) rfl q224 (by decide) (by decide) (Nat.le_of_ble_eq_true rfl) (Nat.le_of_ble_eq_true rfl) (Nat.le_of_ble_eq_true rfl) (fun ad26 gg25 => ?_)
  rw [← gg25 a0 (gs_lt T_24 (by decide)).2]
  refine ww_bdZ E (fun Sk27 dyk27 ek27 E => ?_)
  have mk27 : S.1 ≤ Sk27.1 := by rw [ek27]; exact Nat.le_succ_of_le mk23
  have ck27 : clo Sk27 := by rw [ek27]; exact clo_al ck23
  have gk27 : ∀ x, x ≤ S.1 → ad26 x = ad x := fun x hx => (gg25 x (Nat.le_trans hx mk23)).trans (gk20 x hx)
  obtain ⟨T_28, E⟩ := gd_of E
  obtain ⟨T_29, E⟩ := gd_of E
  refine ww_putr (ci := 9) (k0 := 2) C dX9_init_27 HI rfl rfl inm9 tyX9_ok nmX9 (by decide) T_28 T_29 (by decide) q526 rfl rfl (tyX9_ok 2 (by decide)) (fun _ => rfl) (fun _ => rfl) rfl ?_
  refine ww_bdZ E (fun Sk30 dyk30 ek30 E => ?_)
  have mk30 : S.1 ≤ Sk30.1 := by rw [ek30]; exact mk27
  have ck30 : clo Sk30 := by rw [ek30]; exact clo_sr ck27 (gs_lt T_29 (by decide)).2
  refine ww_aload_n C dX9_init_30 rfl 0 rfl ?_
  obtain ⟨T_31, E⟩ := gd_of E
  refine ww_new (ci := 6) C dX9_init_31 ck30 rfl rfl inm6 tyX6_ok (by decide) q419 q420 q114 (Nat.le_of_ble_eq_true rfl) (Nat.le_of_ble_eq_true rfl) (fun ad33 gg32 => ?_)
  rw [← gg32 a0 (gs_lt T_31 (by decide)).2]
  refine ww_bdZ E (fun Sk34 dyk34 ek34 E => ?_)
  have mk34 : S.1 ≤ Sk34.1 := by rw [ek34]; exact Nat.le_succ_of_le mk30
  have ck34 : clo Sk34 := by rw [ek34]; exact clo_al ck30
  have gk34 : ∀ x, x ≤ S.1 → ad33 x = ad x := fun x hx => (gg32 x (Nat.le_trans hx mk30)).trans (gk27 x hx)
  refine ww_dup C dX9_init_34 rfl ?_
  refine ww_aload_n C dX9_init_35 rfl 0 rfl ?_
  obtain ⟨T_35, E⟩ := gd_of E
  obtain ⟨T_36, E⟩ := gd_of E
  refine ww_getr (ci := 9) (k0 := 0) C dX9_init_36 rfl rfl inm9 (by decide) T_35 q524 rfl T_36 (by decide) ?_
  obtain ⟨T_37, E⟩ := gd_of E
  refine ww_getr (ci := 7) (k0 := 0) C dX9_init_39 rfl rfl inm7 (by decide) T_36 q368 rfl T_37 (by decide) ?_
  obtain ⟨T_38, E⟩ := gd_of E
  obtain ⟨z39, e_40, E⟩ := bind_of E
  refine ww_callN (n := 1) (st := [.ref (ad33 (Sk30.1 + 1)), .ref (ad33 a0)]) C [.ref (ad33 (gr Sk34 (gr Sk34 a0 0) 0))] (M_X6_init l G ad33 ck34 (Sk30.1 + 1) (gr Sk34 (gr Sk34 a0 0) 0) dyk34 e_40) ⟨q423, q114, by decide⟩ q421 q422 rfl rfl (Nat.le_of_ble_eq_true rfl) ⟨(Nat.le_of_ble_eq_true rfl), (Nat.le_of_ble_eq_true rfl)⟩ ⟨(Nat.le_of_ble_eq_true rfl), (Nat.le_of_ble_eq_true rfl)⟩ dX9_init_42 rfl (fun ad42 gg41 ck43 mk44 => ?_)
  rw [← gg41 a0 (gs_lt T_35 (by decide)).2]
  rw [← gg41 (Sk30.1 + 1) (gs_lt T_38 (by decide)).2]
  have mk45 : S.1 ≤ z39.1.1 := Nat.le_trans mk34 mk44
  have gk45 : ∀ x, x ≤ S.1 → ad42 x = ad x := fun x hx => (gg41 x (Nat.le_trans hx mk34)).trans (gk34 x hx)
  obtain ⟨T_46, E⟩ := gd_of E
  obtain ⟨T_47, E⟩ := gd_of E
  refine ww_putr (ci := 9) (k0 := 3) C dX9_init_45 HI rfl rfl inm9 tyX9_ok nmX9 (by decide) T_46 T_47 (by decide) q527 rfl rfl (tyX9_ok 3 (by decide)) (fun _ => rfl) (fun _ => rfl) rfl ?_
  refine ww_bdZ E (fun Sk48 dyk48 ek48 E => ?_)
  have mk48 : S.1 ≤ Sk48.1 := by rw [ek48]; exact mk45
  have ck48 : clo Sk48 := by rw [ek48]; exact clo_sr ck43 (gs_lt T_47 (by decide)).2
  refine ww_aload_n C dX9_init_48 rfl 0 rfl ?_
  obtain ⟨T_49, E⟩ := gd_of E
  refine ww_new (ci := 4) C dX9_init_49 ck48 rfl rfl inm4 tyX4_ok (by decide) q454 q145 q110 (Nat.le_of_ble_eq_true rfl) (Nat.le_of_ble_eq_true rfl) (fun ad51 gg50 => ?_)
  rw [← gg50 a0 (gs_lt T_49 (by decide)).2]
  refine ww_bdZ E (fun Sk52 dyk52 ek52 E => ?_)
  have mk52 : S.1 ≤ Sk52.1 := by rw [ek52]; exact Nat.le_succ_of_le mk48
  have ck52 : clo Sk52 := by rw [ek52]; exact clo_al ck48
  have gk52 : ∀ x, x ≤ S.1 → ad51 x = ad x := fun x hx => (gg50 x (Nat.le_trans hx mk48)).trans (gk45 x hx)
  refine ww_dup C dX9_init_52 rfl ?_
  obtain ⟨T_53, E⟩ := gd_of E
  obtain ⟨T_54, E⟩ := gd_of E
  obtain ⟨z55, e_56, E⟩ := bind_of E
  refine ww_callNN (n := 0) (st := [.ref (ad51 (Sk48.1 + 1)), .ref (ad51 a0)]) C [] (M_X4_init l G ad51 ck52 (Sk48.1 + 1) dyk52 e_56) ⟨q148, q110, by decide⟩ (List.mem_of_getElem? (i := 3) rfl) q147 rfl rfl (Nat.le_of_ble_eq_true rfl) ⟨(Nat.le_of_ble_eq_true rfl), (Nat.le_of_ble_eq_true rfl)⟩ ⟨(Nat.le_of_ble_eq_true rfl), (Nat.le_of_ble_eq_true rfl)⟩ dX9_init_53 rfl (fun ad58 gg57 ck59 mk60 => ?_)
  rw [← gg57 a0 (gs_lt T_54 (by decide)).2]
  rw [← gg57 (Sk48.1 + 1) (gs_lt T_53 (by decide)).2]
  have mk61 : S.1 ≤ z55.1.1 := Nat.le_trans mk52 mk60
  have gk61 : ∀ x, x ≤ S.1 → ad58 x = ad x := fun x hx => (gg57 x (Nat.le_trans hx mk52)).trans (gk52 x hx)
  obtain ⟨T_62, E⟩ := gd_of E
  obtain ⟨T_63, E⟩ := gd_of E
  refine ww_putr (ci := 9) (k0 := 4) C dX9_init_56 HI rfl rfl inm9 tyX9_ok nmX9 (by decide) T_62 T_63 (by decide) q528 rfl rfl (tyX9_ok 4 (by decide)) (fun _ => rfl) (fun _ => rfl) rfl ?_
  refine ww_bdZ E (fun Sk64 dyk64 ek64 E => ?_)
  have mk64 : S.1 ≤ Sk64.1 := by rw [ek64]; exact mk61
  have ck64 : clo Sk64 := by rw [ek64]; exact clo_sr ck59 (gs_lt T_63 (by decide)).2
  refine ww_aload_n C dX9_init_59 rfl 0 rfl ?_
  obtain ⟨T_65, E⟩ := gd_of E
  refine ww_new (ci := 2) C dX9_init_60 ck64 rfl rfl inm2 tyX2_ok (by decide) q456 q226 q111 (Nat.le_of_ble_eq_true rfl) (Nat.le_of_ble_eq_true rfl) (fun ad67 gg66 => ?_)
  rw [← gg66 a0 (gs_lt T_65 (by decide)).2]
  refine ww_bdZ E (fun Sk68 dyk68 ek68 E => ?_)
  have mk68 : S.1 ≤ Sk68.1 := by rw [ek68]; exact Nat.le_succ_of_le mk64
  have ck68 : clo Sk68 := by rw [ek68]; exact clo_al ck64
  have gk68 : ∀ x, x ≤ S.1 → ad67 x = ad x := fun x hx => (gg66 x (Nat.le_trans hx mk64)).trans (gk61 x hx)
  refine ww_dup C dX9_init_63 rfl ?_
  obtain ⟨T_69, E⟩ := gd_of E
  obtain ⟨T_70, E⟩ := gd_of E
  obtain ⟨z71, e_72, E⟩ := bind_of E
  refine ww_callNN (n := 0) (st := [.ref (ad67 (Sk64.1 + 1)), .ref (ad67 a0)]) C [] (M_X2_init l G ad67 ck68 (Sk64.1 + 1) dyk68 e_72) ⟨q229, q111, by decide⟩ (List.mem_of_getElem? (i := 4) rfl) q228 rfl rfl (Nat.le_of_ble_eq_true rfl) ⟨(Nat.le_of_ble_eq_true rfl), (Nat.le_of_ble_eq_true rfl)⟩ ⟨(Nat.le_of_ble_eq_true rfl), (Nat.le_of_ble_eq_true rfl)⟩ dX9_init_64 rfl (fun ad74 gg73 ck75 mk76 => ?_)
  rw [← gg73 a0 (gs_lt T_70 (by decide)).2]
  rw [← gg73 (Sk64.1 + 1) (gs_lt T_69 (by decide)).2]
  have mk77 : S.1 ≤ z71.1.1 := Nat.le_trans mk68 mk76
  have gk77 : ∀ x, x ≤ S.1 → ad74 x = ad x := fun x hx => (gg73 x (Nat.le_trans hx mk68)).trans (gk68 x hx)
  obtain ⟨T_78, E⟩ := gd_of E
  obtain ⟨T_79, E⟩ := gd_of E
  refine ww_putr (ci := 9) (k0 := 5) C dX9_init_67 HI rfl rfl inm9 tyX9_ok nmX9 (by decide) T_78 T_79 (by decide) q529 rfl rfl (tyX9_ok 5 (by decide)) (fun _ => rfl) (fun _ => rfl) rfl ?_
  refine ww_bdZ E (fun Sk80 dyk80 ek80 E => ?_)
  have mk80 : S.1 ≤ Sk80.1 := by rw [ek80]; exact mk77
  have ck80 : clo Sk80 := by rw [ek80]; exact clo_sr ck75 (gs_lt T_79 (by decide)).2
  refine ww_aload_n C dX9_init_70 rfl 0 rfl ?_
  obtain ⟨T_81, E⟩ := gd_of E
  refine ww_new (ci := 8) C dX9_init_71 ck80 rfl rfl inm8 tyX8_ok (by decide) q458 q256 q112 (Nat.le_of_ble_eq_true rfl) (Nat.le_of_ble_eq_true rfl) (fun ad83 gg82 => ?_)
  rw [← gg82 a0 (gs_lt T_81 (by decide)).2]
  refine ww_bdZ E (fun Sk84 dyk84 ek84 E => ?_)
  have mk84 : S.1 ≤ Sk84.1 := by rw [ek84]; exact Nat.le_succ_of_le mk80
  have ck84 : clo Sk84 := by rw [ek84]; exact clo_al ck80
  have gk84 : ∀ x, x ≤ S.1 → ad83 x = ad x := fun x hx => (gg82 x (Nat.le_trans hx mk80)).trans (gk77 x hx)
  refine ww_dup C dX9_init_74 rfl ?_
  refine ww_aload_n C dX9_init_75 rfl 0 rfl ?_
  obtain ⟨T_85, E⟩ := gd_of E
  obtain ⟨T_86, E⟩ := gd_of E
  refine ww_getr (ci := 9) (k0 := 4) C dX9_init_76 rfl rfl inm9 (by decide) T_85 q528 rfl T_86 (by decide) ?_
  refine ww_aload_n C dX9_init_79 rfl 0 rfl ?_
  obtain ⟨T_87, E⟩ := gd_of E
  refine ww_getr (ci := 9) (k0 := 5) C dX9_init_80 rfl rfl inm9 (by decide) T_85 q529 rfl T_87 (by decide) ?_
  obtain ⟨T_88, E⟩ := gd_of E
  obtain ⟨z89, e_90, E⟩ := bind_of E
  refine ww_callN (n := 2) (st := [.ref (ad83 (Sk80.1 + 1)), .ref (ad83 a0)]) C [.ref (ad83 (gr Sk84 a0 4)), .ref (ad83 (gr Sk84 a0 5))] (M_X8_init l G ad83 ck84 (Sk80.1 + 1) (gr Sk84 a0 4) (gr Sk84 a0 5) dyk84 e_90) ⟨q259, q112, by decide⟩ q459 q258 rfl rfl (Nat.le_of_ble_eq_true rfl) ⟨(Nat.le_of_ble_eq_true rfl), (Nat.le_of_ble_eq_true rfl)⟩ ⟨(Nat.le_of_ble_eq_true rfl), (Nat.le_of_ble_eq_true rfl)⟩ dX9_init_83 rfl (fun ad92 gg91 ck93 mk94 => ?_)
  rw [← gg91 a0 (gs_lt T_85 (by decide)).2]
  rw [← gg91 (Sk80.1 + 1) (gs_lt T_88 (by decide)).2]
  have mk95 : S.1 ≤ z89.1.1 := Nat.le_trans mk84 mk94
  have gk95 : ∀ x, x ≤ S.1 → ad92 x = ad x := fun x hx => (gg91 x (Nat.le_trans hx mk84)).trans (gk84 x hx)
  obtain ⟨T_96, E⟩ := gd_of E
  obtain ⟨T_97, E⟩ := gd_of E
  refine ww_putr (ci := 9) (k0 := 6) C dX9_init_86 HI rfl rfl inm9 tyX9_ok nmX9 (by decide) T_96 T_97 (by decide) q530 rfl rfl (tyX9_ok 6 (by decide)) (fun _ => rfl) (fun _ => rfl) rfl ?_
  refine ww_bdZ E (fun Sk98 dyk98 ek98 E => ?_)
  have mk98 : S.1 ≤ Sk98.1 := by rw [ek98]; exact mk95
  have ck98 : clo Sk98 := by rw [ek98]; exact clo_sr ck93 (gs_lt T_97 (by decide)).2
  refine ww_aload_n C dX9_init_89 rfl 0 rfl ?_
  obtain ⟨T_99, E⟩ := gd_of E
  refine ww_new (ci := 0) C dX9_init_90 ck98 rfl rfl inm0 tyX0_ok (by decide) q460 q461 q115 (Nat.le_of_ble_eq_true rfl) (Nat.le_of_ble_eq_true rfl) (fun ad101 gg100 => ?_)
  rw [← gg100 a0 (gs_lt T_99 (by decide)).2]
  refine ww_bdZ E (fun Sk102 dyk102 ek102 E => ?_)
  have mk102 : S.1 ≤ Sk102.1 := by rw [ek102]; exact Nat.le_succ_of_le mk98
  have ck102 : clo Sk102 := by rw [ek102]; exact clo_al ck98
  have gk102 : ∀ x, x ≤ S.1 → ad101 x = ad x := fun x hx => (gg100 x (Nat.le_trans hx mk98)).trans (gk95 x hx)
  refine ww_dup C dX9_init_93 rfl ?_
  refine ww_aload_n C dX9_init_94 rfl 0 rfl ?_
  obtain ⟨T_103, E⟩ := gd_of E
  obtain ⟨T_104, E⟩ := gd_of E
  refine ww_getr (ci := 9) (k0 := 4) C dX9_init_95 rfl rfl inm9 (by decide) T_103 q528 rfl T_104 (by decide) ?_
  refine ww_aload_n C dX9_init_98 rfl 0 rfl ?_
  obtain ⟨T_105, E⟩ := gd_of E
  refine ww_getr (ci := 9) (k0 := 5) C dX9_init_99 rfl rfl inm9 (by decide) T_103 q529 rfl T_105 (by decide) ?_
  obtain ⟨T_106, E⟩ := gd_of E
  obtain ⟨z107, e_108, E⟩ := bind_of E
  refine ww_callN (n := 2) (st := [.ref (ad101 (Sk98.1 + 1)), .ref (ad101 a0)]) C [.ref (ad101 (gr Sk102 a0 4)), .ref (ad101 (gr Sk102 a0 5))] (M_X0_init l G ad101 ck102 (Sk98.1 + 1) (gr Sk102 a0 4) (gr Sk102 a0 5) dyk102 e_108) ⟨q464, q115, by decide⟩ q462 q463 rfl rfl (Nat.le_of_ble_eq_true rfl) ⟨(Nat.le_of_ble_eq_true rfl), (Nat.le_of_ble_eq_true rfl)⟩ ⟨(Nat.le_of_ble_eq_true rfl), (Nat.le_of_ble_eq_true rfl)⟩ dX9_init_102 rfl (fun ad110 gg109 ck111 mk112 => ?_)
  rw [← gg109 a0 (gs_lt T_103 (by decide)).2]
  rw [← gg109 (Sk98.1 + 1) (gs_lt T_106 (by decide)).2]
  have mk113 : S.1 ≤ z107.1.1 := Nat.le_trans mk102 mk112
  have gk113 : ∀ x, x ≤ S.1 → ad110 x = ad x := fun x hx => (gg109 x (Nat.le_trans hx mk102)).trans (gk102 x hx)
  obtain ⟨T_114, E⟩ := gd_of E
  obtain ⟨T_115, E⟩ := gd_of E
  refine ww_putr (ci := 9) (k0 := 7) C dX9_init_105 HI rfl rfl inm9 tyX9_ok nmX9 (by decide) T_114 T_115 (by decide) q531 rfl rfl (tyX9_ok 7 (by decide)) (fun _ => rfl) (fun _ => rfl) rfl ?_
  refine ww_bdZ E (fun Sk116 dyk116 ek116 E => ?_)
  have mk116 : S.1 ≤ Sk116.1 := by rw [ek116]; exact mk113
  have ck116 : clo Sk116 := by rw [ek116]; exact clo_sr ck111 (gs_lt T_115 (by decide)).2
  refine ww_aload_n C dX9_init_108 rfl 0 rfl ?_
  obtain ⟨T_117, E⟩ := gd_of E
  refine ww_new (ci := 5) C dX9_init_109 ck116 rfl rfl inm5 tyX5_ok (by decide) q498 q499 q116 (Nat.le_of_ble_eq_true rfl) (Nat.le_of_ble_eq_true rfl) (fun ad119 gg118 => ?_)
  rw [← gg118 a0 (gs_lt T_117 (by decide)).2]
  refine ww_bdZ E (fun Sk120 dyk120 ek120 E => ?_)
  have mk120 : S.1 ≤ Sk120.1 := by rw [ek120]; exact Nat.le_succ_of_le mk116
  have ck120 : clo Sk120 := by rw [ek120]; exact clo_al ck116
  have gk120 : ∀ x, x ≤ S.1 → ad119 x = ad x := fun x hx => (gg118 x (Nat.le_trans hx mk116)).trans (gk113 x hx)
  refine ww_dup C dX9_init_112 rfl ?_
  refine ww_aload_n C dX9_init_113 rfl 0 rfl ?_
  obtain ⟨T_121, E⟩ := gd_of E
  obtain ⟨T_122, E⟩ := gd_of E
  refine ww_getr (ci := 9) (k0 := 3) C dX9_init_114 rfl rfl inm9 (by decide) T_121 q527 rfl T_122 (by decide) ?_
  refine ww_aload_n C dX9_init_117 rfl 0 rfl ?_
  obtain ⟨T_123, E⟩ := gd_of E
  refine ww_getr (ci := 9) (k0 := 4) C dX9_init_118 rfl rfl inm9 (by decide) T_121 q528 rfl T_123 (by decide) ?_
  obtain ⟨T_124, E⟩ := gd_of E
  obtain ⟨z125, e_126, E⟩ := bind_of E
  refine ww_callN (n := 2) (st := [.ref (ad119 (Sk116.1 + 1)), .ref (ad119 a0)]) C [.ref (ad119 (gr Sk120 a0 3)), .ref (ad119 (gr Sk120 a0 4))] (M_X5_init l G ad119 ck120 (Sk116.1 + 1) (gr Sk120 a0 3) (gr Sk120 a0 4) dyk120 e_126) ⟨q502, q116, by decide⟩ q500 q501 rfl rfl (Nat.le_of_ble_eq_true rfl) ⟨(Nat.le_of_ble_eq_true rfl), (Nat.le_of_ble_eq_true rfl)⟩ ⟨(Nat.le_of_ble_eq_true rfl), (Nat.le_of_ble_eq_true rfl)⟩ dX9_init_121 rfl (fun ad128 gg127 ck129 mk130 => ?_)
  rw [← gg127 a0 (gs_lt T_121 (by decide)).2]
  rw [← gg127 (Sk116.1 + 1) (gs_lt T_124 (by decide)).2]
  have mk131 : S.1 ≤ z125.1.1 := Nat.le_trans mk120 mk130
  have gk131 : ∀ x, x ≤ S.1 → ad128 x = ad x := fun x hx => (gg127 x (Nat.le_trans hx mk120)).trans (gk120 x hx)
  obtain ⟨T_132, E⟩ := gd_of E
  obtain ⟨T_133, E⟩ := gd_of E
  refine ww_putr (ci := 9) (k0 := 8) C dX9_init_124 HI rfl rfl inm9 tyX9_ok nmX9 (by decide) T_132 T_133 (by decide) q532 rfl rfl (tyX9_ok 8 (by decide)) (fun _ => rfl) (fun _ => rfl) rfl ?_
  refine ww_bdZ E (fun Sk134 dyk134 ek134 E => ?_)
  have mk134 : S.1 ≤ Sk134.1 := by rw [ek134]; exact mk131
  have ck134 : clo Sk134 := by rw [ek134]; exact clo_sr ck129 (gs_lt T_133 (by decide)).2
  refine ww_aload_n C dX9_init_127 rfl 0 rfl ?_
  obtain ⟨T_135, E⟩ := gd_of E
  refine ww_new (ci := 3) C dX9_init_128 ck134 rfl rfl inm3 tyX3_ok (by decide) q511 q512 q117 (Nat.le_of_ble_eq_true rfl) (Nat.le_of_ble_eq_true rfl) (fun ad137 gg136 => ?_)
  rw [← gg136 a0 (gs_lt T_135 (by decide)).2]
  refine ww_bdZ E (fun Sk138 dyk138 ek138 E => ?_)
  have mk138 : S.1 ≤ Sk138.1 := by rw [ek138]; exact Nat.le_succ_of_le mk134
  have ck138 : clo Sk138 := by rw [ek138]; exact clo_al ck134
  have gk138 : ∀ x, x ≤ S.1 → ad137 x = ad x := fun x hx => (gg136 x (Nat.le_trans hx mk134)).trans (gk131 x hx)
  refine ww_dup C dX9_init_131 rfl ?_
  refine ww_aload_n C dX9_init_132 rfl 0 rfl ?_
  obtain ⟨T_139, E⟩ := gd_of E
  obtain ⟨T_140, E⟩ := gd_of E
  refine ww_getr (ci := 9) (k0 := 3) C dX9_init_133 rfl rfl inm9 (by decide) T_139 q527 rfl T_140 (by decide) ?_
  refine ww_aload_n C dX9_init_136 rfl 0 rfl ?_
  obtain ⟨T_141, E⟩ := gd_of E
  refine ww_getr (ci := 9) (k0 := 5) C dX9_init_137 rfl rfl inm9 (by decide) T_139 q529 rfl T_141 (by decide) ?_
  obtain ⟨T_142, E⟩ := gd_of E
  obtain ⟨z143, e_144, E⟩ := bind_of E
  refine ww_callN (n := 2) (st := [.ref (ad137 (Sk134.1 + 1)), .ref (ad137 a0)]) C [.ref (ad137 (gr Sk138 a0 3)), .ref (ad137 (gr Sk138 a0 5))] (M_X3_init l G ad137 ck138 (Sk134.1 + 1) (gr Sk138 a0 3) (gr Sk138 a0 5) dyk138 e_144) ⟨q515, q117, by decide⟩ q513 q514 rfl rfl (Nat.le_of_ble_eq_true rfl) ⟨(Nat.le_of_ble_eq_true rfl), (Nat.le_of_ble_eq_true rfl)⟩ ⟨(Nat.le_of_ble_eq_true rfl), (Nat.le_of_ble_eq_true rfl)⟩ dX9_init_140 rfl (fun ad146 gg145 ck147 mk148 => ?_)
  rw [← gg145 a0 (gs_lt T_139 (by decide)).2]
  rw [← gg145 (Sk134.1 + 1) (gs_lt T_142 (by decide)).2]
  have mk149 : S.1 ≤ z143.1.1 := Nat.le_trans mk138 mk148
  have gk149 : ∀ x, x ≤ S.1 → ad146 x = ad x := fun x hx => (gg145 x (Nat.le_trans hx mk138)).trans (gk138 x hx)
  obtain ⟨T_150, E⟩ := gd_of E
  obtain ⟨T_151, E⟩ := gd_of E
  refine ww_putr (ci := 9) (k0 := 9) C dX9_init_143 HI rfl rfl inm9 tyX9_ok nmX9 (by decide) T_150 T_151 (by decide) q533 rfl rfl (tyX9_ok 9 (by decide)) (fun _ => rfl) (fun _ => rfl) rfl ?_
  refine ww_bdZ E (fun Sk152 dyk152 ek152 E => ?_)
  have mk152 : S.1 ≤ Sk152.1 := by rw [ek152]; exact mk149
  have ck152 : clo Sk152 := by rw [ek152]; exact clo_sr ck147 (gs_lt T_151 (by decide)).2
  refine ww_iconst (v := (0)) C dX9_init_146 (by decide) ?_
  refine ww_istore_n (lv' := [(1, .int (0 : Int32)), (0, .ref (ad146 a0))]) C dX9_init_147 rfl (by decide) rfl ?_
  refine ww_iload_n C dX9_init_148 rfl 0 rfl ?_
  refine ww_aload_n C dX9_init_149 rfl 1 rfl ?_
  obtain ⟨T_153, E⟩ := gd_of E
  obtain ⟨T_154, E⟩ := gd_of E
  refine ww_getr (ci := 9) (k0 := 1) C dX9_init_150 rfl rfl inm9 (by decide) T_153 q525 rfl T_154 (by decide) ?_
  refine ww_alen (v := 3) C dX9_init_153 T_154 (by decide) (by decide) rfl (by decide) ?_
  refine ww_jcgeF (tgt := 176) C dX9_init_154 (by decide) (by decide) ?_
  refine ww_aload_n C dX9_init_157 rfl 1 rfl ?_
  refine ww_getr (ci := 9) (k0 := 1) C dX9_init_158 rfl rfl inm9 (by decide) T_153 q525 rfl T_154 (by decide) ?_
  refine ww_iload_n C dX9_init_161 rfl 0 rfl ?_
  refine ww_new (ci := 7) C dX9_init_162 ck152 rfl rfl inm7 tyX7_ok (by decide) q135 q136 q109 (Nat.le_of_ble_eq_true rfl) (Nat.le_of_ble_eq_true rfl) (fun ad156 gg155 => ?_)
  rw [← gg155 a0 (gs_lt T_153 (by decide)).2]
  rw [← gg155 (gr Sk152 a0 1) (gs_lt T_154 (by decide)).2]
  refine ww_bdZ E (fun Sk157 dyk157 ek157 E => ?_)
  have mk157 : S.1 ≤ Sk157.1 := by rw [ek157]; exact Nat.le_succ_of_le mk152
  have ck157 : clo Sk157 := by rw [ek157]; exact clo_al ck152
  have gk157 : ∀ x, x ≤ S.1 → ad156 x = ad x := fun x hx => (gg155 x (Nat.le_trans hx mk152)).trans (gk149 x hx)
  refine ww_dup C dX9_init_165 rfl ?_
  obtain ⟨T_158, E⟩ := gd_of E
  obtain ⟨T_159, E⟩ := gd_of E
  obtain ⟨T_160, E⟩ := gd_of E
  obtain ⟨z161, e_162, E⟩ := bind_of E
  refine ww_callN (n := 0) (st := [.ref (ad156 (Sk152.1 + 1)), .int (0 : Int32), .ref (ad156 (gr Sk152 a0 1))]) C [] (M_X7_init l G ad156 ck157 (Sk152.1 + 1) dyk157 e_162) ⟨q139, q109, by decide⟩ q137 q138 rfl rfl (Nat.le_of_ble_eq_true rfl) ⟨(Nat.le_of_ble_eq_true rfl), (Nat.le_of_ble_eq_true rfl)⟩ ⟨(Nat.le_of_ble_eq_true rfl), (Nat.le_of_ble_eq_true rfl)⟩ dX9_init_166 rfl (fun ad164 gg163 ck165 mk166 => ?_)
  rw [← gg163 a0 (gs_lt T_159 (by decide)).2]
  rw [← gg163 (gr Sk152 a0 1) (gs_lt T_160 (by decide)).2]
  rw [← gg163 (Sk152.1 + 1) (gs_lt T_158 (by decide)).2]
  have mk167 : S.1 ≤ z161.1.1 := Nat.le_trans mk157 mk166
  have gk167 : ∀ x, x ≤ S.1 → ad164 x = ad x := fun x hx => (gg163 x (Nat.le_trans hx mk157)).trans (gk157 x hx)
  obtain ⟨T_168, E⟩ := gd_of E
  obtain ⟨T_169, E⟩ := gd_of E
  refine ww_aast (ci := 7) C dX9_init_169 T_168 (by decide) (by decide) rfl rfl T_169 (by decide) ?_
  refine ww_bdZ E (fun Sk170 dyk170 ek170 E => ?_)
  have mk170 : S.1 ≤ Sk170.1 := by rw [ek170]; exact mk167
  have ck170 : clo Sk170 := by rw [ek170]; exact clo_sr ck165 (gs_lt T_169 (by decide)).2
  refine ww_iinc (v := (1)) (lv' := [(1, .int (1 : Int32)), (0, .ref (ad164 a0))]) C dX9_init_170 0 rfl (by decide) (by decide) rfl ?_
  refine ww_goto (tgt := 148) C dX9_init_173 (by decide) ?_
  refine ww_iload_n C dX9_init_148 rfl 0 rfl ?_
  refine ww_aload_n C dX9_init_149 rfl 1 rfl ?_
  obtain ⟨T_171, E⟩ := gd_of E
  obtain ⟨T_172, E⟩ := gd_of E
  refine ww_getr (ci := 9) (k0 := 1) C dX9_init_150 rfl rfl inm9 (by decide) T_171 q525 rfl T_172 (by decide) ?_
  refine ww_alen (v := 3) C dX9_init_153 T_172 (by decide) (by decide) rfl (by decide) ?_
  refine ww_jcgeF (tgt := 176) C dX9_init_154 (by decide) (by decide) ?_
  refine ww_aload_n C dX9_init_157 rfl 1 rfl ?_
  refine ww_getr (ci := 9) (k0 := 1) C dX9_init_158 rfl rfl inm9 (by decide) T_171 q525 rfl T_172 (by decide) ?_
  refine ww_iload_n C dX9_init_161 rfl 0 rfl ?_
  refine ww_new (ci := 7) C dX9_init_162 ck170 rfl rfl inm7 tyX7_ok (by decide) q135 q136 q109 (Nat.le_of_ble_eq_true rfl) (Nat.le_of_ble_eq_true rfl) (fun ad174 gg173 => ?_)
  rw [← gg173 a0 (gs_lt T_171 (by decide)).2]
  rw [← gg173 (gr Sk170 a0 1) (gs_lt T_172 (by decide)).2]
  refine ww_bdZ E (fun Sk175 dyk175 ek175 E => ?_)
  have mk175 : S.1 ≤ Sk175.1 := by rw [ek175]; exact Nat.le_succ_of_le mk170
  have ck175 : clo Sk175 := by rw [ek175]; exact clo_al ck170
  have gk175 : ∀ x, x ≤ S.1 → ad174 x = ad x := fun x hx => (gg173 x (Nat.le_trans hx mk170)).trans (gk167 x hx)
  refine ww_dup C dX9_init_165 rfl ?_
  obtain ⟨T_176, E⟩ := gd_of E
  obtain ⟨T_177, E⟩ := gd_of E
  obtain ⟨T_178, E⟩ := gd_of E
  obtain ⟨z179, e_180, E⟩ := bind_of E
  refine ww_callN (n := 0) (st := [.ref (ad174 (Sk170.1 + 1)), .int (1 : Int32), .ref (ad174 (gr Sk170 a0 1))]) C [] (M_X7_init l G ad174 ck175 (Sk170.1 + 1) dyk175 e_180) ⟨q139, q109, by decide⟩ q137 q138 rfl rfl (Nat.le_of_ble_eq_true rfl) ⟨(Nat.le_of_ble_eq_true rfl), (Nat.le_of_ble_eq_true rfl)⟩ ⟨(Nat.le_of_ble_eq_true rfl), (Nat.le_of_ble_eq_true rfl)⟩ dX9_init_166 rfl (fun ad182 gg181 ck183 mk184 => ?_)
  rw [← gg181 a0 (gs_lt T_177 (by decide)).2]
  rw [← gg181 (gr Sk170 a0 1) (gs_lt T_178 (by decide)).2]
  rw [← gg181 (Sk170.1 + 1) (gs_lt T_176 (by decide)).2]
  have mk185 : S.1 ≤ z179.1.1 := Nat.le_trans mk175 mk184
  have gk185 : ∀ x, x ≤ S.1 → ad182 x = ad x := fun x hx => (gg181 x (Nat.le_trans hx mk175)).trans (gk175 x hx)
  obtain ⟨T_186, E⟩ := gd_of E
  obtain ⟨T_187, E⟩ := gd_of E
  refine ww_aast (ci := 7) C dX9_init_169 T_186 (by decide) (by decide) rfl rfl T_187 (by decide) ?_
  refine ww_bdZ E (fun Sk188 dyk188 ek188 E => ?_)
  have mk188 : S.1 ≤ Sk188.1 := by rw [ek188]; exact mk185
  have ck188 : clo Sk188 := by rw [ek188]; exact clo_sr ck183 (gs_lt T_187 (by decide)).2
  refine ww_iinc (v := (2)) (lv' := [(1, .int (2 : Int32)), (0, .ref (ad182 a0))]) C dX9_init_170 0 rfl (by decide) (by decide) rfl ?_
  refine ww_goto (tgt := 148) C dX9_init_173 (by decide) ?_
  refine ww_iload_n C dX9_init_148 rfl 0 rfl ?_
  refine ww_aload_n C dX9_init_149 rfl 1 rfl ?_
  obtain ⟨T_189, E⟩ := gd_of E
  obtain ⟨T_190, E⟩ := gd_of E
  refine ww_getr (ci := 9) (k0 := 1) C dX9_init_150 rfl rfl inm9 (by decide) T_189 q525 rfl T_190 (by decide) ?_
  refine ww_alen (v := 3) C dX9_init_153 T_190 (by decide) (by decide) rfl (by decide) ?_
  refine ww_jcgeF (tgt := 176) C dX9_init_154 (by decide) (by decide) ?_
  refine ww_aload_n C dX9_init_157 rfl 1 rfl ?_
  refine ww_getr (ci := 9) (k0 := 1) C dX9_init_158 rfl rfl inm9 (by decide) T_189 q525 rfl T_190 (by decide) ?_
  refine ww_iload_n C dX9_init_161 rfl 0 rfl ?_
  refine ww_new (ci := 7) C dX9_init_162 ck188 rfl rfl inm7 tyX7_ok (by decide) q135 q136 q109 (Nat.le_of_ble_eq_true rfl) (Nat.le_of_ble_eq_true rfl) (fun ad192 gg191 => ?_)
  rw [← gg191 a0 (gs_lt T_189 (by decide)).2]
  rw [← gg191 (gr Sk188 a0 1) (gs_lt T_190 (by decide)).2]
  refine ww_bdZ E (fun Sk193 dyk193 ek193 E => ?_)
  have mk193 : S.1 ≤ Sk193.1 := by rw [ek193]; exact Nat.le_succ_of_le mk188
  have ck193 : clo Sk193 := by rw [ek193]; exact clo_al ck188
  have gk193 : ∀ x, x ≤ S.1 → ad192 x = ad x := fun x hx => (gg191 x (Nat.le_trans hx mk188)).trans (gk185 x hx)
  refine ww_dup C dX9_init_165 rfl ?_
  obtain ⟨T_194, E⟩ := gd_of E
  obtain ⟨T_195, E⟩ := gd_of E
  obtain ⟨T_196, E⟩ := gd_of E
  obtain ⟨z197, e_198, E⟩ := bind_of E
  refine ww_callN (n := 0) (st := [.ref (ad192 (Sk188.1 + 1)), .int (2 : Int32), .ref (ad192 (gr Sk188 a0 1))]) C [] (M_X7_init l G ad192 ck193 (Sk188.1 + 1) dyk193 e_198) ⟨q139, q109, by decide⟩ q137 q138 rfl rfl (Nat.le_of_ble_eq_true rfl) ⟨(Nat.le_of_ble_eq_true rfl), (Nat.le_of_ble_eq_true rfl)⟩ ⟨(Nat.le_of_ble_eq_true rfl), (Nat.le_of_ble_eq_true rfl)⟩ dX9_init_166 rfl (fun ad200 gg199 ck201 mk202 => ?_)
  rw [← gg199 a0 (gs_lt T_195 (by decide)).2]
  rw [← gg199 (gr Sk188 a0 1) (gs_lt T_196 (by decide)).2]
  rw [← gg199 (Sk188.1 + 1) (gs_lt T_194 (by decide)).2]
  have mk203 : S.1 ≤ z197.1.1 := Nat.le_trans mk193 mk202
  have gk203 : ∀ x, x ≤ S.1 → ad200 x = ad x := fun x hx => (gg199 x (Nat.le_trans hx mk193)).trans (gk193 x hx)
  obtain ⟨T_204, E⟩ := gd_of E
  obtain ⟨T_205, E⟩ := gd_of E
  refine ww_aast (ci := 7) C dX9_init_169 T_204 (by decide) (by decide) rfl rfl T_205 (by decide) ?_
  refine ww_bdZ E (fun Sk206 dyk206 ek206 E => ?_)
  have mk206 : S.1 ≤ Sk206.1 := by rw [ek206]; exact mk203
  have ck206 : clo Sk206 := by rw [ek206]; exact clo_sr ck201 (gs_lt T_205 (by decide)).2
  refine ww_iinc (v := (3)) (lv' := [(1, .int (3 : Int32)), (0, .ref (ad200 a0))]) C dX9_init_170 0 rfl (by decide) (by decide) rfl ?_
  refine ww_goto (tgt := 148) C dX9_init_173 (by decide) ?_
  refine ww_iload_n C dX9_init_148 rfl 0 rfl ?_
  refine ww_aload_n C dX9_init_149 rfl 1 rfl ?_
  obtain ⟨T_207, E⟩ := gd_of E
  obtain ⟨T_208, E⟩ := gd_of E
  refine ww_getr (ci := 9) (k0 := 1) C dX9_init_150 rfl rfl inm9 (by decide) T_207 q525 rfl T_208 (by decide) ?_
  refine ww_alen (v := 3) C dX9_init_153 T_208 (by decide) (by decide) rfl (by decide) ?_
  refine ww_jcgeT (tgt := 176) C dX9_init_154 (by decide) (by decide) ?_
  exact ww_vretN C HR HL dX9_init_176 ck206 mk206 gk203 E
set_option maxRecDepth 100000 in
noncomputable def F_X10_init (a0 : Nat) (S : ST) (dy : DY) : Option (ST × DY) := if gs S a0 = (0, 10) then bdZ (alS S (2, 2000)) (alD S dy) fun Sk4 dyk4 => if gs Sk4 a0 = (0, 10) then if gs Sk4 (S.1 + 1) = (2, 2000) then bdZ (sr Sk4 a0 1 (S.1 + 1)) (dyk4) fun Sk7 dyk7 => if gs Sk7 a0 = (0, 10) then bdZ (alS Sk7 (1, 4)) (alD Sk7 dyk7) fun Sk11 dyk11 => if gs Sk11 a0 = (0, 10) then if gs Sk11 (Sk7.1 + 1) = (1, 4) then bdZ (sr Sk11 a0 2 (Sk7.1 + 1)) (dyk11) fun Sk14 dyk14 => if gs Sk14 a0 = (0, 10) then bdZ (alS Sk14 (1, 4)) (alD Sk14 dyk14) fun Sk18 dyk18 => if gs Sk18 a0 = (0, 10) then if gs Sk18 (Sk14.1 + 1) = (1, 4) then bdZ (sr Sk18 a0 3 (Sk14.1 + 1)) (dyk18) fun Sk21 dyk21 => if gs Sk21 a0 = (0, 10) then bdZ (alS Sk21 (1, 4)) (alD Sk21 dyk21) fun Sk25 dyk25 => if gs Sk25 a0 = (0, 10) then if gs Sk25 (Sk21.1 + 1) = (1, 4) then bdZ (sr Sk25 a0 4 (Sk21.1 + 1)) (dyk25) fun Sk28 dyk28 => if gs Sk28 a0 = (0, 10) then bdZ (alS Sk28 (1, 4)) (alD Sk28 dyk28) fun Sk32 dyk32 => if gs Sk32 a0 = (0, 10) then if gs Sk32 (Sk28.1 + 1) = (1, 4) then bdZ (sr Sk32 a0 5 (Sk28.1 + 1)) (dyk32) fun Sk35 dyk35 => if gs Sk35 a0 = (0, 10) then bdZ (alS Sk35 (1, 12)) (alD Sk35 dyk35) fun Sk39 dyk39 => if gs Sk39 a0 = (0, 10) then if gs Sk39 (Sk35.1 + 1) = (1, 12) then bdZ (sr Sk39 a0 6 (Sk35.1 + 1)) (dyk39) fun Sk42 dyk42 => if gs Sk42 a0 = (0, 10) then bdZ (alS Sk42 (1, 12)) (alD Sk42 dyk42) fun Sk46 dyk46 => if gs Sk46 a0 = (0, 10) then if gs Sk46 (Sk42.1 + 1) = (1, 12) then bdZ (sr Sk46 a0 7 (Sk42.1 + 1)) (dyk46) fun Sk49 dyk49 => if gs Sk49 a0 = (0, 10) then bdZ (alS Sk49 (1, 12)) (alD Sk49 dyk49) fun Sk53 dyk53 => if gs Sk53 a0 = (0, 10) then if gs Sk53 (Sk49.1 + 1) = (1, 12) then bdZ (sr Sk53 a0 8 (Sk49.1 + 1)) (dyk53) fun Sk56 dyk56 => if gs Sk56 a0 = (0, 10) then bdZ (alS Sk56 (1, 12)) (alD Sk56 dyk56) fun Sk60 dyk60 => if gs Sk60 a0 = (0, 10) then if gs Sk60 (Sk56.1 + 1) = (1, 12) then bdZ (sr Sk60 a0 9 (Sk56.1 + 1)) (dyk60) fun Sk63 dyk63 => if gs Sk63 a0 = (0, 10) then bdZ (alS Sk63 (1, 1152)) (alD Sk63 dyk63) fun Sk67 dyk67 => if gs Sk67 a0 = (0, 10) then if gs Sk67 (Sk63.1 + 1) = (1, 1152) then bdZ (sr Sk67 a0 10 (Sk63.1 + 1)) (dyk67) fun Sk70 dyk70 => if gs Sk70 a0 = (0, 10) then bdZ (alS Sk70 (1, 1152)) (alD Sk70 dyk70) fun Sk74 dyk74 => if gs Sk74 a0 = (0, 10) then if gs Sk74 (Sk70.1 + 1) = (1, 1152) then bdZ (sr Sk74 a0 11 (Sk70.1 + 1)) (dyk74) fun Sk77 dyk77 => if gs Sk77 a0 = (0, 10) then bdZ (alS Sk77 (1, 4)) (alD Sk77 dyk77) fun Sk81 dyk81 => if gs Sk81 a0 = (0, 10) then if gs Sk81 (Sk77.1 + 1) = (1, 4) then bdZ (sr Sk81 a0 12 (Sk77.1 + 1)) (dyk81) fun Sk84 dyk84 => if gs Sk84 a0 = (0, 10) then bdZ (alS Sk84 (1, 12)) (alD Sk84 dyk84) fun Sk88 dyk88 => if gs Sk88 a0 = (0, 10) then if gs Sk88 (Sk84.1 + 1) = (1, 12) then bdZ (sr Sk88 a0 13 (Sk84.1 + 1)) (dyk88) fun Sk91 dyk91 => if gs Sk91 a0 = (0, 10) then bdZ (alS Sk91 (1, 3456)) (alD Sk91 dyk91) fun Sk95 dyk95 => if gs Sk95 a0 = (0, 10) then if gs Sk95 (Sk91.1 + 1) = (1, 3456) then bdZ (sr Sk95 a0 14 (Sk91.1 + 1)) (dyk95) fun Sk98 dyk98 => if gs Sk98 a0 = (0, 10) then bdZ (alS Sk98 (1, 32)) (alD Sk98 dyk98) fun Sk102 dyk102 => if gs Sk102 a0 = (0, 10) then if gs Sk102 (Sk98.1 + 1) = (1, 32) then bdZ (sr Sk102 a0 15 (Sk98.1 + 1)) (dyk102) fun Sk105 dyk105 => if gs Sk105 a0 = (0, 10) then bdZ (alS Sk105 (1, 192)) (alD Sk105 dyk105) fun Sk109 dyk109 => if gs Sk109 a0 = (0, 10) then if gs Sk109 (Sk105.1 + 1) = (1, 192) then bdZ (sr Sk109 a0 16 (Sk105.1 + 1)) (dyk109) fun Sk112 dyk112 => if gs Sk112 a0 = (0, 10) then bdZ (alS Sk112 (1, 192)) (alD Sk112 dyk112) fun Sk116 dyk116 => if gs Sk116 a0 = (0, 10) then if gs Sk116 (Sk112.1 + 1) = (1, 192) then bdZ (sr Sk116 a0 17 (Sk112.1 + 1)) (dyk116) fun Sk119 dyk119 => if gs Sk119 a0 = (0, 10) then bdZ (alS Sk119 (1, 96)) (alD Sk119 dyk119) fun Sk123 dyk123 => if gs Sk123 a0 = (0, 10) then if gs Sk123 (Sk119.1 + 1) = (1, 96) then bdZ (sr Sk123 a0 33 (Sk119.1 + 1)) (dyk123) fun Sk126 dyk126 => if gs Sk126 a0 = (0, 10) then bdZ (alS Sk126 (1, 104)) (alD Sk126 dyk126) fun Sk130 dyk130 => if gs Sk130 a0 = (0, 10) then if gs Sk130 (Sk126.1 + 1) = (1, 104) then bdZ (sr Sk130 a0 34 (Sk126.1 + 1)) (dyk130) fun Sk133 dyk133 => if gs Sk133 a0 = (0, 10) then bdZ (alS Sk133 (1, 306)) (alD Sk133 dyk133) fun Sk137 dyk137 => if gs Sk137 a0 = (0, 10) then if gs Sk137 (Sk133.1 + 1) = (1, 306) then bdZ (sr Sk137 a0 38 (Sk133.1 + 1)) (dyk137) fun Sk140 dyk140 => if gs Sk140 a0 = (0, 10) then bdZ (alS Sk140 (1, 10080)) (alD Sk140 dyk140) fun Sk144 dyk144 => if gs Sk144 a0 = (0, 10) then if gs Sk144 (Sk140.1 + 1) = (1, 10080) then bdZ (sr Sk144 a0 39 (Sk140.1 + 1)) (dyk144) fun Sk147 dyk147 => if gs Sk147 a0 = (0, 10) then bdZ (alS Sk147 (1, 12)) (alD Sk147 dyk147) fun Sk151 dyk151 => if gs Sk151 a0 = (0, 10) then if gs Sk151 (Sk147.1 + 1) = (1, 12) then bdZ (sr Sk151 a0 40 (Sk147.1 + 1)) (dyk151) fun Sk154 dyk154 => if gs Sk154 a0 = (0, 10) then bdZ (alS Sk154 (1, 12)) (alD Sk154 dyk154) fun Sk158 dyk158 => if gs Sk158 a0 = (0, 10) then if gs Sk158 (Sk154.1 + 1) = (1, 12) then bdZ (sr Sk158 a0 41 (Sk154.1 + 1)) (dyk158) fun Sk161 dyk161 => if gs Sk161 a0 = (0, 10) then bdZ (alS Sk161 (1, 12)) (alD Sk161 dyk161) fun Sk165 dyk165 => if gs Sk165 a0 = (0, 10) then if gs Sk165 (Sk161.1 + 1) = (1, 12) then bdZ (sr Sk165 a0 43 (Sk161.1 + 1)) (dyk165) fun Sk168 dyk168 => if gs Sk168 a0 = (0, 10) then bdZ (alS Sk168 (1, 12)) (alD Sk168 dyk168) fun Sk172 dyk172 => if gs Sk172 a0 = (0, 10) then if gs Sk172 (Sk168.1 + 1) = (1, 12) then bdZ (sr Sk172 a0 44 (Sk168.1 + 1)) (dyk172) fun Sk175 dyk175 => if gs Sk175 a0 = (0, 10) then bdZ (alS Sk175 (1, 12)) (alD Sk175 dyk175) fun Sk179 dyk179 => if gs Sk179 a0 = (0, 10) then if gs Sk179 (Sk175.1 + 1) = (1, 12) then bdZ (sr Sk179 a0 48 (Sk175.1 + 1)) (dyk179) fun Sk182 dyk182 => if gs Sk182 a0 = (0, 10) then bdZ (alS Sk182 (1, 12)) (alD Sk182 dyk182) fun Sk186 dyk186 => if gs Sk186 a0 = (0, 10) then if gs Sk186 (Sk182.1 + 1) = (1, 12) then bdZ (sr Sk186 a0 49 (Sk182.1 + 1)) (dyk186) fun Sk189 dyk189 => if gs Sk189 a0 = (0, 10) then bdZ (alS Sk189 (1, 9)) (alD Sk189 dyk189) fun Sk193 dyk193 => if gs Sk193 a0 = (0, 10) then if gs Sk193 (Sk189.1 + 1) = (1, 9) then bdZ (sr Sk193 a0 50 (Sk189.1 + 1)) (dyk193) fun Sk196 dyk196 => if gs Sk196 a0 = (0, 10) then bdZ (alS Sk196 (1, 9)) (alD Sk196 dyk196) fun Sk200 dyk200 => if gs Sk200 a0 = (0, 10) then if gs Sk200 (Sk196.1 + 1) = (1, 9) then bdZ (sr Sk200 a0 51 (Sk196.1 + 1)) (dyk200) fun Sk203 dyk203 => if gs Sk203 a0 = (0, 10) then bdZ (alS Sk203 (1, 9)) (alD Sk203 dyk203) fun Sk207 dyk207 => if gs Sk207 a0 = (0, 10) then if gs Sk207 (Sk203.1 + 1) = (1, 9) then bdZ (sr Sk207 a0 52 (Sk203.1 + 1)) (dyk207) fun Sk210 dyk210 => if gs Sk210 a0 = (0, 10) then bdZ (alS Sk210 (1, 9)) (alD Sk210 dyk210) fun Sk214 dyk214 => if gs Sk214 a0 = (0, 10) then if gs Sk214 (Sk210.1 + 1) = (1, 9) then bdZ (sr Sk214 a0 54 (Sk210.1 + 1)) (dyk214) fun Sk217 dyk217 => if gs Sk217 a0 = (0, 10) then bdZ (alS Sk217 (1, 201)) (alD Sk217 dyk217) fun Sk221 dyk221 => if gs Sk221 a0 = (0, 10) then if gs Sk221 (Sk217.1 + 1) = (1, 201) then bdZ (sr Sk221 a0 55 (Sk217.1 + 1)) (dyk221) fun Sk224 dyk224 => if gs Sk224 a0 = (0, 10) then bdZ (alS Sk224 (1, 448)) (alD Sk224 dyk224) fun Sk228 dyk228 => if gs Sk228 a0 = (0, 10) then if gs Sk228 (Sk224.1 + 1) = (1, 448) then bdZ (sr Sk228 a0 56 (Sk224.1 + 1)) (dyk228) fun Sk231 dyk231 => if gs Sk231 a0 = (0, 10) then bdZ (alS Sk231 (1, 6)) (alD Sk231 dyk231) fun Sk235 dyk235 => if gs Sk235 a0 = (0, 10) then if gs Sk235 (Sk231.1 + 1) = (1, 6) then bdZ (sr Sk235 a0 57 (Sk231.1 + 1)) (dyk235) fun Sk238 dyk238 => if gs Sk238 a0 = (0, 10) then bdZ (alS Sk238 (4, 18)) (alD Sk238 dyk238) fun Sk242 dyk242 => if gs Sk242 a0 = (0, 10) then if gs Sk242 (Sk238.1 + 1) = (4, 18) then bdZ (sr Sk242 a0 59 (Sk238.1 + 1)) (dyk242) fun Sk245 dyk245 => if gs Sk245 a0 = (0, 10) then bdZ (alS Sk245 (3, 3)) (alD Sk245 dyk245) fun Sk249 dyk249 => if gs Sk249 a0 = (0, 10) then if gs Sk249 (Sk245.1 + 1) = (3, 3) then bdZ (sr Sk249 a0 60 (Sk245.1 + 1)) (dyk249) fun Sk252 dyk252 => if gs Sk252 a0 = (0, 10) then if gs Sk252 (gr Sk252 a0 4) = (1, 4) then if ib (0 : Int32) 4 then bdZ (Sk252) (si dyk252 (gr Sk252 a0 4) (0 : Int32).toNatClampNeg (-1 : Int32)) fun Sk255 dyk255 => some (Sk255, dyk255) else none else none else none else none else none else none else none else none else none else none else none else none else none else none else none else none else none else none else none else none else none else none else none else none else none else none else none else none else none else none else none else none else none else none else none else none else none else none else none else none else none else none else none else none else none else none else none else none else none else none else none else none else none else none else none else none else none else none else none else none else none else none else none else none else none else none else none else none else none else none else none else none else none else none else none else none else none else none else none else none else none else none else none else none else none else none else none else none else none else none else none else none else none else none else none else none else none else none else none else none else none else none else none else none else none else none else none else none else none else none else none
theorem dX10_init_0 : decode cX10_init 0 = .ok (.aload_n 0, 1) := by decide +kernel
theorem dX10_init_1 : decode cX10_init 1 = .ok (.invokespecial 1, 3) := by decide +kernel
theorem dX10_init_4 : decode cX10_init 4 = .ok (.aload_n 0, 1) := by decide +kernel
theorem dX10_init_5 : decode cX10_init 5 = .ok (.sipush 2000, 3) := by decide +kernel
theorem dX10_init_8 : decode cX10_init 8 = .ok (.newarray .byte, 2) := by decide +kernel
theorem dX10_init_10 : decode cX10_init 10 = .ok (.putfield 7, 3) := by decide +kernel
theorem dX10_init_13 : decode cX10_init 13 = .ok (.aload_n 0, 1) := by decide +kernel
theorem dX10_init_14 : decode cX10_init 14 = .ok (.iconst 4, 1) := by decide +kernel
theorem dX10_init_15 : decode cX10_init 15 = .ok (.newarray .int, 2) := by decide +kernel
theorem dX10_init_17 : decode cX10_init 17 = .ok (.putfield 13, 3) := by decide +kernel
theorem dX10_init_20 : decode cX10_init 20 = .ok (.aload_n 0, 1) := by decide +kernel
theorem dX10_init_21 : decode cX10_init 21 = .ok (.iconst 4, 1) := by decide +kernel
theorem dX10_init_22 : decode cX10_init 22 = .ok (.newarray .int, 2) := by decide +kernel
theorem dX10_init_24 : decode cX10_init 24 = .ok (.putfield 17, 3) := by decide +kernel
theorem dX10_init_27 : decode cX10_init 27 = .ok (.aload_n 0, 1) := by decide +kernel
theorem dX10_init_28 : decode cX10_init 28 = .ok (.iconst 4, 1) := by decide +kernel
theorem dX10_init_29 : decode cX10_init 29 = .ok (.newarray .int, 2) := by decide +kernel
theorem dX10_init_31 : decode cX10_init 31 = .ok (.putfield 20, 3) := by decide +kernel
theorem dX10_init_34 : decode cX10_init 34 = .ok (.aload_n 0, 1) := by decide +kernel
theorem dX10_init_35 : decode cX10_init 35 = .ok (.iconst 4, 1) := by decide +kernel
theorem dX10_init_36 : decode cX10_init 36 = .ok (.newarray .int, 2) := by decide +kernel
theorem dX10_init_38 : decode cX10_init 38 = .ok (.putfield 23, 3) := by decide +kernel
theorem dX10_init_41 : decode cX10_init 41 = .ok (.aload_n 0, 1) := by decide +kernel
theorem dX10_init_42 : decode cX10_init 42 = .ok (.bipush 12, 2) := by decide +kernel
theorem dX10_init_44 : decode cX10_init 44 = .ok (.newarray .int, 2) := by decide +kernel
theorem dX10_init_46 : decode cX10_init 46 = .ok (.putfield 26, 3) := by decide +kernel
theorem dX10_init_49 : decode cX10_init 49 = .ok (.aload_n 0, 1) := by decide +kernel
theorem dX10_init_50 : decode cX10_init 50 = .ok (.bipush 12, 2) := by decide +kernel
theorem dX10_init_52 : decode cX10_init 52 = .ok (.newarray .int, 2) := by decide +kernel
theorem dX10_init_54 : decode cX10_init 54 = .ok (.putfield 29, 3) := by decide +kernel
theorem dX10_init_57 : decode cX10_init 57 = .ok (.aload_n 0, 1) := by decide +kernel
theorem dX10_init_58 : decode cX10_init 58 = .ok (.bipush 12, 2) := by decide +kernel
theorem dX10_init_60 : decode cX10_init 60 = .ok (.newarray .int, 2) := by decide +kernel
theorem dX10_init_62 : decode cX10_init 62 = .ok (.putfield 32, 3) := by decide +kernel
theorem dX10_init_65 : decode cX10_init 65 = .ok (.aload_n 0, 1) := by decide +kernel
theorem dX10_init_66 : decode cX10_init 66 = .ok (.bipush 12, 2) := by decide +kernel
theorem dX10_init_68 : decode cX10_init 68 = .ok (.newarray .int, 2) := by decide +kernel
theorem dX10_init_70 : decode cX10_init 70 = .ok (.putfield 35, 3) := by decide +kernel
theorem dX10_init_73 : decode cX10_init 73 = .ok (.aload_n 0, 1) := by decide +kernel
theorem dX10_init_74 : decode cX10_init 74 = .ok (.sipush 1152, 3) := by decide +kernel
theorem dX10_init_77 : decode cX10_init 77 = .ok (.newarray .int, 2) := by decide +kernel
theorem dX10_init_79 : decode cX10_init 79 = .ok (.putfield 38, 3) := by decide +kernel
theorem dX10_init_82 : decode cX10_init 82 = .ok (.aload_n 0, 1) := by decide +kernel
theorem dX10_init_83 : decode cX10_init 83 = .ok (.sipush 1152, 3) := by decide +kernel
theorem dX10_init_86 : decode cX10_init 86 = .ok (.newarray .int, 2) := by decide +kernel
theorem dX10_init_88 : decode cX10_init 88 = .ok (.putfield 41, 3) := by decide +kernel
theorem dX10_init_91 : decode cX10_init 91 = .ok (.aload_n 0, 1) := by decide +kernel
theorem dX10_init_92 : decode cX10_init 92 = .ok (.iconst 4, 1) := by decide +kernel
theorem dX10_init_93 : decode cX10_init 93 = .ok (.newarray .int, 2) := by decide +kernel
theorem dX10_init_95 : decode cX10_init 95 = .ok (.putfield 44, 3) := by decide +kernel
theorem dX10_init_98 : decode cX10_init 98 = .ok (.aload_n 0, 1) := by decide +kernel
theorem dX10_init_99 : decode cX10_init 99 = .ok (.bipush 12, 2) := by decide +kernel
theorem dX10_init_101 : decode cX10_init 101 = .ok (.newarray .int, 2) := by decide +kernel
theorem dX10_init_103 : decode cX10_init 103 = .ok (.putfield 47, 3) := by decide +kernel
theorem dX10_init_106 : decode cX10_init 106 = .ok (.aload_n 0, 1) := by decide +kernel
theorem dX10_init_107 : decode cX10_init 107 = .ok (.sipush 3456, 3) := by decide +kernel
theorem dX10_init_110 : decode cX10_init 110 = .ok (.newarray .int, 2) := by decide +kernel
theorem dX10_init_112 : decode cX10_init 112 = .ok (.putfield 50, 3) := by decide +kernel
theorem dX10_init_115 : decode cX10_init 115 = .ok (.aload_n 0, 1) := by decide +kernel
theorem dX10_init_116 : decode cX10_init 116 = .ok (.bipush 32, 2) := by decide +kernel
theorem dX10_init_118 : decode cX10_init 118 = .ok (.newarray .int, 2) := by decide +kernel
theorem dX10_init_120 : decode cX10_init 120 = .ok (.putfield 53, 3) := by decide +kernel
theorem dX10_init_123 : decode cX10_init 123 = .ok (.aload_n 0, 1) := by decide +kernel
theorem dX10_init_124 : decode cX10_init 124 = .ok (.sipush 192, 3) := by decide +kernel
theorem dX10_init_127 : decode cX10_init 127 = .ok (.newarray .int, 2) := by decide +kernel
theorem dX10_init_129 : decode cX10_init 129 = .ok (.putfield 56, 3) := by decide +kernel
theorem dX10_init_132 : decode cX10_init 132 = .ok (.aload_n 0, 1) := by decide +kernel
theorem dX10_init_133 : decode cX10_init 133 = .ok (.sipush 192, 3) := by decide +kernel
theorem dX10_init_136 : decode cX10_init 136 = .ok (.newarray .int, 2) := by decide +kernel
theorem dX10_init_138 : decode cX10_init 138 = .ok (.putfield 59, 3) := by decide +kernel
theorem dX10_init_141 : decode cX10_init 141 = .ok (.aload_n 0, 1) := by decide +kernel
theorem dX10_init_142 : decode cX10_init 142 = .ok (.bipush 96, 2) := by decide +kernel
theorem dX10_init_144 : decode cX10_init 144 = .ok (.newarray .int, 2) := by decide +kernel
theorem dX10_init_146 : decode cX10_init 146 = .ok (.putfield 62, 3) := by decide +kernel
theorem dX10_init_149 : decode cX10_init 149 = .ok (.aload_n 0, 1) := by decide +kernel
theorem dX10_init_150 : decode cX10_init 150 = .ok (.bipush 104, 2) := by decide +kernel
theorem dX10_init_152 : decode cX10_init 152 = .ok (.newarray .int, 2) := by decide +kernel
theorem dX10_init_154 : decode cX10_init 154 = .ok (.putfield 65, 3) := by decide +kernel
theorem dX10_init_157 : decode cX10_init 157 = .ok (.aload_n 0, 1) := by decide +kernel
theorem dX10_init_158 : decode cX10_init 158 = .ok (.sipush 306, 3) := by decide +kernel
theorem dX10_init_161 : decode cX10_init 161 = .ok (.newarray .int, 2) := by decide +kernel
theorem dX10_init_163 : decode cX10_init 163 = .ok (.putfield 68, 3) := by decide +kernel
theorem dX10_init_166 : decode cX10_init 166 = .ok (.aload_n 0, 1) := by decide +kernel
theorem dX10_init_167 : decode cX10_init 167 = .ok (.sipush 10080, 3) := by decide +kernel
theorem dX10_init_170 : decode cX10_init 170 = .ok (.newarray .int, 2) := by decide +kernel
theorem dX10_init_172 : decode cX10_init 172 = .ok (.putfield 71, 3) := by decide +kernel
theorem dX10_init_175 : decode cX10_init 175 = .ok (.aload_n 0, 1) := by decide +kernel
theorem dX10_init_176 : decode cX10_init 176 = .ok (.bipush 12, 2) := by decide +kernel
theorem dX10_init_178 : decode cX10_init 178 = .ok (.newarray .int, 2) := by decide +kernel
theorem dX10_init_180 : decode cX10_init 180 = .ok (.putfield 74, 3) := by decide +kernel
theorem dX10_init_183 : decode cX10_init 183 = .ok (.aload_n 0, 1) := by decide +kernel
theorem dX10_init_184 : decode cX10_init 184 = .ok (.bipush 12, 2) := by decide +kernel
theorem dX10_init_186 : decode cX10_init 186 = .ok (.newarray .int, 2) := by decide +kernel
theorem dX10_init_188 : decode cX10_init 188 = .ok (.putfield 77, 3) := by decide +kernel
theorem dX10_init_191 : decode cX10_init 191 = .ok (.aload_n 0, 1) := by decide +kernel
theorem dX10_init_192 : decode cX10_init 192 = .ok (.bipush 12, 2) := by decide +kernel
theorem dX10_init_194 : decode cX10_init 194 = .ok (.newarray .int, 2) := by decide +kernel
theorem dX10_init_196 : decode cX10_init 196 = .ok (.putfield 80, 3) := by decide +kernel
theorem dX10_init_199 : decode cX10_init 199 = .ok (.aload_n 0, 1) := by decide +kernel
theorem dX10_init_200 : decode cX10_init 200 = .ok (.bipush 12, 2) := by decide +kernel
theorem dX10_init_202 : decode cX10_init 202 = .ok (.newarray .int, 2) := by decide +kernel
theorem dX10_init_204 : decode cX10_init 204 = .ok (.putfield 83, 3) := by decide +kernel
theorem dX10_init_207 : decode cX10_init 207 = .ok (.aload_n 0, 1) := by decide +kernel
theorem dX10_init_208 : decode cX10_init 208 = .ok (.bipush 12, 2) := by decide +kernel
theorem dX10_init_210 : decode cX10_init 210 = .ok (.newarray .int, 2) := by decide +kernel
theorem dX10_init_212 : decode cX10_init 212 = .ok (.putfield 86, 3) := by decide +kernel
theorem dX10_init_215 : decode cX10_init 215 = .ok (.aload_n 0, 1) := by decide +kernel
theorem dX10_init_216 : decode cX10_init 216 = .ok (.bipush 12, 2) := by decide +kernel
theorem dX10_init_218 : decode cX10_init 218 = .ok (.newarray .int, 2) := by decide +kernel
theorem dX10_init_220 : decode cX10_init 220 = .ok (.putfield 89, 3) := by decide +kernel
theorem dX10_init_223 : decode cX10_init 223 = .ok (.aload_n 0, 1) := by decide +kernel
theorem dX10_init_224 : decode cX10_init 224 = .ok (.bipush 9, 2) := by decide +kernel
theorem dX10_init_226 : decode cX10_init 226 = .ok (.newarray .int, 2) := by decide +kernel
theorem dX10_init_228 : decode cX10_init 228 = .ok (.putfield 92, 3) := by decide +kernel
theorem dX10_init_231 : decode cX10_init 231 = .ok (.aload_n 0, 1) := by decide +kernel
theorem dX10_init_232 : decode cX10_init 232 = .ok (.bipush 9, 2) := by decide +kernel
theorem dX10_init_234 : decode cX10_init 234 = .ok (.newarray .int, 2) := by decide +kernel
theorem dX10_init_236 : decode cX10_init 236 = .ok (.putfield 95, 3) := by decide +kernel
theorem dX10_init_239 : decode cX10_init 239 = .ok (.aload_n 0, 1) := by decide +kernel
theorem dX10_init_240 : decode cX10_init 240 = .ok (.bipush 9, 2) := by decide +kernel
theorem dX10_init_242 : decode cX10_init 242 = .ok (.newarray .int, 2) := by decide +kernel
theorem dX10_init_244 : decode cX10_init 244 = .ok (.putfield 98, 3) := by decide +kernel
theorem dX10_init_247 : decode cX10_init 247 = .ok (.aload_n 0, 1) := by decide +kernel
theorem dX10_init_248 : decode cX10_init 248 = .ok (.bipush 9, 2) := by decide +kernel
theorem dX10_init_250 : decode cX10_init 250 = .ok (.newarray .int, 2) := by decide +kernel
theorem dX10_init_252 : decode cX10_init 252 = .ok (.putfield 101, 3) := by decide +kernel
theorem dX10_init_255 : decode cX10_init 255 = .ok (.aload_n 0, 1) := by decide +kernel
theorem dX10_init_256 : decode cX10_init 256 = .ok (.sipush 201, 3) := by decide +kernel
theorem dX10_init_259 : decode cX10_init 259 = .ok (.newarray .int, 2) := by decide +kernel
theorem dX10_init_261 : decode cX10_init 261 = .ok (.putfield 104, 3) := by decide +kernel
theorem dX10_init_264 : decode cX10_init 264 = .ok (.aload_n 0, 1) := by decide +kernel
theorem dX10_init_265 : decode cX10_init 265 = .ok (.sipush 448, 3) := by decide +kernel
theorem dX10_init_268 : decode cX10_init 268 = .ok (.newarray .int, 2) := by decide +kernel
theorem dX10_init_270 : decode cX10_init 270 = .ok (.putfield 107, 3) := by decide +kernel
theorem dX10_init_273 : decode cX10_init 273 = .ok (.aload_n 0, 1) := by decide +kernel
theorem dX10_init_274 : decode cX10_init 274 = .ok (.bipush 6, 2) := by decide +kernel
theorem dX10_init_276 : decode cX10_init 276 = .ok (.newarray .int, 2) := by decide +kernel
theorem dX10_init_278 : decode cX10_init 278 = .ok (.putfield 110, 3) := by decide +kernel
theorem dX10_init_281 : decode cX10_init 281 = .ok (.aload_n 0, 1) := by decide +kernel
theorem dX10_init_282 : decode cX10_init 282 = .ok (.bipush 18, 2) := by decide +kernel
theorem dX10_init_284 : decode cX10_init 284 = .ok (.newarray .long, 2) := by decide +kernel
theorem dX10_init_286 : decode cX10_init 286 = .ok (.putfield 113, 3) := by decide +kernel
theorem dX10_init_289 : decode cX10_init 289 = .ok (.aload_n 0, 1) := by decide +kernel
theorem dX10_init_290 : decode cX10_init 290 = .ok (.iconst 3, 1) := by decide +kernel
theorem dX10_init_291 : decode cX10_init 291 = .ok (.newarray .boolean, 2) := by decide +kernel
theorem dX10_init_293 : decode cX10_init 293 = .ok (.putfield 117, 3) := by decide +kernel
theorem dX10_init_296 : decode cX10_init 296 = .ok (.aload_n 0, 1) := by decide +kernel
theorem dX10_init_297 : decode cX10_init 297 = .ok (.getfield 20, 3) := by decide +kernel
theorem dX10_init_300 : decode cX10_init 300 = .ok (.iconst 0, 1) := by decide +kernel
theorem dX10_init_301 : decode cX10_init 301 = .ok (.iconst (-1), 1) := by decide +kernel
theorem dX10_init_302 : decode cX10_init 302 = .ok (.iastore, 1) := by decide +kernel
theorem dX10_init_303 : decode cX10_init 303 = .ok (.return_, 1) := by decide +kernel
set_option maxHeartbeats 4000000 in
set_option maxRecDepth 100000 in
theorem M_X10_init (l : Launch) (G : GG) (ad : Nat → Nat) {S : ST} (hc0 : clo S) (a0 : Nat) (dy : DY) {S' : ST} {dy' : DY} (E : F_X10_init a0 S dy = some (S', dy')) : MN l yX10_init cX10_init 1 1 G ad [.ref (ad a0)] S S' dy dy' 36 19626 := by
  unfold F_X10_init at E
  have m0 : S.1 ≤ S.1 := Nat.le_refl _
  have ag0 : ∀ x, x ≤ S.1 → ad x = ad x := fun _ _ => rfl
  refine mn_of RX10 (by decide) rfl rfl (Nat.le_of_ble_eq_true rfl) (fun p e s m args below meth c A C HR HL HI => ?_)
  refine ww_sub (lv' := [(0, .ref (ad a0))]) [0] rfl ?_
  refine ww_aload_n C dX10_init_0 rfl 0 rfl ?_
  refine ww_objinit C dX10_init_1 q1277 q133 qObj (Nat.le_of_ble_eq_true rfl) (Nat.le_of_ble_eq_true rfl) (Nat.le_of_ble_eq_true rfl) ?_
  refine ww_aload_n C dX10_init_4 rfl 0 rfl ?_
  refine ww_sipush (v := (2000)) C dX10_init_5 (by decide) ?_
  obtain ⟨T_1, E⟩ := gd_of E
  refine ww_newa (t := 2) (N := 2000) C dX10_init_8 hc0 rfl (by decide) (by decide) rfl q223 (by decide) (by decide) (Nat.le_of_ble_eq_true rfl) (Nat.le_of_ble_eq_true rfl) (Nat.le_of_ble_eq_true rfl) (fun ad3 gg2 => ?_)
  rw [← gg2 a0 (gs_lt T_1 (by decide)).2]
  refine ww_bdZ E (fun Sk4 dyk4 ek4 E => ?_)
  have mk4 : S.1 ≤ Sk4.1 := by rw [ek4]; exact Nat.le_succ_of_le m0
  have ck4 : clo Sk4 := by rw [ek4]; exact clo_al hc0
  have gk4 : ∀ x, x ≤ S.1 → ad3 x = ad x := fun x hx => (gg2 x (Nat.le_trans hx m0)).trans (ag0 x hx)
  obtain ⟨T_5, E⟩ := gd_of E
  obtain ⟨T_6, E⟩ := gd_of E
  refine ww_putr (ci := 10) (k0 := 1) C dX10_init_10 HI rfl rfl inm10 tyX10_ok nmX10 (by decide) T_5 T_6 (by decide) q1279 rfl rfl (tyX10_ok 1 (by decide)) (fun _ => rfl) (fun _ => rfl) rfl ?_
  refine ww_bdZ E (fun Sk7 dyk7 ek7 E => ?_)
  have mk7 : S.1 ≤ Sk7.1 := by rw [ek7]; exact mk4
  have ck7 : clo Sk7 := by rw [ek7]; exact clo_sr ck4 (gs_lt T_6 (by decide)).2
  refine ww_aload_n C dX10_init_13 rfl 0 rfl ?_
  refine ww_iconst (v := (4)) C dX10_init_14 (by decide) ?_
  obtain ⟨T_8, E⟩ := gd_of E
  refine ww_newa (t := 1) (N := 4) C dX10_init_15 ck7 rfl (by decide) (by decide) rfl q225 (by decide) (by decide) (Nat.le_of_ble_eq_true rfl) (Nat.le_of_ble_eq_true rfl) (Nat.le_of_ble_eq_true rfl) (fun ad10 gg9 => ?_)
  rw [← gg9 a0 (gs_lt T_8 (by decide)).2]
  refine ww_bdZ E (fun Sk11 dyk11 ek11 E => ?_)
  have mk11 : S.1 ≤ Sk11.1 := by rw [ek11]; exact Nat.le_succ_of_le mk7
  have ck11 : clo Sk11 := by rw [ek11]; exact clo_al ck7
  have gk11 : ∀ x, x ≤ S.1 → ad10 x = ad x := fun x hx => (gg9 x (Nat.le_trans hx mk7)).trans (gk4 x hx)
  obtain ⟨T_12, E⟩ := gd_of E
  obtain ⟨T_13, E⟩ := gd_of E
  refine ww_putr (ci := 10) (k0 := 2) C dX10_init_17 HI rfl rfl inm10 tyX10_ok nmX10 (by decide) T_12 T_13 (by decide) q1280 rfl rfl (tyX10_ok 2 (by decide)) (fun _ => rfl) (fun _ => rfl) rfl ?_
  refine ww_bdZ E (fun Sk14 dyk14 ek14 E => ?_)
  have mk14 : S.1 ≤ Sk14.1 := by rw [ek14]; exact mk11
  have ck14 : clo Sk14 := by rw [ek14]; exact clo_sr ck11 (gs_lt T_13 (by decide)).2
  refine ww_aload_n C dX10_init_20 rfl 0 rfl ?_
  refine ww_iconst (v := (4)) C dX10_init_21 (by decide) ?_
  obtain ⟨T_15, E⟩ := gd_of E
  refine ww_newa (t := 1) (N := 4) C dX10_init_22 ck14 rfl (by decide) (by decide) rfl q225 (by decide) (by decide) (Nat.le_of_ble_eq_true rfl) (Nat.le_of_ble_eq_true rfl) (Nat.le_of_ble_eq_true rfl) (fun ad17 gg16 => ?_)
  rw [← gg16 a0 (gs_lt T_15 (by decide)).2]
  refine ww_bdZ E (fun Sk18 dyk18 ek18 E => ?_)
  have mk18 : S.1 ≤ Sk18.1 := by rw [ek18]; exact Nat.le_succ_of_le mk14
  have ck18 : clo Sk18 := by rw [ek18]; exact clo_al ck14
  have gk18 : ∀ x, x ≤ S.1 → ad17 x = ad x := fun x hx => (gg16 x (Nat.le_trans hx mk14)).trans (gk11 x hx)
  obtain ⟨T_19, E⟩ := gd_of E
  obtain ⟨T_20, E⟩ := gd_of E
  refine ww_putr (ci := 10) (k0 := 3) C dX10_init_24 HI rfl rfl inm10 tyX10_ok nmX10 (by decide) T_19 T_20 (by decide) q1281 rfl rfl (tyX10_ok 3 (by decide)) (fun _ => rfl) (fun _ => rfl) rfl ?_
  refine ww_bdZ E (fun Sk21 dyk21 ek21 E => ?_)
  have mk21 : S.1 ≤ Sk21.1 := by rw [ek21]; exact mk18
  have ck21 : clo Sk21 := by rw [ek21]; exact clo_sr ck18 (gs_lt T_20 (by decide)).2
  refine ww_aload_n C dX10_init_27 rfl 0 rfl ?_
  refine ww_iconst (v := (4)) C dX10_init_28 (by decide) ?_
  obtain ⟨T_22, E⟩ := gd_of E
  refine ww_newa (t := 1) (N := 4) C dX10_init_29 ck21 rfl (by decide) (by decide) rfl q225 (by decide) (by decide) (Nat.le_of_ble_eq_true rfl) (Nat.le_of_ble_eq_true rfl) (Nat.le_of_ble_eq_true rfl) (fun ad24 gg23 => ?_)
  rw [← gg23 a0 (gs_lt T_22 (by decide)).2]
  refine ww_bdZ E (fun Sk25 dyk25 ek25 E => ?_)
  have mk25 : S.1 ≤ Sk25.1 := by rw [ek25]; exact Nat.le_succ_of_le mk21
  have ck25 : clo Sk25 := by rw [ek25]; exact clo_al ck21
  have gk25 : ∀ x, x ≤ S.1 → ad24 x = ad x := fun x hx => (gg23 x (Nat.le_trans hx mk21)).trans (gk18 x hx)
  obtain ⟨T_26, E⟩ := gd_of E
  obtain ⟨T_27, E⟩ := gd_of E
  refine ww_putr (ci := 10) (k0 := 4) C dX10_init_31 HI rfl rfl inm10 tyX10_ok nmX10 (by decide) T_26 T_27 (by decide) q1282 rfl rfl (tyX10_ok 4 (by decide)) (fun _ => rfl) (fun _ => rfl) rfl ?_
  refine ww_bdZ E (fun Sk28 dyk28 ek28 E => ?_)
  have mk28 : S.1 ≤ Sk28.1 := by rw [ek28]; exact mk25
  have ck28 : clo Sk28 := by rw [ek28]; exact clo_sr ck25 (gs_lt T_27 (by decide)).2
  refine ww_aload_n C dX10_init_34 rfl 0 rfl ?_
  refine ww_iconst (v := (4)) C dX10_init_35 (by decide) ?_
  obtain ⟨T_29, E⟩ := gd_of E
  refine ww_newa (t := 1) (N := 4) C dX10_init_36 ck28 rfl (by decide) (by decide) rfl q225 (by decide) (by decide) (Nat.le_of_ble_eq_true rfl) (Nat.le_of_ble_eq_true rfl) (Nat.le_of_ble_eq_true rfl) (fun ad31 gg30 => ?_)
  rw [← gg30 a0 (gs_lt T_29 (by decide)).2]
  refine ww_bdZ E (fun Sk32 dyk32 ek32 E => ?_)
  have mk32 : S.1 ≤ Sk32.1 := by rw [ek32]; exact Nat.le_succ_of_le mk28
  have ck32 : clo Sk32 := by rw [ek32]; exact clo_al ck28
  have gk32 : ∀ x, x ≤ S.1 → ad31 x = ad x := fun x hx => (gg30 x (Nat.le_trans hx mk28)).trans (gk25 x hx)
  obtain ⟨T_33, E⟩ := gd_of E
  obtain ⟨T_34, E⟩ := gd_of E
  refine ww_putr (ci := 10) (k0 := 5) C dX10_init_38 HI rfl rfl inm10 tyX10_ok nmX10 (by decide) T_33 T_34 (by decide) q1283 rfl rfl (tyX10_ok 5 (by decide)) (fun _ => rfl) (fun _ => rfl) rfl ?_
  refine ww_bdZ E (fun Sk35 dyk35 ek35 E => ?_)
  have mk35 : S.1 ≤ Sk35.1 := by rw [ek35]; exact mk32
  have ck35 : clo Sk35 := by rw [ek35]; exact clo_sr ck32 (gs_lt T_34 (by decide)).2
  refine ww_aload_n C dX10_init_41 rfl 0 rfl ?_
  refine ww_bipush (v := (12)) C dX10_init_42 (by decide) ?_
  obtain ⟨T_36, E⟩ := gd_of E
  refine ww_newa (t := 1) (N := 12) C dX10_init_44 ck35 rfl (by decide) (by decide) rfl q225 (by decide) (by decide) (Nat.le_of_ble_eq_true rfl) (Nat.le_of_ble_eq_true rfl) (Nat.le_of_ble_eq_true rfl) (fun ad38 gg37 => ?_)
  rw [← gg37 a0 (gs_lt T_36 (by decide)).2]
  refine ww_bdZ E (fun Sk39 dyk39 ek39 E => ?_)
  have mk39 : S.1 ≤ Sk39.1 := by rw [ek39]; exact Nat.le_succ_of_le mk35
  have ck39 : clo Sk39 := by rw [ek39]; exact clo_al ck35
  have gk39 : ∀ x, x ≤ S.1 → ad38 x = ad x := fun x hx => (gg37 x (Nat.le_trans hx mk35)).trans (gk32 x hx)
  obtain ⟨T_40, E⟩ := gd_of E
  obtain ⟨T_41, E⟩ := gd_of E
  refine ww_putr (ci := 10) (k0 := 6) C dX10_init_46 HI rfl rfl inm10 tyX10_ok nmX10 (by decide) T_40 T_41 (by decide) q1284 rfl rfl (tyX10_ok 6 (by decide)) (fun _ => rfl) (fun _ => rfl) rfl ?_
  refine ww_bdZ E (fun Sk42 dyk42 ek42 E => ?_)
  have mk42 : S.1 ≤ Sk42.1 := by rw [ek42]; exact mk39
  have ck42 : clo Sk42 := by rw [ek42]; exact clo_sr ck39 (gs_lt T_41 (by decide)).2
  refine ww_aload_n C dX10_init_49 rfl 0 rfl ?_
  refine ww_bipush (v := (12)) C dX10_init_50 (by decide) ?_
  obtain ⟨T_43, E⟩ := gd_of E
  refine ww_newa (t := 1) (N := 12) C dX10_init_52 ck42 rfl (by decide) (by decide) rfl q225 (by decide) (by decide) (Nat.le_of_ble_eq_true rfl) (Nat.le_of_ble_eq_true rfl) (Nat.le_of_ble_eq_true rfl) (fun ad45 gg44 => ?_)
  rw [← gg44 a0 (gs_lt T_43 (by decide)).2]
  refine ww_bdZ E (fun Sk46 dyk46 ek46 E => ?_)
  have mk46 : S.1 ≤ Sk46.1 := by rw [ek46]; exact Nat.le_succ_of_le mk42
  have ck46 : clo Sk46 := by rw [ek46]; exact clo_al ck42
  have gk46 : ∀ x, x ≤ S.1 → ad45 x = ad x := fun x hx => (gg44 x (Nat.le_trans hx mk42)).trans (gk39 x hx)
  obtain ⟨T_47, E⟩ := gd_of E
  obtain ⟨T_48, E⟩ := gd_of E
  refine ww_putr (ci := 10) (k0 := 7) C dX10_init_54 HI rfl rfl inm10 tyX10_ok nmX10 (by decide) T_47 T_48 (by decide) q1285 rfl rfl (tyX10_ok 7 (by decide)) (fun _ => rfl) (fun _ => rfl) rfl ?_
  refine ww_bdZ E (fun Sk49 dyk49 ek49 E => ?_)
  have mk49 : S.1 ≤ Sk49.1 := by rw [ek49]; exact mk46
  have ck49 : clo Sk49 := by rw [ek49]; exact clo_sr ck46 (gs_lt T_48 (by decide)).2
  refine ww_aload_n C dX10_init_57 rfl 0 rfl ?_
  refine ww_bipush (v := (12)) C dX10_init_58 (by decide) ?_
  obtain ⟨T_50, E⟩ := gd_of E
  refine ww_newa (t := 1) (N := 12) C dX10_init_60 ck49 rfl (by decide) (by decide) rfl q225 (by decide) (by decide) (Nat.le_of_ble_eq_true rfl) (Nat.le_of_ble_eq_true rfl) (Nat.le_of_ble_eq_true rfl) (fun ad52 gg51 => ?_)
  rw [← gg51 a0 (gs_lt T_50 (by decide)).2]
  refine ww_bdZ E (fun Sk53 dyk53 ek53 E => ?_)
  have mk53 : S.1 ≤ Sk53.1 := by rw [ek53]; exact Nat.le_succ_of_le mk49
  have ck53 : clo Sk53 := by rw [ek53]; exact clo_al ck49
  have gk53 : ∀ x, x ≤ S.1 → ad52 x = ad x := fun x hx => (gg51 x (Nat.le_trans hx mk49)).trans (gk46 x hx)
  obtain ⟨T_54, E⟩ := gd_of E
  obtain ⟨T_55, E⟩ := gd_of E
  refine ww_putr (ci := 10) (k0 := 8) C dX10_init_62 HI rfl rfl inm10 tyX10_ok nmX10 (by decide) T_54 T_55 (by decide) q1286 rfl rfl (tyX10_ok 8 (by decide)) (fun _ => rfl) (fun _ => rfl) rfl ?_
  refine ww_bdZ E (fun Sk56 dyk56 ek56 E => ?_)
  have mk56 : S.1 ≤ Sk56.1 := by rw [ek56]; exact mk53
  have ck56 : clo Sk56 := by rw [ek56]; exact clo_sr ck53 (gs_lt T_55 (by decide)).2
  refine ww_aload_n C dX10_init_65 rfl 0 rfl ?_
  refine ww_bipush (v := (12)) C dX10_init_66 (by decide) ?_
  obtain ⟨T_57, E⟩ := gd_of E
  refine ww_newa (t := 1) (N := 12) C dX10_init_68 ck56 rfl (by decide) (by decide) rfl q225 (by decide) (by decide) (Nat.le_of_ble_eq_true rfl) (Nat.le_of_ble_eq_true rfl) (Nat.le_of_ble_eq_true rfl) (fun ad59 gg58 => ?_)
  rw [← gg58 a0 (gs_lt T_57 (by decide)).2]
  refine ww_bdZ E (fun Sk60 dyk60 ek60 E => ?_)
  have mk60 : S.1 ≤ Sk60.1 := by rw [ek60]; exact Nat.le_succ_of_le mk56
  have ck60 : clo Sk60 := by rw [ek60]; exact clo_al ck56
  have gk60 : ∀ x, x ≤ S.1 → ad59 x = ad x := fun x hx => (gg58 x (Nat.le_trans hx mk56)).trans (gk53 x hx)
  obtain ⟨T_61, E⟩ := gd_of E
  obtain ⟨T_62, E⟩ := gd_of E
  refine ww_putr (ci := 10) (k0 := 9) C dX10_init_70 HI rfl rfl inm10 tyX10_ok nmX10 (by decide) T_61 T_62 (by decide) q1287 rfl rfl (tyX10_ok 9 (by decide)) (fun _ => rfl) (fun _ => rfl) rfl ?_
  refine ww_bdZ E (fun Sk63 dyk63 ek63 E => ?_)
  have mk63 : S.1 ≤ Sk63.1 := by rw [ek63]; exact mk60
  have ck63 : clo Sk63 := by rw [ek63]; exact clo_sr ck60 (gs_lt T_62 (by decide)).2
  refine ww_aload_n C dX10_init_73 rfl 0 rfl ?_
  refine ww_sipush (v := (1152)) C dX10_init_74 (by decide) ?_
  obtain ⟨T_64, E⟩ := gd_of E
  refine ww_newa (t := 1) (N := 1152) C dX10_init_77 ck63 rfl (by decide) (by decide) rfl q225 (by decide) (by decide) (Nat.le_of_ble_eq_true rfl) (Nat.le_of_ble_eq_true rfl) (Nat.le_of_ble_eq_true rfl) (fun ad66 gg65 => ?_)
  rw [← gg65 a0 (gs_lt T_64 (by decide)).2]
  refine ww_bdZ E (fun Sk67 dyk67 ek67 E => ?_)
  have mk67 : S.1 ≤ Sk67.1 := by rw [ek67]; exact Nat.le_succ_of_le mk63
  have ck67 : clo Sk67 := by rw [ek67]; exact clo_al ck63
  have gk67 : ∀ x, x ≤ S.1 → ad66 x = ad x := fun x hx => (gg65 x (Nat.le_trans hx mk63)).trans (gk60 x hx)
  obtain ⟨T_68, E⟩ := gd_of E
  obtain ⟨T_69, E⟩ := gd_of E
  refine ww_putr (ci := 10) (k0 := 10) C dX10_init_79 HI rfl rfl inm10 tyX10_ok nmX10 (by decide) T_68 T_69 (by decide) q1288 rfl rfl (tyX10_ok 10 (by decide)) (fun _ => rfl) (fun _ => rfl) rfl ?_
  refine ww_bdZ E (fun Sk70 dyk70 ek70 E => ?_)
  have mk70 : S.1 ≤ Sk70.1 := by rw [ek70]; exact mk67
  have ck70 : clo Sk70 := by rw [ek70]; exact clo_sr ck67 (gs_lt T_69 (by decide)).2
  refine ww_aload_n C dX10_init_82 rfl 0 rfl ?_
  refine ww_sipush (v := (1152)) C dX10_init_83 (by decide) ?_
  obtain ⟨T_71, E⟩ := gd_of E
  refine ww_newa (t := 1) (N := 1152) C dX10_init_86 ck70 rfl (by decide) (by decide) rfl q225 (by decide) (by decide) (Nat.le_of_ble_eq_true rfl) (Nat.le_of_ble_eq_true rfl) (Nat.le_of_ble_eq_true rfl) (fun ad73 gg72 => ?_)
  rw [← gg72 a0 (gs_lt T_71 (by decide)).2]
  refine ww_bdZ E (fun Sk74 dyk74 ek74 E => ?_)
  have mk74 : S.1 ≤ Sk74.1 := by rw [ek74]; exact Nat.le_succ_of_le mk70
  have ck74 : clo Sk74 := by rw [ek74]; exact clo_al ck70
  have gk74 : ∀ x, x ≤ S.1 → ad73 x = ad x := fun x hx => (gg72 x (Nat.le_trans hx mk70)).trans (gk67 x hx)
  obtain ⟨T_75, E⟩ := gd_of E
  obtain ⟨T_76, E⟩ := gd_of E
  refine ww_putr (ci := 10) (k0 := 11) C dX10_init_88 HI rfl rfl inm10 tyX10_ok nmX10 (by decide) T_75 T_76 (by decide) q1289 rfl rfl (tyX10_ok 11 (by decide)) (fun _ => rfl) (fun _ => rfl) rfl ?_
  refine ww_bdZ E (fun Sk77 dyk77 ek77 E => ?_)
  have mk77 : S.1 ≤ Sk77.1 := by rw [ek77]; exact mk74
  have ck77 : clo Sk77 := by rw [ek77]; exact clo_sr ck74 (gs_lt T_76 (by decide)).2
  refine ww_aload_n C dX10_init_91 rfl 0 rfl ?_
  refine ww_iconst (v := (4)) C dX10_init_92 (by decide) ?_
  obtain ⟨T_78, E⟩ := gd_of E
  refine ww_newa (t := 1) (N := 4) C dX10_init_93 ck77 rfl (by decide) (by decide) rfl q225 (by decide) (by decide) (Nat.le_of_ble_eq_true rfl) (Nat.le_of_ble_eq_true rfl) (Nat.le_of_ble_eq_true rfl) (fun ad80 gg79 => ?_)
  rw [← gg79 a0 (gs_lt T_78 (by decide)).2]
  refine ww_bdZ E (fun Sk81 dyk81 ek81 E => ?_)
  have mk81 : S.1 ≤ Sk81.1 := by rw [ek81]; exact Nat.le_succ_of_le mk77
  have ck81 : clo Sk81 := by rw [ek81]; exact clo_al ck77
  have gk81 : ∀ x, x ≤ S.1 → ad80 x = ad x := fun x hx => (gg79 x (Nat.le_trans hx mk77)).trans (gk74 x hx)
  obtain ⟨T_82, E⟩ := gd_of E
  obtain ⟨T_83, E⟩ := gd_of E
  refine ww_putr (ci := 10) (k0 := 12) C dX10_init_95 HI rfl rfl inm10 tyX10_ok nmX10 (by decide) T_82 T_83 (by decide) q1290 rfl rfl (tyX10_ok 12 (by decide)) (fun _ => rfl) (fun _ => rfl) rfl ?_
  refine ww_bdZ E (fun Sk84 dyk84 ek84 E => ?_)
  have mk84 : S.1 ≤ Sk84.1 := by rw [ek84]; exact mk81
  have ck84 : clo Sk84 := by rw [ek84]; exact clo_sr ck81 (gs_lt T_83 (by decide)).2
  refine ww_aload_n C dX10_init_98 rfl 0 rfl ?_
  refine ww_bipush (v := (12)) C dX10_init_99 (by decide) ?_
  obtain ⟨T_85, E⟩ := gd_of E
  refine ww_newa (t := 1) (N := 12) C dX10_init_101 ck84 rfl (by decide) (by decide) rfl q225 (by decide) (by decide) (Nat.le_of_ble_eq_true rfl) (Nat.le_of_ble_eq_true rfl) (Nat.le_of_ble_eq_true rfl) (fun ad87 gg86 => ?_)
  rw [← gg86 a0 (gs_lt T_85 (by decide)).2]
  refine ww_bdZ E (fun Sk88 dyk88 ek88 E => ?_)
  have mk88 : S.1 ≤ Sk88.1 := by rw [ek88]; exact Nat.le_succ_of_le mk84
  have ck88 : clo Sk88 := by rw [ek88]; exact clo_al ck84
  have gk88 : ∀ x, x ≤ S.1 → ad87 x = ad x := fun x hx => (gg86 x (Nat.le_trans hx mk84)).trans (gk81 x hx)
  obtain ⟨T_89, E⟩ := gd_of E
  obtain ⟨T_90, E⟩ := gd_of E
  refine ww_putr (ci := 10) (k0 := 13) C dX10_init_103 HI rfl rfl inm10 tyX10_ok nmX10 (by decide) T_89 T_90 (by decide) q1291 rfl rfl (tyX10_ok 13 (by decide)) (fun _ => rfl) (fun _ => rfl) rfl ?_
  refine ww_bdZ E (fun Sk91 dyk91 ek91 E => ?_)
  have mk91 : S.1 ≤ Sk91.1 := by rw [ek91]; exact mk88
  have ck91 : clo Sk91 := by rw [ek91]; exact clo_sr ck88 (gs_lt T_90 (by decide)).2
  refine ww_aload_n C dX10_init_106 rfl 0 rfl ?_
  refine ww_sipush (v := (3456)) C dX10_init_107 (by decide) ?_
  obtain ⟨T_92, E⟩ := gd_of E
  refine ww_newa (t := 1) (N := 3456) C dX10_init_110 ck91 rfl (by decide) (by decide) rfl q225 (by decide) (by decide) (Nat.le_of_ble_eq_true rfl) (Nat.le_of_ble_eq_true rfl) (Nat.le_of_ble_eq_true rfl) (fun ad94 gg93 => ?_)
  rw [← gg93 a0 (gs_lt T_92 (by decide)).2]
  refine ww_bdZ E (fun Sk95 dyk95 ek95 E => ?_)
  have mk95 : S.1 ≤ Sk95.1 := by rw [ek95]; exact Nat.le_succ_of_le mk91
  have ck95 : clo Sk95 := by rw [ek95]; exact clo_al ck91
  have gk95 : ∀ x, x ≤ S.1 → ad94 x = ad x := fun x hx => (gg93 x (Nat.le_trans hx mk91)).trans (gk88 x hx)
  obtain ⟨T_96, E⟩ := gd_of E
  obtain ⟨T_97, E⟩ := gd_of E
  refine ww_putr (ci := 10) (k0 := 14) C dX10_init_112 HI rfl rfl inm10 tyX10_ok nmX10 (by decide) T_96 T_97 (by decide) q1292 rfl rfl (tyX10_ok 14 (by decide)) (fun _ => rfl) (fun _ => rfl) rfl ?_
  refine ww_bdZ E (fun Sk98 dyk98 ek98 E => ?_)
  have mk98 : S.1 ≤ Sk98.1 := by rw [ek98]; exact mk95
  have ck98 : clo Sk98 := by rw [ek98]; exact clo_sr ck95 (gs_lt T_97 (by decide)).2
  refine ww_aload_n C dX10_init_115 rfl 0 rfl ?_
  refine ww_bipush (v := (32)) C dX10_init_116 (by decide) ?_
  obtain ⟨T_99, E⟩ := gd_of E
  refine ww_newa (t := 1) (N := 32) C dX10_init_118 ck98 rfl (by decide) (by decide) rfl q225 (by decide) (by decide) (Nat.le_of_ble_eq_true rfl) (Nat.le_of_ble_eq_true rfl) (Nat.le_of_ble_eq_true rfl) (fun ad101 gg100 => ?_)
  rw [← gg100 a0 (gs_lt T_99 (by decide)).2]
  refine ww_bdZ E (fun Sk102 dyk102 ek102 E => ?_)
  have mk102 : S.1 ≤ Sk102.1 := by rw [ek102]; exact Nat.le_succ_of_le mk98
  have ck102 : clo Sk102 := by rw [ek102]; exact clo_al ck98
  have gk102 : ∀ x, x ≤ S.1 → ad101 x = ad x := fun x hx => (gg100 x (Nat.le_trans hx mk98)).trans (gk95 x hx)
  obtain ⟨T_103, E⟩ := gd_of E
  obtain ⟨T_104, E⟩ := gd_of E
  refine ww_putr (ci := 10) (k0 := 15) C dX10_init_120 HI rfl rfl inm10 tyX10_ok nmX10 (by decide) T_103 T_104 (by decide) q1293 rfl rfl (tyX10_ok 15 (by decide)) (fun _ => rfl) (fun _ => rfl) rfl ?_
  refine ww_bdZ E (fun Sk105 dyk105 ek105 E => ?_)
  have mk105 : S.1 ≤ Sk105.1 := by rw [ek105]; exact mk102
  have ck105 : clo Sk105 := by rw [ek105]; exact clo_sr ck102 (gs_lt T_104 (by decide)).2
  refine ww_aload_n C dX10_init_123 rfl 0 rfl ?_
  refine ww_sipush (v := (192)) C dX10_init_124 (by decide) ?_
  obtain ⟨T_106, E⟩ := gd_of E
  refine ww_newa (t := 1) (N := 192) C dX10_init_127 ck105 rfl (by decide) (by decide) rfl q225 (by decide) (by decide) (Nat.le_of_ble_eq_true rfl) (Nat.le_of_ble_eq_true rfl) (Nat.le_of_ble_eq_true rfl) (fun ad108 gg107 => ?_)
  rw [← gg107 a0 (gs_lt T_106 (by decide)).2]
  refine ww_bdZ E (fun Sk109 dyk109 ek109 E => ?_)
  have mk109 : S.1 ≤ Sk109.1 := by rw [ek109]; exact Nat.le_succ_of_le mk105
  have ck109 : clo Sk109 := by rw [ek109]; exact clo_al ck105
  have gk109 : ∀ x, x ≤ S.1 → ad108 x = ad x := fun x hx => (gg107 x (Nat.le_trans hx mk105)).trans (gk102 x hx)
  obtain ⟨T_110, E⟩ := gd_of E
  obtain ⟨T_111, E⟩ := gd_of E
  refine ww_putr (ci := 10) (k0 := 16) C dX10_init_129 HI rfl rfl inm10 tyX10_ok nmX10 (by decide) T_110 T_111 (by decide) q1294 rfl rfl (tyX10_ok 16 (by decide)) (fun _ => rfl) (fun _ => rfl) rfl ?_
  refine ww_bdZ E (fun Sk112 dyk112 ek112 E => ?_)
  have mk112 : S.1 ≤ Sk112.1 := by rw [ek112]; exact mk109
  have ck112 : clo Sk112 := by rw [ek112]; exact clo_sr ck109 (gs_lt T_111 (by decide)).2
  refine ww_aload_n C dX10_init_132 rfl 0 rfl ?_
  refine ww_sipush (v := (192)) C dX10_init_133 (by decide) ?_
  obtain ⟨T_113, E⟩ := gd_of E
  refine ww_newa (t := 1) (N := 192) C dX10_init_136 ck112 rfl (by decide) (by decide) rfl q225 (by decide) (by decide) (Nat.le_of_ble_eq_true rfl) (Nat.le_of_ble_eq_true rfl) (Nat.le_of_ble_eq_true rfl) (fun ad115 gg114 => ?_)
  rw [← gg114 a0 (gs_lt T_113 (by decide)).2]
  refine ww_bdZ E (fun Sk116 dyk116 ek116 E => ?_)
  have mk116 : S.1 ≤ Sk116.1 := by rw [ek116]; exact Nat.le_succ_of_le mk112
  have ck116 : clo Sk116 := by rw [ek116]; exact clo_al ck112
  have gk116 : ∀ x, x ≤ S.1 → ad115 x = ad x := fun x hx => (gg114 x (Nat.le_trans hx mk112)).trans (gk109 x hx)
  obtain ⟨T_117, E⟩ := gd_of E
  obtain ⟨T_118, E⟩ := gd_of E
  refine ww_putr (ci := 10) (k0 := 17) C dX10_init_138 HI rfl rfl inm10 tyX10_ok nmX10 (by decide) T_117 T_118 (by decide) q1295 rfl rfl (tyX10_ok 17 (by decide)) (fun _ => rfl) (fun _ => rfl) rfl ?_
  refine ww_bdZ E (fun Sk119 dyk119 ek119 E => ?_)
  have mk119 : S.1 ≤ Sk119.1 := by rw [ek119]; exact mk116
  have ck119 : clo Sk119 := by rw [ek119]; exact clo_sr ck116 (gs_lt T_118 (by decide)).2
  refine ww_aload_n C dX10_init_141 rfl 0 rfl ?_
  refine ww_bipush (v := (96)) C dX10_init_142 (by decide) ?_
  obtain ⟨T_120, E⟩ := gd_of E
  refine ww_newa (t := 1) (N := 96) C dX10_init_144 ck119 rfl (by decide) (by decide) rfl q225 (by decide) (by decide) (Nat.le_of_ble_eq_true rfl) (Nat.le_of_ble_eq_true rfl) (Nat.le_of_ble_eq_true rfl) (fun ad122 gg121 => ?_)
  rw [← gg121 a0 (gs_lt T_120 (by decide)).2]
  refine ww_bdZ E (fun Sk123 dyk123 ek123 E => ?_)
  have mk123 : S.1 ≤ Sk123.1 := by rw [ek123]; exact Nat.le_succ_of_le mk119
  have ck123 : clo Sk123 := by rw [ek123]; exact clo_al ck119
  have gk123 : ∀ x, x ≤ S.1 → ad122 x = ad x := fun x hx => (gg121 x (Nat.le_trans hx mk119)).trans (gk116 x hx)
  obtain ⟨T_124, E⟩ := gd_of E
  obtain ⟨T_125, E⟩ := gd_of E
  refine ww_putr (ci := 10) (k0 := 33) C dX10_init_146 HI rfl rfl inm10 tyX10_ok nmX10 (by decide) T_124 T_125 (by decide) q1311 rfl rfl (tyX10_ok 33 (by decide)) (fun _ => rfl) (fun _ => rfl) rfl ?_
  refine ww_bdZ E (fun Sk126 dyk126 ek126 E => ?_)
  have mk126 : S.1 ≤ Sk126.1 := by rw [ek126]; exact mk123
  have ck126 : clo Sk126 := by rw [ek126]; exact clo_sr ck123 (gs_lt T_125 (by decide)).2
  refine ww_aload_n C dX10_init_149 rfl 0 rfl ?_
  refine ww_bipush (v := (104)) C dX10_init_150 (by decide) ?_
  obtain ⟨T_127, E⟩ := gd_of E
  refine ww_newa (t := 1) (N := 104) C dX10_init_152 ck126 rfl (by decide) (by decide) rfl q225 (by decide) (by decide) (Nat.le_of_ble_eq_true rfl) (Nat.le_of_ble_eq_true rfl) (Nat.le_of_ble_eq_true rfl) (fun ad129 gg128 => ?_)
  rw [← gg128 a0 (gs_lt T_127 (by decide)).2]
  refine ww_bdZ E (fun Sk130 dyk130 ek130 E => ?_)
  have mk130 : S.1 ≤ Sk130.1 := by rw [ek130]; exact Nat.le_succ_of_le mk126
  have ck130 : clo Sk130 := by rw [ek130]; exact clo_al ck126
  have gk130 : ∀ x, x ≤ S.1 → ad129 x = ad x := fun x hx => (gg128 x (Nat.le_trans hx mk126)).trans (gk123 x hx)
  obtain ⟨T_131, E⟩ := gd_of E
  obtain ⟨T_132, E⟩ := gd_of E
  refine ww_putr (ci := 10) (k0 := 34) C dX10_init_154 HI rfl rfl inm10 tyX10_ok nmX10 (by decide) T_131 T_132 (by decide) q1312 rfl rfl (tyX10_ok 34 (by decide)) (fun _ => rfl) (fun _ => rfl) rfl ?_
  refine ww_bdZ E (fun Sk133 dyk133 ek133 E => ?_)
  have mk133 : S.1 ≤ Sk133.1 := by rw [ek133]; exact mk130
  have ck133 : clo Sk133 := by rw [ek133]; exact clo_sr ck130 (gs_lt T_132 (by decide)).2
  refine ww_aload_n C dX10_init_157 rfl 0 rfl ?_
  refine ww_sipush (v := (306)) C dX10_init_158 (by decide) ?_
  obtain ⟨T_134, E⟩ := gd_of E
  refine ww_newa (t := 1) (N := 306) C dX10_init_161 ck133 rfl (by decide) (by decide) rfl q225 (by decide) (by decide) (Nat.le_of_ble_eq_true rfl) (Nat.le_of_ble_eq_true rfl) (Nat.le_of_ble_eq_true rfl) (fun ad136 gg135 => ?_)
  rw [← gg135 a0 (gs_lt T_134 (by decide)).2]
  refine ww_bdZ E (fun Sk137 dyk137 ek137 E => ?_)
  have mk137 : S.1 ≤ Sk137.1 := by rw [ek137]; exact Nat.le_succ_of_le mk133
  have ck137 : clo Sk137 := by rw [ek137]; exact clo_al ck133
  have gk137 : ∀ x, x ≤ S.1 → ad136 x = ad x := fun x hx => (gg135 x (Nat.le_trans hx mk133)).trans (gk130 x hx)
  obtain ⟨T_138, E⟩ := gd_of E
  obtain ⟨T_139, E⟩ := gd_of E
  refine ww_putr (ci := 10) (k0 := 38) C dX10_init_163 HI rfl rfl inm10 tyX10_ok nmX10 (by decide) T_138 T_139 (by decide) q1316 rfl rfl (tyX10_ok 38 (by decide)) (fun _ => rfl) (fun _ => rfl) rfl ?_
  refine ww_bdZ E (fun Sk140 dyk140 ek140 E => ?_)
  have mk140 : S.1 ≤ Sk140.1 := by rw [ek140]; exact mk137
  have ck140 : clo Sk140 := by rw [ek140]; exact clo_sr ck137 (gs_lt T_139 (by decide)).2
  refine ww_aload_n C dX10_init_166 rfl 0 rfl ?_
  refine ww_sipush (v := (10080)) C dX10_init_167 (by decide) ?_
  obtain ⟨T_141, E⟩ := gd_of E
  refine ww_newa (t := 1) (N := 10080) C dX10_init_170 ck140 rfl (by decide) (by decide) rfl q225 (by decide) (by decide) (Nat.le_of_ble_eq_true rfl) (Nat.le_of_ble_eq_true rfl) (Nat.le_of_ble_eq_true rfl) (fun ad143 gg142 => ?_)
  rw [← gg142 a0 (gs_lt T_141 (by decide)).2]
  refine ww_bdZ E (fun Sk144 dyk144 ek144 E => ?_)
  have mk144 : S.1 ≤ Sk144.1 := by rw [ek144]; exact Nat.le_succ_of_le mk140
  have ck144 : clo Sk144 := by rw [ek144]; exact clo_al ck140
  have gk144 : ∀ x, x ≤ S.1 → ad143 x = ad x := fun x hx => (gg142 x (Nat.le_trans hx mk140)).trans (gk137 x hx)
  obtain ⟨T_145, E⟩ := gd_of E
  obtain ⟨T_146, E⟩ := gd_of E
  refine ww_putr (ci := 10) (k0 := 39) C dX10_init_172 HI rfl rfl inm10 tyX10_ok nmX10 (by decide) T_145 T_146 (by decide) q1317 rfl rfl (tyX10_ok 39 (by decide)) (fun _ => rfl) (fun _ => rfl) rfl ?_
  refine ww_bdZ E (fun Sk147 dyk147 ek147 E => ?_)
  have mk147 : S.1 ≤ Sk147.1 := by rw [ek147]; exact mk144
  have ck147 : clo Sk147 := by rw [ek147]; exact clo_sr ck144 (gs_lt T_146 (by decide)).2
  refine ww_aload_n C dX10_init_175 rfl 0 rfl ?_
  refine ww_bipush (v := (12)) C dX10_init_176 (by decide) ?_
  obtain ⟨T_148, E⟩ := gd_of E
  refine ww_newa (t := 1) (N := 12) C dX10_init_178 ck147 rfl (by decide) (by decide) rfl q225 (by decide) (by decide) (Nat.le_of_ble_eq_true rfl) (Nat.le_of_ble_eq_true rfl) (Nat.le_of_ble_eq_true rfl) (fun ad150 gg149 => ?_)
  rw [← gg149 a0 (gs_lt T_148 (by decide)).2]
  refine ww_bdZ E (fun Sk151 dyk151 ek151 E => ?_)
  have mk151 : S.1 ≤ Sk151.1 := by rw [ek151]; exact Nat.le_succ_of_le mk147
  have ck151 : clo Sk151 := by rw [ek151]; exact clo_al ck147
  have gk151 : ∀ x, x ≤ S.1 → ad150 x = ad x := fun x hx => (gg149 x (Nat.le_trans hx mk147)).trans (gk144 x hx)
  obtain ⟨T_152, E⟩ := gd_of E
  obtain ⟨T_153, E⟩ := gd_of E
  refine ww_putr (ci := 10) (k0 := 40) C dX10_init_180 HI rfl rfl inm10 tyX10_ok nmX10 (by decide) T_152 T_153 (by decide) q1318 rfl rfl (tyX10_ok 40 (by decide)) (fun _ => rfl) (fun _ => rfl) rfl ?_
  refine ww_bdZ E (fun Sk154 dyk154 ek154 E => ?_)
  have mk154 : S.1 ≤ Sk154.1 := by rw [ek154]; exact mk151
  have ck154 : clo Sk154 := by rw [ek154]; exact clo_sr ck151 (gs_lt T_153 (by decide)).2
  refine ww_aload_n C dX10_init_183 rfl 0 rfl ?_
  refine ww_bipush (v := (12)) C dX10_init_184 (by decide) ?_
  obtain ⟨T_155, E⟩ := gd_of E
  refine ww_newa (t := 1) (N := 12) C dX10_init_186 ck154 rfl (by decide) (by decide) rfl q225 (by decide) (by decide) (Nat.le_of_ble_eq_true rfl) (Nat.le_of_ble_eq_true rfl) (Nat.le_of_ble_eq_true rfl) (fun ad157 gg156 => ?_)
  rw [← gg156 a0 (gs_lt T_155 (by decide)).2]
  refine ww_bdZ E (fun Sk158 dyk158 ek158 E => ?_)
  have mk158 : S.1 ≤ Sk158.1 := by rw [ek158]; exact Nat.le_succ_of_le mk154
  have ck158 : clo Sk158 := by rw [ek158]; exact clo_al ck154
  have gk158 : ∀ x, x ≤ S.1 → ad157 x = ad x := fun x hx => (gg156 x (Nat.le_trans hx mk154)).trans (gk151 x hx)
  obtain ⟨T_159, E⟩ := gd_of E
  obtain ⟨T_160, E⟩ := gd_of E
  refine ww_putr (ci := 10) (k0 := 41) C dX10_init_188 HI rfl rfl inm10 tyX10_ok nmX10 (by decide) T_159 T_160 (by decide) q1319 rfl rfl (tyX10_ok 41 (by decide)) (fun _ => rfl) (fun _ => rfl) rfl ?_
  refine ww_bdZ E (fun Sk161 dyk161 ek161 E => ?_)
  have mk161 : S.1 ≤ Sk161.1 := by rw [ek161]; exact mk158
  have ck161 : clo Sk161 := by rw [ek161]; exact clo_sr ck158 (gs_lt T_160 (by decide)).2
  refine ww_aload_n C dX10_init_191 rfl 0 rfl ?_
  refine ww_bipush (v := (12)) C dX10_init_192 (by decide) ?_
  obtain ⟨T_162, E⟩ := gd_of E
  refine ww_newa (t := 1) (N := 12) C dX10_init_194 ck161 rfl (by decide) (by decide) rfl q225 (by decide) (by decide) (Nat.le_of_ble_eq_true rfl) (Nat.le_of_ble_eq_true rfl) (Nat.le_of_ble_eq_true rfl) (fun ad164 gg163 => ?_)
  rw [← gg163 a0 (gs_lt T_162 (by decide)).2]
  refine ww_bdZ E (fun Sk165 dyk165 ek165 E => ?_)
  have mk165 : S.1 ≤ Sk165.1 := by rw [ek165]; exact Nat.le_succ_of_le mk161
  have ck165 : clo Sk165 := by rw [ek165]; exact clo_al ck161
  have gk165 : ∀ x, x ≤ S.1 → ad164 x = ad x := fun x hx => (gg163 x (Nat.le_trans hx mk161)).trans (gk158 x hx)
  obtain ⟨T_166, E⟩ := gd_of E
  obtain ⟨T_167, E⟩ := gd_of E
  refine ww_putr (ci := 10) (k0 := 43) C dX10_init_196 HI rfl rfl inm10 tyX10_ok nmX10 (by decide) T_166 T_167 (by decide) q1321 rfl rfl (tyX10_ok 43 (by decide)) (fun _ => rfl) (fun _ => rfl) rfl ?_
  refine ww_bdZ E (fun Sk168 dyk168 ek168 E => ?_)
  have mk168 : S.1 ≤ Sk168.1 := by rw [ek168]; exact mk165
  have ck168 : clo Sk168 := by rw [ek168]; exact clo_sr ck165 (gs_lt T_167 (by decide)).2
  refine ww_aload_n C dX10_init_199 rfl 0 rfl ?_
  refine ww_bipush (v := (12)) C dX10_init_200 (by decide) ?_
  obtain ⟨T_169, E⟩ := gd_of E
  refine ww_newa (t := 1) (N := 12) C dX10_init_202 ck168 rfl (by decide) (by decide) rfl q225 (by decide) (by decide) (Nat.le_of_ble_eq_true rfl) (Nat.le_of_ble_eq_true rfl) (Nat.le_of_ble_eq_true rfl) (fun ad171 gg170 => ?_)
  rw [← gg170 a0 (gs_lt T_169 (by decide)).2]
  refine ww_bdZ E (fun Sk172 dyk172 ek172 E => ?_)
  have mk172 : S.1 ≤ Sk172.1 := by rw [ek172]; exact Nat.le_succ_of_le mk168
  have ck172 : clo Sk172 := by rw [ek172]; exact clo_al ck168
  have gk172 : ∀ x, x ≤ S.1 → ad171 x = ad x := fun x hx => (gg170 x (Nat.le_trans hx mk168)).trans (gk165 x hx)
  obtain ⟨T_173, E⟩ := gd_of E
  obtain ⟨T_174, E⟩ := gd_of E
  refine ww_putr (ci := 10) (k0 := 44) C dX10_init_204 HI rfl rfl inm10 tyX10_ok nmX10 (by decide) T_173 T_174 (by decide) q1322 rfl rfl (tyX10_ok 44 (by decide)) (fun _ => rfl) (fun _ => rfl) rfl ?_
  refine ww_bdZ E (fun Sk175 dyk175 ek175 E => ?_)
  have mk175 : S.1 ≤ Sk175.1 := by rw [ek175]; exact mk172
  have ck175 : clo Sk175 := by rw [ek175]; exact clo_sr ck172 (gs_lt T_174 (by decide)).2
  refine ww_aload_n C dX10_init_207 rfl 0 rfl ?_
  refine ww_bipush (v := (12)) C dX10_init_208 (by decide) ?_
  obtain ⟨T_176, E⟩ := gd_of E
  refine ww_newa (t := 1) (N := 12) C dX10_init_210 ck175 rfl (by decide) (by decide) rfl q225 (by decide) (by decide) (Nat.le_of_ble_eq_true rfl) (Nat.le_of_ble_eq_true rfl) (Nat.le_of_ble_eq_true rfl) (fun ad178 gg177 => ?_)
  rw [← gg177 a0 (gs_lt T_176 (by decide)).2]
  refine ww_bdZ E (fun Sk179 dyk179 ek179 E => ?_)
  have mk179 : S.1 ≤ Sk179.1 := by rw [ek179]; exact Nat.le_succ_of_le mk175
  have ck179 : clo Sk179 := by rw [ek179]; exact clo_al ck175
  have gk179 : ∀ x, x ≤ S.1 → ad178 x = ad x := fun x hx => (gg177 x (Nat.le_trans hx mk175)).trans (gk172 x hx)
  obtain ⟨T_180, E⟩ := gd_of E
  obtain ⟨T_181, E⟩ := gd_of E
  refine ww_putr (ci := 10) (k0 := 48) C dX10_init_212 HI rfl rfl inm10 tyX10_ok nmX10 (by decide) T_180 T_181 (by decide) q1326 rfl rfl (tyX10_ok 48 (by decide)) (fun _ => rfl) (fun _ => rfl) rfl ?_
  refine ww_bdZ E (fun Sk182 dyk182 ek182 E => ?_)
  have mk182 : S.1 ≤ Sk182.1 := by rw [ek182]; exact mk179
  have ck182 : clo Sk182 := by rw [ek182]; exact clo_sr ck179 (gs_lt T_181 (by decide)).2
  refine ww_aload_n C dX10_init_215 rfl 0 rfl ?_
  refine ww_bipush (v := (12)) C dX10_init_216 (by decide) ?_
  obtain ⟨T_183, E⟩ := gd_of E
  refine ww_newa (t := 1) (N := 12) C dX10_init_218 ck182 rfl (by decide) (by decide) rfl q225 (by decide) (by decide) (Nat.le_of_ble_eq_true rfl) (Nat.le_of_ble_eq_true rfl) (Nat.le_of_ble_eq_true rfl) (fun ad185 gg184 => ?_)
  rw [← gg184 a0 (gs_lt T_183 (by decide)).2]
  refine ww_bdZ E (fun Sk186 dyk186 ek186 E => ?_)
  have mk186 : S.1 ≤ Sk186.1 := by rw [ek186]; exact Nat.le_succ_of_le mk182
  have ck186 : clo Sk186 := by rw [ek186]; exact clo_al ck182
  have gk186 : ∀ x, x ≤ S.1 → ad185 x = ad x := fun x hx => (gg184 x (Nat.le_trans hx mk182)).trans (gk179 x hx)
  obtain ⟨T_187, E⟩ := gd_of E
  obtain ⟨T_188, E⟩ := gd_of E
  refine ww_putr (ci := 10) (k0 := 49) C dX10_init_220 HI rfl rfl inm10 tyX10_ok nmX10 (by decide) T_187 T_188 (by decide) q1327 rfl rfl (tyX10_ok 49 (by decide)) (fun _ => rfl) (fun _ => rfl) rfl ?_
  refine ww_bdZ E (fun Sk189 dyk189 ek189 E => ?_)
  have mk189 : S.1 ≤ Sk189.1 := by rw [ek189]; exact mk186
  have ck189 : clo Sk189 := by rw [ek189]; exact clo_sr ck186 (gs_lt T_188 (by decide)).2
  refine ww_aload_n C dX10_init_223 rfl 0 rfl ?_
  refine ww_bipush (v := (9)) C dX10_init_224 (by decide) ?_
  obtain ⟨T_190, E⟩ := gd_of E
  refine ww_newa (t := 1) (N := 9) C dX10_init_226 ck189 rfl (by decide) (by decide) rfl q225 (by decide) (by decide) (Nat.le_of_ble_eq_true rfl) (Nat.le_of_ble_eq_true rfl) (Nat.le_of_ble_eq_true rfl) (fun ad192 gg191 => ?_)
  rw [← gg191 a0 (gs_lt T_190 (by decide)).2]
  refine ww_bdZ E (fun Sk193 dyk193 ek193 E => ?_)
  have mk193 : S.1 ≤ Sk193.1 := by rw [ek193]; exact Nat.le_succ_of_le mk189
  have ck193 : clo Sk193 := by rw [ek193]; exact clo_al ck189
  have gk193 : ∀ x, x ≤ S.1 → ad192 x = ad x := fun x hx => (gg191 x (Nat.le_trans hx mk189)).trans (gk186 x hx)
  obtain ⟨T_194, E⟩ := gd_of E
  obtain ⟨T_195, E⟩ := gd_of E
  refine ww_putr (ci := 10) (k0 := 50) C dX10_init_228 HI rfl rfl inm10 tyX10_ok nmX10 (by decide) T_194 T_195 (by decide) q1328 rfl rfl (tyX10_ok 50 (by decide)) (fun _ => rfl) (fun _ => rfl) rfl ?_
  refine ww_bdZ E (fun Sk196 dyk196 ek196 E => ?_)
  have mk196 : S.1 ≤ Sk196.1 := by rw [ek196]; exact mk193
  have ck196 : clo Sk196 := by rw [ek196]; exact clo_sr ck193 (gs_lt T_195 (by decide)).2
  refine ww_aload_n C dX10_init_231 rfl 0 rfl ?_
  refine ww_bipush (v := (9)) C dX10_init_232 (by decide) ?_
  obtain ⟨T_197, E⟩ := gd_of E
  refine ww_newa (t := 1) (N := 9) C dX10_init_234 ck196 rfl (by decide) (by decide) rfl q225 (by decide) (by decide) (Nat.le_of_ble_eq_true rfl) (Nat.le_of_ble_eq_true rfl) (Nat.le_of_ble_eq_true rfl) (fun ad199 gg198 => ?_)
  rw [← gg198 a0 (gs_lt T_197 (by decide)).2]
  refine ww_bdZ E (fun Sk200 dyk200 ek200 E => ?_)
  have mk200 : S.1 ≤ Sk200.1 := by rw [ek200]; exact Nat.le_succ_of_le mk196
  have ck200 : clo Sk200 := by rw [ek200]; exact clo_al ck196
  have gk200 : ∀ x, x ≤ S.1 → ad199 x = ad x := fun x hx => (gg198 x (Nat.le_trans hx mk196)).trans (gk193 x hx)
  obtain ⟨T_201, E⟩ := gd_of E
  obtain ⟨T_202, E⟩ := gd_of E
  refine ww_putr (ci := 10) (k0 := 51) C dX10_init_236 HI rfl rfl inm10 tyX10_ok nmX10 (by decide) T_201 T_202 (by decide) q1329 rfl rfl (tyX10_ok 51 (by decide)) (fun _ => rfl) (fun _ => rfl) rfl ?_
  refine ww_bdZ E (fun Sk203 dyk203 ek203 E => ?_)
  have mk203 : S.1 ≤ Sk203.1 := by rw [ek203]; exact mk200
  have ck203 : clo Sk203 := by rw [ek203]; exact clo_sr ck200 (gs_lt T_202 (by decide)).2
  refine ww_aload_n C dX10_init_239 rfl 0 rfl ?_
  refine ww_bipush (v := (9)) C dX10_init_240 (by decide) ?_
  obtain ⟨T_204, E⟩ := gd_of E
  refine ww_newa (t := 1) (N := 9) C dX10_init_242 ck203 rfl (by decide) (by decide) rfl q225 (by decide) (by decide) (Nat.le_of_ble_eq_true rfl) (Nat.le_of_ble_eq_true rfl) (Nat.le_of_ble_eq_true rfl) (fun ad206 gg205 => ?_)
  rw [← gg205 a0 (gs_lt T_204 (by decide)).2]
  refine ww_bdZ E (fun Sk207 dyk207 ek207 E => ?_)
  have mk207 : S.1 ≤ Sk207.1 := by rw [ek207]; exact Nat.le_succ_of_le mk203
  have ck207 : clo Sk207 := by rw [ek207]; exact clo_al ck203
  have gk207 : ∀ x, x ≤ S.1 → ad206 x = ad x := fun x hx => (gg205 x (Nat.le_trans hx mk203)).trans (gk200 x hx)
  obtain ⟨T_208, E⟩ := gd_of E
  obtain ⟨T_209, E⟩ := gd_of E
  refine ww_putr (ci := 10) (k0 := 52) C dX10_init_244 HI rfl rfl inm10 tyX10_ok nmX10 (by decide) T_208 T_209 (by decide) q1330 rfl rfl (tyX10_ok 52 (by decide)) (fun _ => rfl) (fun _ => rfl) rfl ?_
  refine ww_bdZ E (fun Sk210 dyk210 ek210 E => ?_)
  have mk210 : S.1 ≤ Sk210.1 := by rw [ek210]; exact mk207
  have ck210 : clo Sk210 := by rw [ek210]; exact clo_sr ck207 (gs_lt T_209 (by decide)).2
  refine ww_aload_n C dX10_init_247 rfl 0 rfl ?_
  refine ww_bipush (v := (9)) C dX10_init_248 (by decide) ?_
  obtain ⟨T_211, E⟩ := gd_of E
  refine ww_newa (t := 1) (N := 9) C dX10_init_250 ck210 rfl (by decide) (by decide) rfl q225 (by decide) (by decide) (Nat.le_of_ble_eq_true rfl) (Nat.le_of_ble_eq_true rfl) (Nat.le_of_ble_eq_true rfl) (fun ad213 gg212 => ?_)
  rw [← gg212 a0 (gs_lt T_211 (by decide)).2]
  refine ww_bdZ E (fun Sk214 dyk214 ek214 E => ?_)
  have mk214 : S.1 ≤ Sk214.1 := by rw [ek214]; exact Nat.le_succ_of_le mk210
  have ck214 : clo Sk214 := by rw [ek214]; exact clo_al ck210
  have gk214 : ∀ x, x ≤ S.1 → ad213 x = ad x := fun x hx => (gg212 x (Nat.le_trans hx mk210)).trans (gk207 x hx)
  obtain ⟨T_215, E⟩ := gd_of E
  obtain ⟨T_216, E⟩ := gd_of E
  refine ww_putr (ci := 10) (k0 := 54) C dX10_init_252 HI rfl rfl inm10 tyX10_ok nmX10 (by decide) T_215 T_216 (by decide) q1332 rfl rfl (tyX10_ok 54 (by decide)) (fun _ => rfl) (fun _ => rfl) rfl ?_
  refine ww_bdZ E (fun Sk217 dyk217 ek217 E => ?_)
  have mk217 : S.1 ≤ Sk217.1 := by rw [ek217]; exact mk214
  have ck217 : clo Sk217 := by rw [ek217]; exact clo_sr ck214 (gs_lt T_216 (by decide)).2
  refine ww_aload_n C dX10_init_255 rfl 0 rfl ?_
  refine ww_sipush (v := (201)) C dX10_init_256 (by decide) ?_
  obtain ⟨T_218, E⟩ := gd_of E
  refine ww_newa (t := 1) (N := 201) C dX10_init_259 ck217 rfl (by decide) (by decide) rfl q225 (by decide) (by decide) (Nat.le_of_ble_eq_true rfl) (Nat.le_of_ble_eq_true rfl) (Nat.le_of_ble_eq_true rfl) (fun ad220 gg219 => ?_)
  rw [← gg219 a0 (gs_lt T_218 (by decide)).2]
  refine ww_bdZ E (fun Sk221 dyk221 ek221 E => ?_)
  have mk221 : S.1 ≤ Sk221.1 := by rw [ek221]; exact Nat.le_succ_of_le mk217
  have ck221 : clo Sk221 := by rw [ek221]; exact clo_al ck217
  have gk221 : ∀ x, x ≤ S.1 → ad220 x = ad x := fun x hx => (gg219 x (Nat.le_trans hx mk217)).trans (gk214 x hx)
  obtain ⟨T_222, E⟩ := gd_of E
  obtain ⟨T_223, E⟩ := gd_of E
  refine ww_putr (ci := 10) (k0 := 55) C dX10_init_261 HI rfl rfl inm10 tyX10_ok nmX10 (by decide) T_222 T_223 (by decide) q1333 rfl rfl (tyX10_ok 55 (by decide)) (fun _ => rfl) (fun _ => rfl) rfl ?_
  refine ww_bdZ E (fun Sk224 dyk224 ek224 E => ?_)
  have mk224 : S.1 ≤ Sk224.1 := by rw [ek224]; exact mk221
  have ck224 : clo Sk224 := by rw [ek224]; exact clo_sr ck221 (gs_lt T_223 (by decide)).2
  refine ww_aload_n C dX10_init_264 rfl 0 rfl ?_
  refine ww_sipush (v := (448)) C dX10_init_265 (by decide) ?_
  obtain ⟨T_225, E⟩ := gd_of E
  refine ww_newa (t := 1) (N := 448) C dX10_init_268 ck224 rfl (by decide) (by decide) rfl q225 (by decide) (by decide) (Nat.le_of_ble_eq_true rfl) (Nat.le_of_ble_eq_true rfl) (Nat.le_of_ble_eq_true rfl) (fun ad227 gg226 => ?_)
  rw [← gg226 a0 (gs_lt T_225 (by decide)).2]
  refine ww_bdZ E (fun Sk228 dyk228 ek228 E => ?_)
  have mk228 : S.1 ≤ Sk228.1 := by rw [ek228]; exact Nat.le_succ_of_le mk224
  have ck228 : clo Sk228 := by rw [ek228]; exact clo_al ck224
  have gk228 : ∀ x, x ≤ S.1 → ad227 x = ad x := fun x hx => (gg226 x (Nat.le_trans hx mk224)).trans (gk221 x hx)
  obtain ⟨T_229, E⟩ := gd_of E
  obtain ⟨T_230, E⟩ := gd_of E
  refine ww_putr (ci := 10) (k0 := 56) C dX10_init_270 HI rfl rfl inm10 tyX10_ok nmX10 (by decide) T_229 T_230 (by decide) q1334 rfl rfl (tyX10_ok 56 (by decide)) (fun _ => rfl) (fun _ => rfl) rfl ?_
  refine ww_bdZ E (fun Sk231 dyk231 ek231 E => ?_)
  have mk231 : S.1 ≤ Sk231.1 := by rw [ek231]; exact mk228
  have ck231 : clo Sk231 := by rw [ek231]; exact clo_sr ck228 (gs_lt T_230 (by decide)).2
  refine ww_aload_n C dX10_init_273 rfl 0 rfl ?_
  refine ww_bipush (v := (6)) C dX10_init_274 (by decide) ?_
  obtain ⟨T_232, E⟩ := gd_of E
  refine ww_newa (t := 1) (N := 6) C dX10_init_276 ck231 rfl (by decide) (by decide) rfl q225 (by decide) (by decide) (Nat.le_of_ble_eq_true rfl) (Nat.le_of_ble_eq_true rfl) (Nat.le_of_ble_eq_true rfl) (fun ad234 gg233 => ?_)
  rw [← gg233 a0 (gs_lt T_232 (by decide)).2]
  refine ww_bdZ E (fun Sk235 dyk235 ek235 E => ?_)
  have mk235 : S.1 ≤ Sk235.1 := by rw [ek235]; exact Nat.le_succ_of_le mk231
  have ck235 : clo Sk235 := by rw [ek235]; exact clo_al ck231
  have gk235 : ∀ x, x ≤ S.1 → ad234 x = ad x := fun x hx => (gg233 x (Nat.le_trans hx mk231)).trans (gk228 x hx)
  obtain ⟨T_236, E⟩ := gd_of E
  obtain ⟨T_237, E⟩ := gd_of E
  refine ww_putr (ci := 10) (k0 := 57) C dX10_init_278 HI rfl rfl inm10 tyX10_ok nmX10 (by decide) T_236 T_237 (by decide) q1335 rfl rfl (tyX10_ok 57 (by decide)) (fun _ => rfl) (fun _ => rfl) rfl ?_
  refine ww_bdZ E (fun Sk238 dyk238 ek238 E => ?_)
  have mk238 : S.1 ≤ Sk238.1 := by rw [ek238]; exact mk235
  have ck238 : clo Sk238 := by rw [ek238]; exact clo_sr ck235 (gs_lt T_237 (by decide)).2
  refine ww_aload_n C dX10_init_281 rfl 0 rfl ?_
  refine ww_bipush (v := (18)) C dX10_init_282 (by decide) ?_
  obtain ⟨T_239, E⟩ := gd_of E
  refine ww_newa (t := 4) (N := 18) C dX10_init_284 ck238 rfl (by decide) (by decide) rfl q497 (by decide) (by decide) (Nat.le_of_ble_eq_true rfl) (Nat.le_of_ble_eq_true rfl) (Nat.le_of_ble_eq_true rfl) (fun ad241 gg240 => ?_)
  rw [← gg240 a0 (gs_lt T_239 (by decide)).2]
  refine ww_bdZ E (fun Sk242 dyk242 ek242 E => ?_)
  have mk242 : S.1 ≤ Sk242.1 := by rw [ek242]; exact Nat.le_succ_of_le mk238
  have ck242 : clo Sk242 := by rw [ek242]; exact clo_al ck238
  have gk242 : ∀ x, x ≤ S.1 → ad241 x = ad x := fun x hx => (gg240 x (Nat.le_trans hx mk238)).trans (gk235 x hx)
  obtain ⟨T_243, E⟩ := gd_of E
  obtain ⟨T_244, E⟩ := gd_of E
  refine ww_putr (ci := 10) (k0 := 59) C dX10_init_286 HI rfl rfl inm10 tyX10_ok nmX10 (by decide) T_243 T_244 (by decide) q1337 rfl rfl (tyX10_ok 59 (by decide)) (fun _ => rfl) (fun _ => rfl) rfl ?_
  refine ww_bdZ E (fun Sk245 dyk245 ek245 E => ?_)
  have mk245 : S.1 ≤ Sk245.1 := by rw [ek245]; exact mk242
  have ck245 : clo Sk245 := by rw [ek245]; exact clo_sr ck242 (gs_lt T_244 (by decide)).2
  refine ww_aload_n C dX10_init_289 rfl 0 rfl ?_
  refine ww_iconst (v := (3)) C dX10_init_290 (by decide) ?_
  obtain ⟨T_246, E⟩ := gd_of E
  refine ww_newa (t := 3) (N := 3) C dX10_init_291 ck245 rfl (by decide) (by decide) rfl q224 (by decide) (by decide) (Nat.le_of_ble_eq_true rfl) (Nat.le_of_ble_eq_true rfl) (Nat.le_of_ble_eq_true rfl) (fun ad248 gg247 => ?_)
  rw [← gg247 a0 (gs_lt T_246 (by decide)).2]
  refine ww_bdZ E (fun Sk249 dyk249 ek249 E => ?_)
  have mk249 : S.1 ≤ Sk249.1 := by rw [ek249]; exact Nat.le_succ_of_le mk245
  have ck249 : clo Sk249 := by rw [ek249]; exact clo_al ck245
  have gk249 : ∀ x, x ≤ S.1 → ad248 x = ad x := fun x hx => (gg247 x (Nat.le_trans hx mk245)).trans (gk242 x hx)
  obtain ⟨T_250, E⟩ := gd_of E
  obtain ⟨T_251, E⟩ := gd_of E
  refine ww_putr (ci := 10) (k0 := 60) C dX10_init_293 HI rfl rfl inm10 tyX10_ok nmX10 (by decide) T_250 T_251 (by decide) q1338 rfl rfl (tyX10_ok 60 (by decide)) (fun _ => rfl) (fun _ => rfl) rfl ?_
  refine ww_bdZ E (fun Sk252 dyk252 ek252 E => ?_)
  have mk252 : S.1 ≤ Sk252.1 := by rw [ek252]; exact mk249
  have ck252 : clo Sk252 := by rw [ek252]; exact clo_sr ck249 (gs_lt T_251 (by decide)).2
  refine ww_aload_n C dX10_init_296 rfl 0 rfl ?_
  obtain ⟨T_253, E⟩ := gd_of E
  obtain ⟨T_254, E⟩ := gd_of E
  refine ww_getr (ci := 10) (k0 := 4) C dX10_init_297 rfl rfl inm10 (by decide) T_253 q1282 rfl T_254 (by decide) ?_
  refine ww_iconst (v := (0)) C dX10_init_300 (by decide) ?_
  refine ww_iconst (v := (-1)) C dX10_init_301 (by decide) ?_
  refine ww_iast C dX10_init_302 T_254 E (fun _ E => ?_)
  refine ww_bdZ E (fun Sk255 dyk255 ek255 E => ?_)
  have mk255 : S.1 ≤ Sk255.1 := by rw [ek255]; exact mk252
  have ck255 : clo Sk255 := by rw [ek255]; exact ck252
  exact ww_vretN C HR HL dX10_init_303 ck255 mk255 gk249 E
