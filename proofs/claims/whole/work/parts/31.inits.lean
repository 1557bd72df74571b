/-! constructors, walked -/
theorem q132 : Cond.methodLink RX9 1 ⟨"java/lang/Object", "<init>", "()V"⟩ ∈ mw := mw_c tn_1_1 9 rfl rfl
theorem q133 : Cond.instanceMethod ⟨"java/lang/Object", "<init>", "()V"⟩ ∈ mw := mw_c tn_1_1 10 rfl rfl
theorem q135 : Cond.classLink RX9 7 RX7 ∈ mw := mw_c tn_1_1 12 rfl rfl
theorem q136 : Cond.instantiable RX7 13 ∈ mw := mw_c tn_1_1 13 rfl rfl
theorem q137 : Cond.methodLink RX9 9 yX7_init ∈ mw := mw_c tn_1_1 14 rfl rfl
theorem q138 : Cond.instanceMethod yX7_init ∈ mw := mw_c tn_1_1 15 rfl rfl
theorem q139 : Cond.code yX7_init cX7_init 2 (Option.none : Option Jvm.ClassFile.FieldType) ∈ mw := mw_c tn_1_2 0 rfl rfl
theorem q140 : Cond.methodLink RX7 3 ⟨"java/lang/Object", "<init>", "()V"⟩ ∈ mw := mw_c tn_1_2 1 rfl rfl
theorem q141 : Cond.classLink RX7 19 RX4 ∈ mw := mw_c tn_1_2 2 rfl rfl
theorem q143 : Cond.classLink RX7 25 RX2 ∈ mw := mw_c tn_1_2 4 rfl rfl
theorem q145 : Cond.instantiable RX4 13 ∈ mw := mw_c tn_1_2 6 rfl rfl
theorem q147 : Cond.instanceMethod yX4_init ∈ mw := mw_c tn_1_2 8 rfl rfl
theorem q148 : Cond.code yX4_init cX4_init 1 (Option.none : Option Jvm.ClassFile.FieldType) ∈ mw := mw_c tn_1_2 9 rfl rfl
theorem q149 : Cond.methodLink RX4 3 ⟨"java/lang/Object", "<init>", "()V"⟩ ∈ mw := mw_c tn_1_2 10 rfl rfl
theorem q223 : Cond.arrayClass .byte ∈ mw := mw_c tn_1_7 4 rfl rfl
theorem q224 : Cond.arrayClass .boolean ∈ mw := mw_c tn_1_7 5 rfl rfl
theorem q225 : Cond.arrayClass .int ∈ mw := mw_c tn_1_7 6 rfl rfl
theorem q226 : Cond.instantiable RX2 7 ∈ mw := mw_c tn_1_7 7 rfl rfl
theorem q228 : Cond.instanceMethod yX2_init ∈ mw := mw_c tn_1_7 9 rfl rfl
theorem q229 : Cond.code yX2_init cX2_init 1 (Option.none : Option Jvm.ClassFile.FieldType) ∈ mw := mw_c tn_1_7 10 rfl rfl
theorem q230 : Cond.methodLink RX2 3 ⟨"java/lang/Object", "<init>", "()V"⟩ ∈ mw := mw_c tn_1_7 11 rfl rfl
theorem q255 : Cond.classLink RX7 41 RX8 ∈ mw := mw_c tn_1_9 4 rfl rfl
theorem q256 : Cond.instantiable RX8 20 ∈ mw := mw_c tn_1_9 5 rfl rfl
theorem q257 : Cond.methodLink RX7 43 yX8_init ∈ mw := mw_c tn_1_9 6 rfl rfl
theorem q258 : Cond.instanceMethod yX8_init ∈ mw := mw_c tn_1_9 7 rfl rfl
theorem q259 : Cond.code yX8_init cX8_init 3 (Option.none : Option Jvm.ClassFile.FieldType) ∈ mw := mw_c tn_1_9 8 rfl rfl
theorem q260 : Cond.methodLink RX8 3 ⟨"java/lang/Object", "<init>", "()V"⟩ ∈ mw := mw_c tn_1_9 9 rfl rfl
theorem q341 : Cond.classLink RX7 50 RX1 ∈ mw := mw_c tn_1_14 10 rfl rfl
theorem q342 : Cond.instantiable RX1 5 ∈ mw := mw_c tn_1_14 11 rfl rfl
theorem q344 : Cond.instanceMethod yX1_init ∈ mw := mw_c tn_1_14 13 rfl rfl
theorem q345 : Cond.code yX1_init cX1_init 1 (Option.none : Option Jvm.ClassFile.FieldType) ∈ mw := mw_c tn_1_14 14 rfl rfl
theorem q346 : Cond.methodLink RX1 3 ⟨"java/lang/Object", "<init>", "()V"⟩ ∈ mw := mw_c tn_1_14 15 rfl rfl
theorem q368 : Cond.fieldLink RX9 26 "PavementWalk$Told" "tape" "[B" ∈ mw := mw_c tn_2_1 5 rfl rfl
theorem q419 : Cond.classLink RX9 24 RX6 ∈ mw := mw_c tn_2_4 8 rfl rfl
theorem q420 : Cond.instantiable RX6 8 ∈ mw := mw_c tn_2_4 9 rfl rfl
theorem q421 : Cond.methodLink RX9 30 yX6_init ∈ mw := mw_c tn_2_4 10 rfl rfl
theorem q422 : Cond.instanceMethod yX6_init ∈ mw := mw_c tn_2_4 11 rfl rfl
theorem q423 : Cond.code yX6_init cX6_init 2 (Option.none : Option Jvm.ClassFile.FieldType) ∈ mw := mw_c tn_2_4 12 rfl rfl
theorem q424 : Cond.methodLink RX6 3 ⟨"java/lang/Object", "<init>", "()V"⟩ ∈ mw := mw_c tn_2_4 13 rfl rfl
theorem q454 : Cond.classLink RX9 37 RX4 ∈ mw := mw_c tn_2_6 11 rfl rfl
theorem q456 : Cond.classLink RX9 44 RX2 ∈ mw := mw_c tn_2_6 13 rfl rfl
theorem q458 : Cond.classLink RX9 51 RX8 ∈ mw := mw_c tn_2_6 15 rfl rfl
theorem q459 : Cond.methodLink RX9 53 yX8_init ∈ mw := mw_c tn_2_7 0 rfl rfl
theorem q460 : Cond.classLink RX9 60 RX0 ∈ mw := mw_c tn_2_7 1 rfl rfl
theorem q461 : Cond.instantiable RX0 9 ∈ mw := mw_c tn_2_7 2 rfl rfl
theorem q462 : Cond.methodLink RX9 62 yX0_init ∈ mw := mw_c tn_2_7 3 rfl rfl
theorem q463 : Cond.instanceMethod yX0_init ∈ mw := mw_c tn_2_7 4 rfl rfl
theorem q464 : Cond.code yX0_init cX0_init 4 (Option.none : Option Jvm.ClassFile.FieldType) ∈ mw := mw_c tn_2_7 5 rfl rfl
theorem q465 : Cond.methodLink RX0 5 ⟨"java/lang/Object", "<init>", "()V"⟩ ∈ mw := mw_c tn_2_7 6 rfl rfl
theorem q466 : Cond.classLink RX0 11 RX8 ∈ mw := mw_c tn_2_7 7 rfl rfl
theorem q468 : Cond.methodLink RX0 39 yX8_init ∈ mw := mw_c tn_2_7 9 rfl rfl
theorem q497 : Cond.arrayClass .long ∈ mw := mw_c tn_2_9 6 rfl rfl
theorem q498 : Cond.classLink RX9 67 RX5 ∈ mw := mw_c tn_2_9 7 rfl rfl
theorem q499 : Cond.instantiable RX5 2 ∈ mw := mw_c tn_2_9 8 rfl rfl
theorem q500 : Cond.methodLink RX9 69 yX5_init ∈ mw := mw_c tn_2_9 9 rfl rfl
theorem q501 : Cond.instanceMethod yX5_init ∈ mw := mw_c tn_2_9 10 rfl rfl
theorem q502 : Cond.code yX5_init cX5_init 3 (Option.none : Option Jvm.ClassFile.FieldType) ∈ mw := mw_c tn_2_9 11 rfl rfl
theorem q503 : Cond.methodLink RX5 3 ⟨"java/lang/Object", "<init>", "()V"⟩ ∈ mw := mw_c tn_2_9 12 rfl rfl
theorem q511 : Cond.classLink RX9 76 RX3 ∈ mw := mw_c tn_2_10 4 rfl rfl
theorem q512 : Cond.instantiable RX3 2 ∈ mw := mw_c tn_2_10 5 rfl rfl
theorem q513 : Cond.methodLink RX9 78 yX3_init ∈ mw := mw_c tn_2_10 6 rfl rfl
theorem q514 : Cond.instanceMethod yX3_init ∈ mw := mw_c tn_2_10 7 rfl rfl
theorem q515 : Cond.code yX3_init cX3_init 3 (Option.none : Option Jvm.ClassFile.FieldType) ∈ mw := mw_c tn_2_10 8 rfl rfl
theorem q516 : Cond.methodLink RX3 3 ⟨"java/lang/Object", "<init>", "()V"⟩ ∈ mw := mw_c tn_2_10 9 rfl rfl
theorem q1277 : Cond.methodLink RX10 1 ⟨"java/lang/Object", "<init>", "()V"⟩ ∈ mw := mw_c tn_5_13 2 rfl rfl
theorem qObj : Cond.code Lib.objectInit ⟨#[0xb1]⟩ 1 none ∈ mw := mw_c tn_1_1 11 rfl rfl
set_option maxRecDepth 100000 in
noncomputable def F_X4_init (a0 : Nat) (S : ST) (dy : DY) : Option (ST × DY) := if gs S a0 = (0, 4) then bdZ (alS S (3, 96)) (alD S dy) fun Sk4 dyk4 => if gs Sk4 a0 = (0, 4) then if gs Sk4 (S.1 + 1) = (3, 96) then bdZ (sr Sk4 a0 4 (S.1 + 1)) (dyk4) fun Sk7 dyk7 => if gs Sk7 a0 = (0, 4) then bdZ (alS Sk7 (1, 12)) (alD Sk7 dyk7) fun Sk11 dyk11 => if gs Sk11 a0 = (0, 4) then if gs Sk11 (Sk7.1 + 1) = (1, 12) then bdZ (sr Sk11 a0 5 (Sk7.1 + 1)) (dyk11) fun Sk14 dyk14 => if gs Sk14 a0 = (0, 4) then bdZ (alS Sk14 (1, 12)) (alD Sk14 dyk14) fun Sk18 dyk18 => if gs Sk18 a0 = (0, 4) then if gs Sk18 (Sk14.1 + 1) = (1, 12) then bdZ (sr Sk18 a0 6 (Sk14.1 + 1)) (dyk18) fun Sk21 dyk21 => if gs Sk21 a0 = (0, 4) then bdZ (alS Sk21 (1, 12)) (alD Sk21 dyk21) fun Sk25 dyk25 => if gs Sk25 a0 = (0, 4) then if gs Sk25 (Sk21.1 + 1) = (1, 12) then bdZ (sr Sk25 a0 7 (Sk21.1 + 1)) (dyk25) fun Sk28 dyk28 => if gs Sk28 a0 = (0, 4) then bdZ (alS Sk28 (1, 12)) (alD Sk28 dyk28) fun Sk32 dyk32 => if gs Sk32 a0 = (0, 4) then if gs Sk32 (Sk28.1 + 1) = (1, 12) then bdZ (sr Sk32 a0 8 (Sk28.1 + 1)) (dyk32) fun Sk35 dyk35 => if gs Sk35 a0 = (0, 4) then bdZ (alS Sk35 (1, 12)) (alD Sk35 dyk35) fun Sk39 dyk39 => if gs Sk39 a0 = (0, 4) then if gs Sk39 (Sk35.1 + 1) = (1, 12) then bdZ (sr Sk39 a0 9 (Sk35.1 + 1)) (dyk39) fun Sk42 dyk42 => if gs Sk42 a0 = (0, 4) then bdZ (alS Sk42 (1, 12)) (alD Sk42 dyk42) fun Sk46 dyk46 => if gs Sk46 a0 = (0, 4) then if gs Sk46 (Sk42.1 + 1) = (1, 12) then bdZ (sr Sk46 a0 10 (Sk42.1 + 1)) (dyk46) fun Sk49 dyk49 => if gs Sk49 a0 = (0, 4) then bdZ (alS Sk49 (1, 12)) (alD Sk49 dyk49) fun Sk53 dyk53 => if gs Sk53 a0 = (0, 4) then if gs Sk53 (Sk49.1 + 1) = (1, 12) then bdZ (sr Sk53 a0 11 (Sk49.1 + 1)) (dyk53) fun Sk56 dyk56 => if gs Sk56 a0 = (0, 4) then bdZ (alS Sk56 (1, 12)) (alD Sk56 dyk56) fun Sk60 dyk60 => if gs Sk60 a0 = (0, 4) then if gs Sk60 (Sk56.1 + 1) = (1, 12) then bdZ (sr Sk60 a0 12 (Sk56.1 + 1)) (dyk60) fun Sk63 dyk63 => some (Sk63, dyk63) else none else none else none else none else none else none else none else none else none else none else none else none else none else none else none else none else none else none else none else none else none else none else none else none else none else none else none
theorem dX4_init_0 : decode cX4_init 0 = .ok (.aload_n 0, 1) := by decide +kernel
theorem dX4_init_1 : decode cX4_init 1 = .ok (.invokespecial 3, 3) := by decide +kernel
theorem dX4_init_4 : decode cX4_init 4 = .ok (.aload_n 0, 1) := by decide +kernel
theorem dX4_init_5 : decode cX4_init 5 = .ok (.bipush 96, 2) := by decide +kernel
theorem dX4_init_7 : decode cX4_init 7 = .ok (.newarray .boolean, 2) := by decide +kernel
theorem dX4_init_9 : decode cX4_init 9 = .ok (.putfield 9, 3) := by decide +kernel
theorem dX4_init_12 : decode cX4_init 12 = .ok (.aload_n 0, 1) := by decide +kernel
theorem dX4_init_13 : decode cX4_init 13 = .ok (.bipush 12, 2) := by decide +kernel
theorem dX4_init_15 : decode cX4_init 15 = .ok (.newarray .int, 2) := by decide +kernel
theorem dX4_init_17 : decode cX4_init 17 = .ok (.putfield 15, 3) := by decide +kernel
theorem dX4_init_20 : decode cX4_init 20 = .ok (.aload_n 0, 1) := by decide +kernel
theorem dX4_init_21 : decode cX4_init 21 = .ok (.bipush 12, 2) := by decide +kernel
theorem dX4_init_23 : decode cX4_init 23 = .ok (.newarray .int, 2) := by decide +kernel
theorem dX4_init_25 : decode cX4_init 25 = .ok (.putfield 19, 3) := by decide +kernel
theorem dX4_init_28 : decode cX4_init 28 = .ok (.aload_n 0, 1) := by decide +kernel
theorem dX4_init_29 : decode cX4_init 29 = .ok (.bipush 12, 2) := by decide +kernel
theorem dX4_init_31 : decode cX4_init 31 = .ok (.newarray .int, 2) := by decide +kernel
theorem dX4_init_33 : decode cX4_init 33 = .ok (.putfield 22, 3) := by decide +kernel
theorem dX4_init_36 : decode cX4_init 36 = .ok (.aload_n 0, 1) := by decide +kernel
theorem dX4_init_37 : decode cX4_init 37 = .ok (.bipush 12, 2) := by decide +kernel
theorem dX4_init_39 : decode cX4_init 39 = .ok (.newarray .int, 2) := by decide +kernel
theorem dX4_init_41 : decode cX4_init 41 = .ok (.putfield 25, 3) := by decide +kernel
theorem dX4_init_44 : decode cX4_init 44 = .ok (.aload_n 0, 1) := by decide +kernel
theorem dX4_init_45 : decode cX4_init 45 = .ok (.bipush 12, 2) := by decide +kernel
theorem dX4_init_47 : decode cX4_init 47 = .ok (.newarray .int, 2) := by decide +kernel
theorem dX4_init_49 : decode cX4_init 49 = .ok (.putfield 28, 3) := by decide +kernel
theorem dX4_init_52 : decode cX4_init 52 = .ok (.aload_n 0, 1) := by decide +kernel
theorem dX4_init_53 : decode cX4_init 53 = .ok (.bipush 12, 2) := by decide +kernel
theorem dX4_init_55 : decode cX4_init 55 = .ok (.newarray .int, 2) := by decide +kernel
theorem dX4_init_57 : decode cX4_init 57 = .ok (.putfield 31, 3) := by decide +kernel
theorem dX4_init_60 : decode cX4_init 60 = .ok (.aload_n 0, 1) := by decide +kernel
theorem dX4_init_61 : decode cX4_init 61 = .ok (.bipush 12, 2) := by decide +kernel
theorem dX4_init_63 : decode cX4_init 63 = .ok (.newarray .int, 2) := by decide +kernel
theorem dX4_init_65 : decode cX4_init 65 = .ok (.putfield 34, 3) := by decide +kernel
theorem dX4_init_68 : decode cX4_init 68 = .ok (.aload_n 0, 1) := by decide +kernel
theorem dX4_init_69 : decode cX4_init 69 = .ok (.bipush 12, 2) := by decide +kernel
theorem dX4_init_71 : decode cX4_init 71 = .ok (.newarray .int, 2) := by decide +kernel
theorem dX4_init_73 : decode cX4_init 73 = .ok (.putfield 37, 3) := by decide +kernel
theorem dX4_init_76 : decode cX4_init 76 = .ok (.return_, 1) := by decide +kernel
set_option maxHeartbeats 4000000 in
set_option maxRecDepth 100000 in
theorem M_X4_init (l : Launch) (G : GG) (ad : Nat → Nat) {S : ST} (hc0 : clo S) (a0 : Nat) (dy : DY) {S' : ST} {dy' : DY} (E : F_X4_init a0 S dy = some (S', dy')) : MN l yX4_init cX4_init 1 1 G ad [.ref (ad a0)] S S' dy dy' 9 192 := by
  unfold F_X4_init at E
  have m0 : S.1 ≤ S.1 := Nat.le_refl _
  have ag0 : ∀ x, x ≤ S.1 → ad x = ad x := fun _ _ => rfl
  refine mn_of RX4 (by decide) rfl rfl (Nat.le_of_ble_eq_true rfl) (fun p e s m args below meth c A C HR HL HI => ?_)
  refine ww_sub (lv' := [(0, .ref (ad a0))]) [0] rfl ?_
  refine ww_aload_n C dX4_init_0 rfl 0 rfl ?_
  refine ww_objinit C dX4_init_1 q149 q133 qObj (Nat.le_of_ble_eq_true rfl) (Nat.le_of_ble_eq_true rfl) (Nat.le_of_ble_eq_true rfl) ?_
  refine ww_aload_n C dX4_init_4 rfl 0 rfl ?_
  refine ww_bipush (v := (96)) C dX4_init_5 (by decide) ?_
  obtain ⟨T_1, E⟩ := gd_of E
  refine ww_newa (t := 3) (N := 96) C dX4_init_7 hc0 rfl (by decide) (by decide) rfl q224 (by decide) (by decide) (Nat.le_of_ble_eq_true rfl) (Nat.le_of_ble_eq_true rfl) (Nat.le_of_ble_eq_true rfl) (fun ad3 gg2 => ?_)
  rw [← gg2 a0 (gs_lt T_1 (by decide)).2]
  refine ww_bdZ E (fun Sk4 dyk4 ek4 E => ?_)
  have mk4 : S.1 ≤ Sk4.1 := by rw [ek4]; exact Nat.le_succ_of_le m0
  have ck4 : clo Sk4 := by rw [ek4]; exact clo_al hc0
  have gk4 : ∀ x, x ≤ S.1 → ad3 x = ad x := fun x hx => (gg2 x (Nat.le_trans hx m0)).trans (ag0 x hx)
  obtain ⟨T_5, E⟩ := gd_of E
  obtain ⟨T_6, E⟩ := gd_of E
  refine ww_putr (ci := 4) (k0 := 4) C dX4_init_9 HI rfl rfl inm4 tyX4_ok nmX4 (by decide) T_5 T_6 (by decide) q165 rfl rfl (tyX4_ok 4 (by decide)) (fun _ => rfl) (fun _ => rfl) rfl ?_
  refine ww_bdZ E (fun Sk7 dyk7 ek7 E => ?_)
  have mk7 : S.1 ≤ Sk7.1 := by rw [ek7]; exact mk4
  have ck7 : clo Sk7 := by rw [ek7]; exact clo_sr ck4 (gs_lt T_6 (by decide)).2
  refine ww_aload_n C dX4_init_12 rfl 0 rfl ?_
  refine ww_bipush (v := (12)) C dX4_init_13 (by decide) ?_
  obtain ⟨T_8, E⟩ := gd_of E
  refine ww_newa (t := 1) (N := 12) C dX4_init_15 ck7 rfl (by decide) (by decide) rfl q225 (by decide) (by decide) (Nat.le_of_ble_eq_true rfl) (Nat.le_of_ble_eq_true rfl) (Nat.le_of_ble_eq_true rfl) (fun ad10 gg9 => ?_)
  rw [← gg9 a0 (gs_lt T_8 (by decide)).2]
  refine ww_bdZ E (fun Sk11 dyk11 ek11 E => ?_)
  have mk11 : S.1 ≤ Sk11.1 := by rw [ek11]; exact Nat.le_succ_of_le mk7
  have ck11 : clo Sk11 := by rw [ek11]; exact clo_al ck7
  have gk11 : ∀ x, x ≤ S.1 → ad10 x = ad x := fun x hx => (gg9 x (Nat.le_trans hx mk7)).trans (gk4 x hx)
  obtain ⟨T_12, E⟩ := gd_of E
  obtain ⟨T_13, E⟩ := gd_of E
  refine ww_putr (ci := 4) (k0 := 5) C dX4_init_17 HI rfl rfl inm4 tyX4_ok nmX4 (by decide) T_12 T_13 (by decide) q167 rfl rfl (tyX4_ok 5 (by decide)) (fun _ => rfl) (fun _ => rfl) rfl ?_
  refine ww_bdZ E (fun Sk14 dyk14 ek14 E => ?_)
  have mk14 : S.1 ≤ Sk14.1 := by rw [ek14]; exact mk11
  have ck14 : clo Sk14 := by rw [ek14]; exact clo_sr ck11 (gs_lt T_13 (by decide)).2
  refine ww_aload_n C dX4_init_20 rfl 0 rfl ?_
  refine ww_bipush (v := (12)) C dX4_init_21 (by decide) ?_
  obtain ⟨T_15, E⟩ := gd_of E
  refine ww_newa (t := 1) (N := 12) C dX4_init_23 ck14 rfl (by decide) (by decide) rfl q225 (by decide) (by decide) (Nat.le_of_ble_eq_true rfl) (Nat.le_of_ble_eq_true rfl) (Nat.le_of_ble_eq_true rfl) (fun ad17 gg16 => ?_)
  rw [← gg16 a0 (gs_lt T_15 (by decide)).2]
  refine ww_bdZ E (fun Sk18 dyk18 ek18 E => ?_)
  have mk18 : S.1 ≤ Sk18.1 := by rw [ek18]; exact Nat.le_succ_of_le mk14
  have ck18 : clo Sk18 := by rw [ek18]; exact clo_al ck14
  have gk18 : ∀ x, x ≤ S.1 → ad17 x = ad x := fun x hx => (gg16 x (Nat.le_trans hx mk14)).trans (gk11 x hx)
  obtain ⟨T_19, E⟩ := gd_of E
  obtain ⟨T_20, E⟩ := gd_of E
  refine ww_putr (ci := 4) (k0 := 6) C dX4_init_25 HI rfl rfl inm4 tyX4_ok nmX4 (by decide) T_19 T_20 (by decide) q170 rfl rfl (tyX4_ok 6 (by decide)) (fun _ => rfl) (fun _ => rfl) rfl ?_
  refine ww_bdZ E (fun Sk21 dyk21 ek21 E => ?_)
  have mk21 : S.1 ≤ Sk21.1 := by rw [ek21]; exact mk18
  have ck21 : clo Sk21 := by rw [ek21]; exact clo_sr ck18 (gs_lt T_20 (by decide)).2
  refine ww_aload_n C dX4_init_28 rfl 0 rfl ?_
  refine ww_bipush (v := (12)) C dX4_init_29 (by decide) ?_
  obtain ⟨T_22, E⟩ := gd_of E
  refine ww_newa (t := 1) (N := 12) C dX4_init_31 ck21 rfl (by decide) (by decide) rfl q225 (by decide) (by decide) (Nat.le_of_ble_eq_true rfl) (Nat.le_of_ble_eq_true rfl) (Nat.le_of_ble_eq_true rfl) (fun ad24 gg23 => ?_)
  rw [← gg23 a0 (gs_lt T_22 (by decide)).2]
  refine ww_bdZ E (fun Sk25 dyk25 ek25 E => ?_)
  have mk25 : S.1 ≤ Sk25.1 := by rw [ek25]; exact Nat.le_succ_of_le mk21
  have ck25 : clo Sk25 := by rw [ek25]; exact clo_al ck21
  have gk25 : ∀ x, x ≤ S.1 → ad24 x = ad x := fun x hx => (gg23 x (Nat.le_trans hx mk21)).trans (gk18 x hx)
  obtain ⟨T_26, E⟩ := gd_of E
  obtain ⟨T_27, E⟩ := gd_of E
  refine ww_putr (ci := 4) (k0 := 7) C dX4_init_33 HI rfl rfl inm4 tyX4_ok nmX4 (by decide) T_26 T_27 (by decide) q173 rfl rfl (tyX4_ok 7 (by decide)) (fun _ => rfl) (fun _ => rfl) rfl ?_
  refine ww_bdZ E (fun Sk28 dyk28 ek28 E => ?_)
  have mk28 : S.1 ≤ Sk28.1 := by rw [ek28]; exact mk25
  have ck28 : clo Sk28 := by rw [ek28]; exact clo_sr ck25 (gs_lt T_27 (by decide)).2
  refine ww_aload_n C dX4_init_36 rfl 0 rfl ?_
  refine ww_bipush (v := (12)) C dX4_init_37 (by decide) ?_
  obtain ⟨T_29, E⟩ := gd_of E
  refine ww_newa (t := 1) (N := 12) C dX4_init_39 ck28 rfl (by decide) (by decide) rfl q225 (by decide) (by decide) (Nat.le_of_ble_eq_true rfl) (Nat.le_of_ble_eq_true rfl) (Nat.le_of_ble_eq_true rfl) (fun ad31 gg30 => ?_)
  rw [← gg30 a0 (gs_lt T_29 (by decide)).2]
  refine ww_bdZ E (fun Sk32 dyk32 ek32 E => ?_)
  have mk32 : S.1 ≤ Sk32.1 := by rw [ek32]; exact Nat.le_succ_of_le mk28
  have ck32 : clo Sk32 := by rw [ek32]; exact clo_al ck28
  have gk32 : ∀ x, x ≤ S.1 → ad31 x = ad x := fun x hx => (gg30 x (Nat.le_trans hx mk28)).trans (gk25 x hx)
  obtain ⟨T_33, E⟩ := gd_of E
  obtain ⟨T_34, E⟩ := gd_of E
  refine ww_putr (ci := 4) (k0 := 8) C dX4_init_41 HI rfl rfl inm4 tyX4_ok nmX4 (by decide) T_33 T_34 (by decide) q176 rfl rfl (tyX4_ok 8 (by decide)) (fun _ => rfl) (fun _ => rfl) rfl ?_
  refine ww_bdZ E (fun Sk35 dyk35 ek35 E => ?_)
  have mk35 : S.1 ≤ Sk35.1 := by rw [ek35]; exact mk32
  have ck35 : clo Sk35 := by rw [ek35]; exact clo_sr ck32 (gs_lt T_34 (by decide)).2
  refine ww_aload_n C dX4_init_44 rfl 0 rfl ?_
  refine ww_bipush (v := (12)) C dX4_init_45 (by decide) ?_
  obtain ⟨T_36, E⟩ := gd_of E
  refine ww_newa (t := 1) (N := 12) C dX4_init_47 ck35 rfl (by decide) (by decide) rfl q225 (by decide) (by decide) (Nat.le_of_ble_eq_true rfl) (Nat.le_of_ble_eq_true rfl) (Nat.le_of_ble_eq_true rfl) (fun ad38 gg37 => ?_)
  rw [← gg37 a0 (gs_lt T_36 (by decide)).2]
  refine ww_bdZ E (fun Sk39 dyk39 ek39 E => ?_)
  have mk39 : S.1 ≤ Sk39.1 := by rw [ek39]; exact Nat.le_succ_of_le mk35
  have ck39 : clo Sk39 := by rw [ek39]; exact clo_al ck35
  have gk39 : ∀ x, x ≤ S.1 → ad38 x = ad x := fun x hx => (gg37 x (Nat.le_trans hx mk35)).trans (gk32 x hx)
  obtain ⟨T_40, E⟩ := gd_of E
  obtain ⟨T_41, E⟩ := gd_of E
  refine ww_putr (ci := 4) (k0 := 9) C dX4_init_49 HI rfl rfl inm4 tyX4_ok nmX4 (by decide) T_40 T_41 (by decide) q180 rfl rfl (tyX4_ok 9 (by decide)) (fun _ => rfl) (fun _ => rfl) rfl ?_
  refine ww_bdZ E (fun Sk42 dyk42 ek42 E => ?_)
  have mk42 : S.1 ≤ Sk42.1 := by rw [ek42]; exact mk39
  have ck42 : clo Sk42 := by rw [ek42]; exact clo_sr ck39 (gs_lt T_41 (by decide)).2
  refine ww_aload_n C dX4_init_52 rfl 0 rfl ?_
  refine ww_bipush (v := (12)) C dX4_init_53 (by decide) ?_
  obtain ⟨T_43, E⟩ := gd_of E
  refine ww_newa (t := 1) (N := 12) C dX4_init_55 ck42 rfl (by decide) (by decide) rfl q225 (by decide) (by decide) (Nat.le_of_ble_eq_true rfl) (Nat.le_of_ble_eq_true rfl) (Nat.le_of_ble_eq_true rfl) (fun ad45 gg44 => ?_)
  rw [← gg44 a0 (gs_lt T_43 (by decide)).2]
  refine ww_bdZ E (fun Sk46 dyk46 ek46 E => ?_)
  have mk46 : S.1 ≤ Sk46.1 := by rw [ek46]; exact Nat.le_succ_of_le mk42
  have ck46 : clo Sk46 := by rw [ek46]; exact clo_al ck42
  have gk46 : ∀ x, x ≤ S.1 → ad45 x = ad x := fun x hx => (gg44 x (Nat.le_trans hx mk42)).trans (gk39 x hx)
  obtain ⟨T_47, E⟩ := gd_of E
  obtain ⟨T_48, E⟩ := gd_of E
  refine ww_putr (ci := 4) (k0 := 10) C dX4_init_57 HI rfl rfl inm4 tyX4_ok nmX4 (by decide) T_47 T_48 (by decide) q185 rfl rfl (tyX4_ok 10 (by decide)) (fun _ => rfl) (fun _ => rfl) rfl ?_
  refine ww_bdZ E (fun Sk49 dyk49 ek49 E => ?_)
  have mk49 : S.1 ≤ Sk49.1 := by rw [ek49]; exact mk46
  have ck49 : clo Sk49 := by rw [ek49]; exact clo_sr ck46 (gs_lt T_48 (by decide)).2
  refine ww_aload_n C dX4_init_60 rfl 0 rfl ?_
  refine ww_bipush (v := (12)) C dX4_init_61 (by decide) ?_
  obtain ⟨T_50, E⟩ := gd_of E
  refine ww_newa (t := 1) (N := 12) C dX4_init_63 ck49 rfl (by decide) (by decide) rfl q225 (by decide) (by decide) (Nat.le_of_ble_eq_true rfl) (Nat.le_of_ble_eq_true rfl) (Nat.le_of_ble_eq_true rfl) (fun ad52 gg51 => ?_)
  rw [← gg51 a0 (gs_lt T_50 (by decide)).2]
  refine ww_bdZ E (fun Sk53 dyk53 ek53 E => ?_)
  have mk53 : S.1 ≤ Sk53.1 := by rw [ek53]; exact Nat.le_succ_of_le mk49
  have ck53 : clo Sk53 := by rw [ek53]; exact clo_al ck49
  have gk53 : ∀ x, x ≤ S.1 → ad52 x = ad x := fun x hx => (gg51 x (Nat.le_trans hx mk49)).trans (gk46 x hx)
  obtain ⟨T_54, E⟩ := gd_of E
  obtain ⟨T_55, E⟩ := gd_of E
  refine ww_putr (ci := 4) (k0 := 11) C dX4_init_65 HI rfl rfl inm4 tyX4_ok nmX4 (by decide) T_54 T_55 (by decide) q189 rfl rfl (tyX4_ok 11 (by decide)) (fun _ => rfl) (fun _ => rfl) rfl ?_
  refine ww_bdZ E (fun Sk56 dyk56 ek56 E => ?_)
  have mk56 : S.1 ≤ Sk56.1 := by rw [ek56]; exact mk53
  have ck56 : clo Sk56 := by rw [ek56]; exact clo_sr ck53 (gs_lt T_55 (by decide)).2
  refine ww_aload_n C dX4_init_68 rfl 0 rfl ?_
  refine ww_bipush (v := (12)) C dX4_init_69 (by decide) ?_
  obtain ⟨T_57, E⟩ := gd_of E
  refine ww_newa (t := 1) (N := 12) C dX4_init_71 ck56 rfl (by decide) (by decide) rfl q225 (by decide) (by decide) (Nat.le_of_ble_eq_true rfl) (Nat.le_of_ble_eq_true rfl) (Nat.le_of_ble_eq_true rfl) (fun ad59 gg58 => ?_)
  rw [← gg58 a0 (gs_lt T_57 (by decide)).2]
  refine ww_bdZ E (fun Sk60 dyk60 ek60 E => ?_)
  have mk60 : S.1 ≤ Sk60.1 := by rw [ek60]; exact Nat.le_succ_of_le mk56
  have ck60 : clo Sk60 := by rw [ek60]; exact clo_al ck56
  have gk60 : ∀ x, x ≤ S.1 → ad59 x = ad x := fun x hx => (gg58 x (Nat.le_trans hx mk56)).trans (gk53 x hx)
  obtain ⟨T_61, E⟩ := gd_of E
  obtain ⟨T_62, E⟩ := gd_of E
  refine ww_putr (ci := 4) (k0 := 12) C dX4_init_73 HI rfl rfl inm4 tyX4_ok nmX4 (by decide) T_61 T_62 (by decide) q193 rfl rfl (tyX4_ok 12 (by decide)) (fun _ => rfl) (fun _ => rfl) rfl ?_
  refine ww_bdZ E (fun Sk63 dyk63 ek63 E => ?_)
  have mk63 : S.1 ≤ Sk63.1 := by rw [ek63]; exact mk60
  have ck63 : clo Sk63 := by rw [ek63]; exact clo_sr ck60 (gs_lt T_62 (by decide)).2
  exact ww_vretN C HR HL dX4_init_76 ck63 mk63 gk60 E
set_option maxRecDepth 100000 in
noncomputable def F_X2_init (a0 : Nat) (S : ST) (dy : DY) : Option (ST × DY) := if gs S a0 = (0, 2) then bdZ (alS S (1, 16)) (alD S dy) fun Sk4 dyk4 => if gs Sk4 a0 = (0, 2) then if gs Sk4 (S.1 + 1) = (1, 16) then bdZ (sr Sk4 a0 1 (S.1 + 1)) (dyk4) fun Sk7 dyk7 => if gs Sk7 a0 = (0, 2) then bdZ (alS Sk7 (1, 16)) (alD Sk7 dyk7) fun Sk11 dyk11 => if gs Sk11 a0 = (0, 2) then if gs Sk11 (Sk7.1 + 1) = (1, 16) then bdZ (sr Sk11 a0 2 (Sk7.1 + 1)) (dyk11) fun Sk14 dyk14 => if gs Sk14 a0 = (0, 2) then bdZ (alS Sk14 (1, 64)) (alD Sk14 dyk14) fun Sk18 dyk18 => if gs Sk18 a0 = (0, 2) then if gs Sk18 (Sk14.1 + 1) = (1, 64) then bdZ (sr Sk18 a0 3 (Sk14.1 + 1)) (dyk18) fun Sk21 dyk21 => if gs Sk21 a0 = (0, 2) then bdZ (alS Sk21 (1, 64)) (alD Sk21 dyk21) fun Sk25 dyk25 => if gs Sk25 a0 = (0, 2) then if gs Sk25 (Sk21.1 + 1) = (1, 64) then bdZ (sr Sk25 a0 4 (Sk21.1 + 1)) (dyk25) fun Sk28 dyk28 => if gs Sk28 a0 = (0, 2) then bdZ (alS Sk28 (1, 64)) (alD Sk28 dyk28) fun Sk32 dyk32 => if gs Sk32 a0 = (0, 2) then if gs Sk32 (Sk28.1 + 1) = (1, 64) then bdZ (sr Sk32 a0 5 (Sk28.1 + 1)) (dyk32) fun Sk35 dyk35 => if gs Sk35 a0 = (0, 2) then bdZ (alS Sk35 (3, 64)) (alD Sk35 dyk35) fun Sk39 dyk39 => if gs Sk39 a0 = (0, 2) then if gs Sk39 (Sk35.1 + 1) = (3, 64) then bdZ (sr Sk39 a0 6 (Sk35.1 + 1)) (dyk39) fun Sk42 dyk42 => some (Sk42, dyk42) else none else none else none else none else none else none else none else none else none else none else none else none else none else none else none else none else none else none
theorem dX2_init_0 : decode cX2_init 0 = .ok (.aload_n 0, 1) := by decide +kernel
theorem dX2_init_1 : decode cX2_init 1 = .ok (.invokespecial 3, 3) := by decide +kernel
theorem dX2_init_4 : decode cX2_init 4 = .ok (.aload_n 0, 1) := by decide +kernel
theorem dX2_init_5 : decode cX2_init 5 = .ok (.bipush 16, 2) := by decide +kernel
theorem dX2_init_7 : decode cX2_init 7 = .ok (.newarray .int, 2) := by decide +kernel
theorem dX2_init_9 : decode cX2_init 9 = .ok (.putfield 9, 3) := by decide +kernel
theorem dX2_init_12 : decode cX2_init 12 = .ok (.aload_n 0, 1) := by decide +kernel
theorem dX2_init_13 : decode cX2_init 13 = .ok (.bipush 16, 2) := by decide +kernel
theorem dX2_init_15 : decode cX2_init 15 = .ok (.newarray .int, 2) := by decide +kernel
theorem dX2_init_17 : decode cX2_init 17 = .ok (.putfield 15, 3) := by decide +kernel
theorem dX2_init_20 : decode cX2_init 20 = .ok (.aload_n 0, 1) := by decide +kernel
theorem dX2_init_21 : decode cX2_init 21 = .ok (.bipush 64, 2) := by decide +kernel
theorem dX2_init_23 : decode cX2_init 23 = .ok (.newarray .int, 2) := by decide +kernel
theorem dX2_init_25 : decode cX2_init 25 = .ok (.putfield 18, 3) := by decide +kernel
theorem dX2_init_28 : decode cX2_init 28 = .ok (.aload_n 0, 1) := by decide +kernel
theorem dX2_init_29 : decode cX2_init 29 = .ok (.bipush 64, 2) := by decide +kernel
theorem dX2_init_31 : decode cX2_init 31 = .ok (.newarray .int, 2) := by decide +kernel
theorem dX2_init_33 : decode cX2_init 33 = .ok (.putfield 21, 3) := by decide +kernel
theorem dX2_init_36 : decode cX2_init 36 = .ok (.aload_n 0, 1) := by decide +kernel
theorem dX2_init_37 : decode cX2_init 37 = .ok (.bipush 64, 2) := by decide +kernel
theorem dX2_init_39 : decode cX2_init 39 = .ok (.newarray .int, 2) := by decide +kernel
theorem dX2_init_41 : decode cX2_init 41 = .ok (.putfield 24, 3) := by decide +kernel
theorem dX2_init_44 : decode cX2_init 44 = .ok (.aload_n 0, 1) := by decide +kernel
theorem dX2_init_45 : decode cX2_init 45 = .ok (.bipush 64, 2) := by decide +kernel
theorem dX2_init_47 : decode cX2_init 47 = .ok (.newarray .boolean, 2) := by decide +kernel
theorem dX2_init_49 : decode cX2_init 49 = .ok (.putfield 27, 3) := by decide +kernel
theorem dX2_init_52 : decode cX2_init 52 = .ok (.return_, 1) := by decide +kernel
set_option maxHeartbeats 4000000 in
set_option maxRecDepth 100000 in
theorem M_X2_init (l : Launch) (G : GG) (ad : Nat → Nat) {S : ST} (hc0 : clo S) (a0 : Nat) (dy : DY) {S' : ST} {dy' : DY} (E : F_X2_init a0 S dy = some (S', dy')) : MN l yX2_init cX2_init 1 1 G ad [.ref (ad a0)] S S' dy dy' 6 288 := by
  unfold F_X2_init at E
  have m0 : S.1 ≤ S.1 := Nat.le_refl _
  have ag0 : ∀ x, x ≤ S.1 → ad x = ad x := fun _ _ => rfl
  refine mn_of RX2 (by decide) rfl rfl (Nat.le_of_ble_eq_true rfl) (fun p e s m args below meth c A C HR HL HI => ?_)
  refine ww_sub (lv' := [(0, .ref (ad a0))]) [0] rfl ?_
  refine ww_aload_n C dX2_init_0 rfl 0 rfl ?_
  refine ww_objinit C dX2_init_1 q230 q133 qObj (Nat.le_of_ble_eq_true rfl) (Nat.le_of_ble_eq_true rfl) (Nat.le_of_ble_eq_true rfl) ?_
  refine ww_aload_n C dX2_init_4 rfl 0 rfl ?_
  refine ww_bipush (v := (16)) C dX2_init_5 (by decide) ?_
  obtain ⟨T_1, E⟩ := gd_of E
  refine ww_newa (t := 1) (N := 16) C dX2_init_7 hc0 rfl (by decide) (by decide) rfl q225 (by decide) (by decide) (Nat.le_of_ble_eq_true rfl) (Nat.le_of_ble_eq_true rfl) (Nat.le_of_ble_eq_true rfl) (fun ad3 gg2 => ?_)
  rw [← gg2 a0 (gs_lt T_1 (by decide)).2]
  refine ww_bdZ E (fun Sk4 dyk4 ek4 E => ?_)
  have mk4 : S.1 ≤ Sk4.1 := by rw [ek4]; exact Nat.le_succ_of_le m0
  have ck4 : clo Sk4 := by rw [ek4]; exact clo_al hc0
  have gk4 : ∀ x, x ≤ S.1 → ad3 x = ad x := fun x hx => (gg2 x (Nat.le_trans hx m0)).trans (ag0 x hx)
  obtain ⟨T_5, E⟩ := gd_of E
  obtain ⟨T_6, E⟩ := gd_of E
  refine ww_putr (ci := 2) (k0 := 1) C dX2_init_9 HI rfl rfl inm2 tyX2_ok nmX2 (by decide) T_5 T_6 (by decide) q234 rfl rfl (tyX2_ok 1 (by decide)) (fun _ => rfl) (fun _ => rfl) rfl ?_
  refine ww_bdZ E (fun Sk7 dyk7 ek7 E => ?_)
  have mk7 : S.1 ≤ Sk7.1 := by rw [ek7]; exact mk4
  have ck7 : clo Sk7 := by rw [ek7]; exact clo_sr ck4 (gs_lt T_6 (by decide)).2
  refine ww_aload_n C dX2_init_12 rfl 0 rfl ?_
  refine ww_bipush (v := (16)) C dX2_init_13 (by decide) ?_
  obtain ⟨T_8, E⟩ := gd_of E
  refine ww_newa (t := 1) (N := 16) C dX2_init_15 ck7 rfl (by decide) (by decide) rfl q225 (by decide) (by decide) (Nat.le_of_ble_eq_true rfl) (Nat.le_of_ble_eq_true rfl) (Nat.le_of_ble_eq_true rfl) (fun ad10 gg9 => ?_)
  rw [← gg9 a0 (gs_lt T_8 (by decide)).2]
  refine ww_bdZ E (fun Sk11 dyk11 ek11 E => ?_)
  have mk11 : S.1 ≤ Sk11.1 := by rw [ek11]; exact Nat.le_succ_of_le mk7
  have ck11 : clo Sk11 := by rw [ek11]; exact clo_al ck7
  have gk11 : ∀ x, x ≤ S.1 → ad10 x = ad x := fun x hx => (gg9 x (Nat.le_trans hx mk7)).trans (gk4 x hx)
  obtain ⟨T_12, E⟩ := gd_of E
  obtain ⟨T_13, E⟩ := gd_of E
  refine ww_putr (ci := 2) (k0 := 2) C dX2_init_17 HI rfl rfl inm2 tyX2_ok nmX2 (by decide) T_12 T_13 (by decide) q235 rfl rfl (tyX2_ok 2 (by decide)) (fun _ => rfl) (fun _ => rfl) rfl ?_
  refine ww_bdZ E (fun Sk14 dyk14 ek14 E => ?_)
  have mk14 : S.1 ≤ Sk14.1 := by rw [ek14]; exact mk11
  have ck14 : clo Sk14 := by rw [ek14]; exact clo_sr ck11 (gs_lt T_13 (by decide)).2
  refine ww_aload_n C dX2_init_20 rfl 0 rfl ?_
  refine ww_bipush (v := (64)) C dX2_init_21 (by decide) ?_
  obtain ⟨T_15, E⟩ := gd_of E
  refine ww_newa (t := 1) (N := 64) C dX2_init_23 ck14 rfl (by decide) (by decide) rfl q225 (by decide) (by decide) (Nat.le_of_ble_eq_true rfl) (Nat.le_of_ble_eq_true rfl) (Nat.le_of_ble_eq_true rfl) (fun ad17 gg16 => ?_)
  rw [← gg16 a0 (gs_lt T_15 (by decide)).2]
  refine ww_bdZ E (fun Sk18 dyk18 ek18 E => ?_)
  have mk18 : S.1 ≤ Sk18.1 := by rw [ek18]; exact Nat.le_succ_of_le mk14
  have ck18 : clo Sk18 := by rw [ek18]; exact clo_al ck14
  have gk18 : ∀ x, x ≤ S.1 → ad17 x = ad x := fun x hx => (gg16 x (Nat.le_trans hx mk14)).trans (gk11 x hx)
  obtain ⟨T_19, E⟩ := gd_of E
  obtain ⟨T_20, E⟩ := gd_of E
  refine ww_putr (ci := 2) (k0 := 3) C dX2_init_25 HI rfl rfl inm2 tyX2_ok nmX2 (by decide) T_19 T_20 (by decide) q236 rfl rfl (tyX2_ok 3 (by decide)) (fun _ => rfl) (fun _ => rfl) rfl ?_
  refine ww_bdZ E (fun Sk21 dyk21 ek21 E => ?_)
  have mk21 : S.1 ≤ Sk21.1 := by rw [ek21]; exact mk18
  have ck21 : clo Sk21 := by rw [ek21]; exact clo_sr ck18 (gs_lt T_20 (by decide)).2
  refine ww_aload_n C dX2_init_28 rfl 0 rfl ?_
  refine ww_bipush (v := (64)) C dX2_init_29 (by decide) ?_
  obtain ⟨T_22, E⟩ := gd_of E
  refine ww_newa (t := 1) (N := 64) C dX2_init_31 ck21 rfl (by decide) (by decide) rfl q225 (by decide) (by decide) (Nat.le_of_ble_eq_true rfl) (Nat.le_of_ble_eq_true rfl) (Nat.le_of_ble_eq_true rfl) (fun ad24 gg23 => ?_)
  rw [← gg23 a0 (gs_lt T_22 (by decide)).2]
  refine ww_bdZ E (fun Sk25 dyk25 ek25 E => ?_)
  have mk25 : S.1 ≤ Sk25.1 := by rw [ek25]; exact Nat.le_succ_of_le mk21
  have ck25 : clo Sk25 := by rw [ek25]; exact clo_al ck21
  have gk25 : ∀ x, x ≤ S.1 → ad24 x = ad x := fun x hx => (gg23 x (Nat.le_trans hx mk21)).trans (gk18 x hx)
  obtain ⟨T_26, E⟩ := gd_of E
  obtain ⟨T_27, E⟩ := gd_of E
  refine ww_putr (ci := 2) (k0 := 4) C dX2_init_33 HI rfl rfl inm2 tyX2_ok nmX2 (by decide) T_26 T_27 (by decide) q237 rfl rfl (tyX2_ok 4 (by decide)) (fun _ => rfl) (fun _ => rfl) rfl ?_
  refine ww_bdZ E (fun Sk28 dyk28 ek28 E => ?_)
  have mk28 : S.1 ≤ Sk28.1 := by rw [ek28]; exact mk25
  have ck28 : clo Sk28 := by rw [ek28]; exact clo_sr ck25 (gs_lt T_27 (by decide)).2
  refine ww_aload_n C dX2_init_36 rfl 0 rfl ?_
  refine ww_bipush (v := (64)) C dX2_init_37 (by decide) ?_
  obtain ⟨T_29, E⟩ := gd_of E
  refine ww_newa (t := 1) (N := 64) C dX2_init_39 ck28 rfl (by decide) (by decide) rfl q225 (by decide) (by decide) (Nat.le_of_ble_eq_true rfl) (Nat.le_of_ble_eq_true rfl) (Nat.le_of_ble_eq_true rfl) (fun ad31 gg30 => ?_)
  rw [← gg30 a0 (gs_lt T_29 (by decide)).2]
  refine ww_bdZ E (fun Sk32 dyk32 ek32 E => ?_)
  have mk32 : S.1 ≤ Sk32.1 := by rw [ek32]; exact Nat.le_succ_of_le mk28
  have ck32 : clo Sk32 := by rw [ek32]; exact clo_al ck28
  have gk32 : ∀ x, x ≤ S.1 → ad31 x = ad x := fun x hx => (gg30 x (Nat.le_trans hx mk28)).trans (gk25 x hx)
  obtain ⟨T_33, E⟩ := gd_of E
  obtain ⟨T_34, E⟩ := gd_of E
  refine ww_putr (ci := 2) (k0 := 5) C dX2_init_41 HI rfl rfl inm2 tyX2_ok nmX2 (by decide) T_33 T_34 (by decide) q238 rfl rfl (tyX2_ok 5 (by decide)) (fun _ => rfl) (fun _ => rfl) rfl ?_
  refine ww_bdZ E (fun Sk35 dyk35 ek35 E => ?_)
  have mk35 : S.1 ≤ Sk35.1 := by rw [ek35]; exact mk32
  have ck35 : clo Sk35 := by rw [ek35]; exact clo_sr ck32 (gs_lt T_34 (by decide)).2
  refine ww_aload_n C dX2_init_44 rfl 0 rfl ?_
  refine ww_bipush (v := (64)) C dX2_init_45 (by decide) ?_
  obtain ⟨T_36, E⟩ := gd_of E
  refine ww_newa (t := 3) (N := 64) C dX2_init_47 ck35 rfl (by decide) (by decide) rfl q224 (by decide) (by decide) (Nat.le_of_ble_eq_true rfl) (Nat.le_of_ble_eq_true rfl) (Nat.le_of_ble_eq_true rfl) (fun ad38 gg37 => ?_)
  rw [← gg37 a0 (gs_lt T_36 (by decide)).2]
  refine ww_bdZ E (fun Sk39 dyk39 ek39 E => ?_)
  have mk39 : S.1 ≤ Sk39.1 := by rw [ek39]; exact Nat.le_succ_of_le mk35
  have ck39 : clo Sk39 := by rw [ek39]; exact clo_al ck35
  have gk39 : ∀ x, x ≤ S.1 → ad38 x = ad x := fun x hx => (gg37 x (Nat.le_trans hx mk35)).trans (gk32 x hx)
  obtain ⟨T_40, E⟩ := gd_of E
  obtain ⟨T_41, E⟩ := gd_of E
  refine ww_putr (ci := 2) (k0 := 6) C dX2_init_49 HI rfl rfl inm2 tyX2_ok nmX2 (by decide) T_40 T_41 (by decide) q239 rfl rfl (tyX2_ok 6 (by decide)) (fun _ => rfl) (fun _ => rfl) rfl ?_
  refine ww_bdZ E (fun Sk42 dyk42 ek42 E => ?_)
  have mk42 : S.1 ≤ Sk42.1 := by rw [ek42]; exact mk39
  have ck42 : clo Sk42 := by rw [ek42]; exact clo_sr ck39 (gs_lt T_41 (by decide)).2
  exact ww_vretN C HR HL dX2_init_52 ck42 mk42 gk39 E
set_option maxRecDepth 100000 in
noncomputable def F_X1_init (a0 : Nat) (S : ST) (dy : DY) : Option (ST × DY) := if gs S a0 = (0, 1) then bdZ (alS S (1, 8)) (alD S dy) fun Sk4 dyk4 => if gs Sk4 a0 = (0, 1) then if gs Sk4 (S.1 + 1) = (1, 8) then bdZ (sr Sk4 a0 0 (S.1 + 1)) (dyk4) fun Sk7 dyk7 => if gs Sk7 a0 = (0, 1) then bdZ (alS Sk7 (1, 48)) (alD Sk7 dyk7) fun Sk11 dyk11 => if gs Sk11 a0 = (0, 1) then if gs Sk11 (Sk7.1 + 1) = (1, 48) then bdZ (sr Sk11 a0 1 (Sk7.1 + 1)) (dyk11) fun Sk14 dyk14 => if gs Sk14 a0 = (0, 1) then bdZ (alS Sk14 (1, 48)) (alD Sk14 dyk14) fun Sk18 dyk18 => if gs Sk18 a0 = (0, 1) then if gs Sk18 (Sk14.1 + 1) = (1, 48) then bdZ (sr Sk18 a0 2 (Sk14.1 + 1)) (dyk18) fun Sk21 dyk21 => if gs Sk21 a0 = (0, 1) then bdZ (alS Sk21 (1, 6)) (alD Sk21 dyk21) fun Sk25 dyk25 => if gs Sk25 a0 = (0, 1) then if gs Sk25 (Sk21.1 + 1) = (1, 6) then bdZ (sr Sk25 a0 3 (Sk21.1 + 1)) (dyk25) fun Sk28 dyk28 => if gs Sk28 a0 = (0, 1) then bdZ (alS Sk28 (1, 448)) (alD Sk28 dyk28) fun Sk32 dyk32 => if gs Sk32 a0 = (0, 1) then if gs Sk32 (Sk28.1 + 1) = (1, 448) then bdZ (sr Sk32 a0 4 (Sk28.1 + 1)) (dyk32) fun Sk35 dyk35 => some (Sk35, dyk35) else none else none else none else none else none else none else none else none else none else none else none else none else none else none else none
theorem dX1_init_0 : decode cX1_init 0 = .ok (.aload_n 0, 1) := by decide +kernel
theorem dX1_init_1 : decode cX1_init 1 = .ok (.invokespecial 3, 3) := by decide +kernel
theorem dX1_init_4 : decode cX1_init 4 = .ok (.aload_n 0, 1) := by decide +kernel
theorem dX1_init_5 : decode cX1_init 5 = .ok (.bipush 8, 2) := by decide +kernel
theorem dX1_init_7 : decode cX1_init 7 = .ok (.newarray .int, 2) := by decide +kernel
theorem dX1_init_9 : decode cX1_init 9 = .ok (.putfield 9, 3) := by decide +kernel
theorem dX1_init_12 : decode cX1_init 12 = .ok (.aload_n 0, 1) := by decide +kernel
theorem dX1_init_13 : decode cX1_init 13 = .ok (.bipush 48, 2) := by decide +kernel
theorem dX1_init_15 : decode cX1_init 15 = .ok (.newarray .int, 2) := by decide +kernel
theorem dX1_init_17 : decode cX1_init 17 = .ok (.putfield 15, 3) := by decide +kernel
theorem dX1_init_20 : decode cX1_init 20 = .ok (.aload_n 0, 1) := by decide +kernel
theorem dX1_init_21 : decode cX1_init 21 = .ok (.bipush 48, 2) := by decide +kernel
theorem dX1_init_23 : decode cX1_init 23 = .ok (.newarray .int, 2) := by decide +kernel
theorem dX1_init_25 : decode cX1_init 25 = .ok (.putfield 18, 3) := by decide +kernel
theorem dX1_init_28 : decode cX1_init 28 = .ok (.aload_n 0, 1) := by decide +kernel
theorem dX1_init_29 : decode cX1_init 29 = .ok (.bipush 6, 2) := by decide +kernel
theorem dX1_init_31 : decode cX1_init 31 = .ok (.newarray .int, 2) := by decide +kernel
theorem dX1_init_33 : decode cX1_init 33 = .ok (.putfield 21, 3) := by decide +kernel
theorem dX1_init_36 : decode cX1_init 36 = .ok (.aload_n 0, 1) := by decide +kernel
theorem dX1_init_37 : decode cX1_init 37 = .ok (.sipush 448, 3) := by decide +kernel
theorem dX1_init_40 : decode cX1_init 40 = .ok (.newarray .int, 2) := by decide +kernel
theorem dX1_init_42 : decode cX1_init 42 = .ok (.putfield 24, 3) := by decide +kernel
theorem dX1_init_45 : decode cX1_init 45 = .ok (.return_, 1) := by decide +kernel
set_option maxHeartbeats 4000000 in
set_option maxRecDepth 100000 in
theorem M_X1_init (l : Launch) (G : GG) (ad : Nat → Nat) {S : ST} (hc0 : clo S) (a0 : Nat) (dy : DY) {S' : ST} {dy' : DY} (E : F_X1_init a0 S dy = some (S', dy')) : MN l yX1_init cX1_init 1 1 G ad [.ref (ad a0)] S S' dy dy' 5 558 := by
  unfold F_X1_init at E
  have m0 : S.1 ≤ S.1 := Nat.le_refl _
  have ag0 : ∀ x, x ≤ S.1 → ad x = ad x := fun _ _ => rfl
  refine mn_of RX1 (by decide) rfl rfl (Nat.le_of_ble_eq_true rfl) (fun p e s m args below meth c A C HR HL HI => ?_)
  refine ww_sub (lv' := [(0, .ref (ad a0))]) [0] rfl ?_
  refine ww_aload_n C dX1_init_0 rfl 0 rfl ?_
  refine ww_objinit C dX1_init_1 q346 q133 qObj (Nat.le_of_ble_eq_true rfl) (Nat.le_of_ble_eq_true rfl) (Nat.le_of_ble_eq_true rfl) ?_
  refine ww_aload_n C dX1_init_4 rfl 0 rfl ?_
  refine ww_bipush (v := (8)) C dX1_init_5 (by decide) ?_
  obtain ⟨T_1, E⟩ := gd_of E
  refine ww_newa (t := 1) (N := 8) C dX1_init_7 hc0 rfl (by decide) (by decide) rfl q225 (by decide) (by decide) (Nat.le_of_ble_eq_true rfl) (Nat.le_of_ble_eq_true rfl) (Nat.le_of_ble_eq_true rfl) (fun ad3 gg2 => ?_)
  rw [← gg2 a0 (gs_lt T_1 (by decide)).2]
  refine ww_bdZ E (fun Sk4 dyk4 ek4 E => ?_)
  have mk4 : S.1 ≤ Sk4.1 := by rw [ek4]; exact Nat.le_succ_of_le m0
  have ck4 : clo Sk4 := by rw [ek4]; exact clo_al hc0
  have gk4 : ∀ x, x ≤ S.1 → ad3 x = ad x := fun x hx => (gg2 x (Nat.le_trans hx m0)).trans (ag0 x hx)
  obtain ⟨T_5, E⟩ := gd_of E
  obtain ⟨T_6, E⟩ := gd_of E
  refine ww_putr (ci := 1) (k0 := 0) C dX1_init_9 HI rfl rfl inm1 tyX1_ok nmX1 (by decide) T_5 T_6 (by decide) q347 rfl rfl (tyX1_ok 0 (by decide)) (fun _ => rfl) (fun _ => rfl) rfl ?_
  refine ww_bdZ E (fun Sk7 dyk7 ek7 E => ?_)
  have mk7 : S.1 ≤ Sk7.1 := by rw [ek7]; exact mk4
  have ck7 : clo Sk7 := by rw [ek7]; exact clo_sr ck4 (gs_lt T_6 (by decide)).2
  refine ww_aload_n C dX1_init_12 rfl 0 rfl ?_
  refine ww_bipush (v := (48)) C dX1_init_13 (by decide) ?_
  obtain ⟨T_8, E⟩ := gd_of E
  refine ww_newa (t := 1) (N := 48) C dX1_init_15 ck7 rfl (by decide) (by decide) rfl q225 (by decide) (by decide) (Nat.le_of_ble_eq_true rfl) (Nat.le_of_ble_eq_true rfl) (Nat.le_of_ble_eq_true rfl) (fun ad10 gg9 => ?_)
  rw [← gg9 a0 (gs_lt T_8 (by decide)).2]
  refine ww_bdZ E (fun Sk11 dyk11 ek11 E => ?_)
  have mk11 : S.1 ≤ Sk11.1 := by rw [ek11]; exact Nat.le_succ_of_le mk7
  have ck11 : clo Sk11 := by rw [ek11]; exact clo_al ck7
  have gk11 : ∀ x, x ≤ S.1 → ad10 x = ad x := fun x hx => (gg9 x (Nat.le_trans hx mk7)).trans (gk4 x hx)
  obtain ⟨T_12, E⟩ := gd_of E
  obtain ⟨T_13, E⟩ := gd_of E
  refine ww_putr (ci := 1) (k0 := 1) C dX1_init_17 HI rfl rfl inm1 tyX1_ok nmX1 (by decide) T_12 T_13 (by decide) q349 rfl rfl (tyX1_ok 1 (by decide)) (fun _ => rfl) (fun _ => rfl) rfl ?_
  refine ww_bdZ E (fun Sk14 dyk14 ek14 E => ?_)
  have mk14 : S.1 ≤ Sk14.1 := by rw [ek14]; exact mk11
  have ck14 : clo Sk14 := by rw [ek14]; exact clo_sr ck11 (gs_lt T_13 (by decide)).2
  refine ww_aload_n C dX1_init_20 rfl 0 rfl ?_
  refine ww_bipush (v := (48)) C dX1_init_21 (by decide) ?_
  obtain ⟨T_15, E⟩ := gd_of E
  refine ww_newa (t := 1) (N := 48) C dX1_init_23 ck14 rfl (by decide) (by decide) rfl q225 (by decide) (by decide) (Nat.le_of_ble_eq_true rfl) (Nat.le_of_ble_eq_true rfl) (Nat.le_of_ble_eq_true rfl) (fun ad17 gg16 => ?_)
  rw [← gg16 a0 (gs_lt T_15 (by decide)).2]
  refine ww_bdZ E (fun Sk18 dyk18 ek18 E => ?_)
  have mk18 : S.1 ≤ Sk18.1 := by rw [ek18]; exact Nat.le_succ_of_le mk14
  have ck18 : clo Sk18 := by rw [ek18]; exact clo_al ck14
  have gk18 : ∀ x, x ≤ S.1 → ad17 x = ad x := fun x hx => (gg16 x (Nat.le_trans hx mk14)).trans (gk11 x hx)
  obtain ⟨T_19, E⟩ := gd_of E
  obtain ⟨T_20, E⟩ := gd_of E
  refine ww_putr (ci := 1) (k0 := 2) C dX1_init_25 HI rfl rfl inm1 tyX1_ok nmX1 (by decide) T_19 T_20 (by decide) q351 rfl rfl (tyX1_ok 2 (by decide)) (fun _ => rfl) (fun _ => rfl) rfl ?_
  refine ww_bdZ E (fun Sk21 dyk21 ek21 E => ?_)
  have mk21 : S.1 ≤ Sk21.1 := by rw [ek21]; exact mk18
  have ck21 : clo Sk21 := by rw [ek21]; exact clo_sr ck18 (gs_lt T_20 (by decide)).2
  refine ww_aload_n C dX1_init_28 rfl 0 rfl ?_
  refine ww_bipush (v := (6)) C dX1_init_29 (by decide) ?_
  obtain ⟨T_22, E⟩ := gd_of E
  refine ww_newa (t := 1) (N := 6) C dX1_init_31 ck21 rfl (by decide) (by decide) rfl q225 (by decide) (by decide) (Nat.le_of_ble_eq_true rfl) (Nat.le_of_ble_eq_true rfl) (Nat.le_of_ble_eq_true rfl) (fun ad24 gg23 => ?_)
  rw [← gg23 a0 (gs_lt T_22 (by decide)).2]
  refine ww_bdZ E (fun Sk25 dyk25 ek25 E => ?_)
  have mk25 : S.1 ≤ Sk25.1 := by rw [ek25]; exact Nat.le_succ_of_le mk21
  have ck25 : clo Sk25 := by rw [ek25]; exact clo_al ck21
  have gk25 : ∀ x, x ≤ S.1 → ad24 x = ad x := fun x hx => (gg23 x (Nat.le_trans hx mk21)).trans (gk18 x hx)
  obtain ⟨T_26, E⟩ := gd_of E
  obtain ⟨T_27, E⟩ := gd_of E
  refine ww_putr (ci := 1) (k0 := 3) C dX1_init_33 HI rfl rfl inm1 tyX1_ok nmX1 (by decide) T_26 T_27 (by decide) q353 rfl rfl (tyX1_ok 3 (by decide)) (fun _ => rfl) (fun _ => rfl) rfl ?_
  refine ww_bdZ E (fun Sk28 dyk28 ek28 E => ?_)
  have mk28 : S.1 ≤ Sk28.1 := by rw [ek28]; exact mk25
  have ck28 : clo Sk28 := by rw [ek28]; exact clo_sr ck25 (gs_lt T_27 (by decide)).2
  refine ww_aload_n C dX1_init_36 rfl 0 rfl ?_
  refine ww_sipush (v := (448)) C dX1_init_37 (by decide) ?_
  obtain ⟨T_29, E⟩ := gd_of E
  refine ww_newa (t := 1) (N := 448) C dX1_init_40 ck28 rfl (by decide) (by decide) rfl q225 (by decide) (by decide) (Nat.le_of_ble_eq_true rfl) (Nat.le_of_ble_eq_true rfl) (Nat.le_of_ble_eq_true rfl) (fun ad31 gg30 => ?_)
  rw [← gg30 a0 (gs_lt T_29 (by decide)).2]
  refine ww_bdZ E (fun Sk32 dyk32 ek32 E => ?_)
  have mk32 : S.1 ≤ Sk32.1 := by rw [ek32]; exact Nat.le_succ_of_le mk28
  have ck32 : clo Sk32 := by rw [ek32]; exact clo_al ck28
  have gk32 : ∀ x, x ≤ S.1 → ad31 x = ad x := fun x hx => (gg30 x (Nat.le_trans hx mk28)).trans (gk25 x hx)
  obtain ⟨T_33, E⟩ := gd_of E
  obtain ⟨T_34, E⟩ := gd_of E
  refine ww_putr (ci := 1) (k0 := 4) C dX1_init_42 HI rfl rfl inm1 tyX1_ok nmX1 (by decide) T_33 T_34 (by decide) q355 rfl rfl (tyX1_ok 4 (by decide)) (fun _ => rfl) (fun _ => rfl) rfl ?_
  refine ww_bdZ E (fun Sk35 dyk35 ek35 E => ?_)
  have mk35 : S.1 ≤ Sk35.1 := by rw [ek35]; exact mk32
  have ck35 : clo Sk35 := by rw [ek35]; exact clo_sr ck32 (gs_lt T_34 (by decide)).2
  exact ww_vretN C HR HL dX1_init_45 ck35 mk35 gk32 E
set_option maxRecDepth 100000 in
noncomputable def F_X8_init (a0 : Nat) (a1 : Nat) (a2 : Nat) (S : ST) (dy : DY) : Option (ST × DY) := if gs S a0 = (0, 8) then if gs S a1 = (0, 4) then if gs S a2 = (0, 2) then bdZ (alS S (1, 48)) (alD S dy) fun Sk6 dyk6 => if gs Sk6 a0 = (0, 8) then if gs Sk6 (S.1 + 1) = (1, 48) then bdZ (sr Sk6 a0 9 (S.1 + 1)) (dyk6) fun Sk9 dyk9 => if gs Sk9 a0 = (0, 8) then if gs Sk9 a1 = (0, 4) then if gs Sk9 a2 = (0, 2) then bdZ (alS Sk9 (1, 48)) (alD Sk9 dyk9) fun Sk15 dyk15 => if gs Sk15 a0 = (0, 8) then if gs Sk15 (Sk9.1 + 1) = (1, 48) then bdZ (sr Sk15 a0 10 (Sk9.1 + 1)) (dyk15) fun Sk18 dyk18 => if gs Sk18 a0 = (0, 8) then if gs Sk18 a1 = (0, 4) then if gs Sk18 a2 = (0, 2) then bdZ (alS Sk18 (1, 12)) (alD Sk18 dyk18) fun Sk24 dyk24 => if gs Sk24 a0 = (0, 8) then if gs Sk24 (Sk18.1 + 1) = (1, 12) then bdZ (sr Sk24 a0 11 (Sk18.1 + 1)) (dyk24) fun Sk27 dyk27 => if gs Sk27 a0 = (0, 8) then if gs Sk27 a1 = (0, 4) then if gs Sk27 a2 = (0, 2) then bdZ (alS Sk27 (1, 12)) (alD Sk27 dyk27) fun Sk33 dyk33 => if gs Sk33 a0 = (0, 8) then if gs Sk33 (Sk27.1 + 1) = (1, 12) then bdZ (sr Sk33 a0 12 (Sk27.1 + 1)) (dyk33) fun Sk36 dyk36 => if gs Sk36 a0 = (0, 8) then if gs Sk36 a1 = (0, 4) then if gs Sk36 a2 = (0, 2) then bdZ (alS Sk36 (1, 12)) (alD Sk36 dyk36) fun Sk42 dyk42 => if gs Sk42 a0 = (0, 8) then if gs Sk42 (Sk36.1 + 1) = (1, 12) then bdZ (sr Sk42 a0 13 (Sk36.1 + 1)) (dyk42) fun Sk45 dyk45 => if gs Sk45 a0 = (0, 8) then if gs Sk45 a1 = (0, 4) then if gs Sk45 a2 = (0, 2) then bdZ (alS Sk45 (1, 12)) (alD Sk45 dyk45) fun Sk51 dyk51 => if gs Sk51 a0 = (0, 8) then if gs Sk51 (Sk45.1 + 1) = (1, 12) then bdZ (sr Sk51 a0 14 (Sk45.1 + 1)) (dyk51) fun Sk54 dyk54 => if gs Sk54 a0 = (0, 8) then if gs Sk54 a1 = (0, 4) then if gs Sk54 a2 = (0, 2) then bdZ (alS Sk54 (1, 12)) (alD Sk54 dyk54) fun Sk60 dyk60 => if gs Sk60 a0 = (0, 8) then if gs Sk60 (Sk54.1 + 1) = (1, 12) then bdZ (sr Sk60 a0 15 (Sk54.1 + 1)) (dyk60) fun Sk63 dyk63 => if gs Sk63 a0 = (0, 8) then if gs Sk63 a1 = (0, 4) then if gs Sk63 a2 = (0, 2) then bdZ (alS Sk63 (1, 12)) (alD Sk63 dyk63) fun Sk69 dyk69 => if gs Sk69 a0 = (0, 8) then if gs Sk69 (Sk63.1 + 1) = (1, 12) then bdZ (sr Sk69 a0 16 (Sk63.1 + 1)) (dyk69) fun Sk72 dyk72 => if gs Sk72 a0 = (0, 8) then if gs Sk72 a1 = (0, 4) then if gs Sk72 a2 = (0, 2) then bdZ (alS Sk72 (1, 12)) (alD Sk72 dyk72) fun Sk78 dyk78 => if gs Sk78 a0 = (0, 8) then if gs Sk78 (Sk72.1 + 1) = (1, 12) then bdZ (sr Sk78 a0 17 (Sk72.1 + 1)) (dyk78) fun Sk81 dyk81 => if gs Sk81 a0 = (0, 8) then if gs Sk81 a1 = (0, 4) then if gs Sk81 a2 = (0, 2) then bdZ (alS Sk81 (1, 11)) (alD Sk81 dyk81) fun Sk87 dyk87 => if gs Sk87 a0 = (0, 8) then if gs Sk87 (Sk81.1 + 1) = (1, 11) then bdZ (sr Sk87 a0 18 (Sk81.1 + 1)) (dyk87) fun Sk90 dyk90 => if gs Sk90 a0 = (0, 8) then if gs Sk90 a1 = (0, 4) then if gs Sk90 a2 = (0, 2) then bdZ (alS Sk90 (1, 75)) (alD Sk90 dyk90) fun Sk96 dyk96 => if gs Sk96 a0 = (0, 8) then if gs Sk96 (Sk90.1 + 1) = (1, 75) then bdZ (sr Sk96 a0 19 (Sk90.1 + 1)) (dyk96) fun Sk99 dyk99 => if gs Sk99 a0 = (0, 8) then if gs Sk99 a1 = (0, 4) then bdZ (sr Sk99 a0 0 a1) (dyk99) fun Sk102 dyk102 => if gs Sk102 a0 = (0, 8) then if gs Sk102 a2 = (0, 2) then bdZ (sr Sk102 a0 1 a2) (dyk102) fun Sk105 dyk105 => some (Sk105, dyk105) else none else none else none else none else none else none else none else none else none else none else none else none else none else none else none else none else none else none else none else none else none else none else none else none else none else none else none else none else none else none else none else none else none else none else none else none else none else none else none else none else none else none else none else none else none else none else none else none else none else none else none else none else none else none else none else none else none else none else none
theorem dX8_init_0 : decode cX8_init 0 = .ok (.aload_n 0, 1) := by decide +kernel
theorem dX8_init_1 : decode cX8_init 1 = .ok (.invokespecial 3, 3) := by decide +kernel
theorem dX8_init_4 : decode cX8_init 4 = .ok (.aload_n 0, 1) := by decide +kernel
theorem dX8_init_5 : decode cX8_init 5 = .ok (.bipush 48, 2) := by decide +kernel
theorem dX8_init_7 : decode cX8_init 7 = .ok (.newarray .int, 2) := by decide +kernel
theorem dX8_init_9 : decode cX8_init 9 = .ok (.putfield 11, 3) := by decide +kernel
theorem dX8_init_12 : decode cX8_init 12 = .ok (.aload_n 0, 1) := by decide +kernel
theorem dX8_init_13 : decode cX8_init 13 = .ok (.bipush 48, 2) := by decide +kernel
theorem dX8_init_15 : decode cX8_init 15 = .ok (.newarray .int, 2) := by decide +kernel
theorem dX8_init_17 : decode cX8_init 17 = .ok (.putfield 15, 3) := by decide +kernel
theorem dX8_init_20 : decode cX8_init 20 = .ok (.aload_n 0, 1) := by decide +kernel
theorem dX8_init_21 : decode cX8_init 21 = .ok (.bipush 12, 2) := by decide +kernel
theorem dX8_init_23 : decode cX8_init 23 = .ok (.newarray .int, 2) := by decide +kernel
theorem dX8_init_25 : decode cX8_init 25 = .ok (.putfield 18, 3) := by decide +kernel
theorem dX8_init_28 : decode cX8_init 28 = .ok (.aload_n 0, 1) := by decide +kernel
theorem dX8_init_29 : decode cX8_init 29 = .ok (.bipush 12, 2) := by decide +kernel
theorem dX8_init_31 : decode cX8_init 31 = .ok (.newarray .int, 2) := by decide +kernel
theorem dX8_init_33 : decode cX8_init 33 = .ok (.putfield 21, 3) := by decide +kernel
theorem dX8_init_36 : decode cX8_init 36 = .ok (.aload_n 0, 1) := by decide +kernel
theorem dX8_init_37 : decode cX8_init 37 = .ok (.bipush 12, 2) := by decide +kernel
theorem dX8_init_39 : decode cX8_init 39 = .ok (.newarray .int, 2) := by decide +kernel
theorem dX8_init_41 : decode cX8_init 41 = .ok (.putfield 24, 3) := by decide +kernel
theorem dX8_init_44 : decode cX8_init 44 = .ok (.aload_n 0, 1) := by decide +kernel
theorem dX8_init_45 : decode cX8_init 45 = .ok (.bipush 12, 2) := by decide +kernel
theorem dX8_init_47 : decode cX8_init 47 = .ok (.newarray .int, 2) := by decide +kernel
theorem dX8_init_49 : decode cX8_init 49 = .ok (.putfield 27, 3) := by decide +kernel
theorem dX8_init_52 : decode cX8_init 52 = .ok (.aload_n 0, 1) := by decide +kernel
theorem dX8_init_53 : decode cX8_init 53 = .ok (.bipush 12, 2) := by decide +kernel
theorem dX8_init_55 : decode cX8_init 55 = .ok (.newarray .int, 2) := by decide +kernel
theorem dX8_init_57 : decode cX8_init 57 = .ok (.putfield 30, 3) := by decide +kernel
theorem dX8_init_60 : decode cX8_init 60 = .ok (.aload_n 0, 1) := by decide +kernel
theorem dX8_init_61 : decode cX8_init 61 = .ok (.bipush 12, 2) := by decide +kernel
theorem dX8_init_63 : decode cX8_init 63 = .ok (.newarray .int, 2) := by decide +kernel
theorem dX8_init_65 : decode cX8_init 65 = .ok (.putfield 33, 3) := by decide +kernel
theorem dX8_init_68 : decode cX8_init 68 = .ok (.aload_n 0, 1) := by decide +kernel
theorem dX8_init_69 : decode cX8_init 69 = .ok (.bipush 12, 2) := by decide +kernel
theorem dX8_init_71 : decode cX8_init 71 = .ok (.newarray .int, 2) := by decide +kernel
theorem dX8_init_73 : decode cX8_init 73 = .ok (.putfield 36, 3) := by decide +kernel
theorem dX8_init_76 : decode cX8_init 76 = .ok (.aload_n 0, 1) := by decide +kernel
theorem dX8_init_77 : decode cX8_init 77 = .ok (.bipush 11, 2) := by decide +kernel
theorem dX8_init_79 : decode cX8_init 79 = .ok (.newarray .int, 2) := by decide +kernel
theorem dX8_init_81 : decode cX8_init 81 = .ok (.putfield 39, 3) := by decide +kernel
theorem dX8_init_84 : decode cX8_init 84 = .ok (.aload_n 0, 1) := by decide +kernel
theorem dX8_init_85 : decode cX8_init 85 = .ok (.bipush 75, 2) := by decide +kernel
theorem dX8_init_87 : decode cX8_init 87 = .ok (.newarray .int, 2) := by decide +kernel
theorem dX8_init_89 : decode cX8_init 89 = .ok (.putfield 42, 3) := by decide +kernel
theorem dX8_init_92 : decode cX8_init 92 = .ok (.aload_n 0, 1) := by decide +kernel
theorem dX8_init_93 : decode cX8_init 93 = .ok (.aload_n 1, 1) := by decide +kernel
theorem dX8_init_94 : decode cX8_init 94 = .ok (.putfield 45, 3) := by decide +kernel
theorem dX8_init_97 : decode cX8_init 97 = .ok (.aload_n 0, 1) := by decide +kernel
theorem dX8_init_98 : decode cX8_init 98 = .ok (.aload_n 2, 1) := by decide +kernel
theorem dX8_init_99 : decode cX8_init 99 = .ok (.putfield 49, 3) := by decide +kernel
theorem dX8_init_102 : decode cX8_init 102 = .ok (.return_, 1) := by decide +kernel
set_option maxHeartbeats 4000000 in
set_option maxRecDepth 100000 in
theorem M_X8_init (l : Launch) (G : GG) (ad : Nat → Nat) {S : ST} (hc0 : clo S) (a0 : Nat) (a1 : Nat) (a2 : Nat) (dy : DY) {S' : ST} {dy' : DY} (E : F_X8_init a0 a1 a2 S dy = some (S', dy')) : MN l yX8_init cX8_init 3 1 G ad [.ref (ad a0), .ref (ad a1), .ref (ad a2)] S S' dy dy' 11 266 := by
  unfold F_X8_init at E
  have m0 : S.1 ≤ S.1 := Nat.le_refl _
  have ag0 : ∀ x, x ≤ S.1 → ad x = ad x := fun _ _ => rfl
  refine mn_of RX8 (by decide) rfl rfl (Nat.le_of_ble_eq_true rfl) (fun p e s m args below meth c A C HR HL HI => ?_)
  refine ww_sub (lv' := [(0, .ref (ad a0)), (1, .ref (ad a1)), (2, .ref (ad a2))]) [0, 1, 2] rfl ?_
  refine ww_aload_n C dX8_init_0 rfl 0 rfl ?_
  refine ww_objinit C dX8_init_1 q260 q133 qObj (Nat.le_of_ble_eq_true rfl) (Nat.le_of_ble_eq_true rfl) (Nat.le_of_ble_eq_true rfl) ?_
  refine ww_aload_n C dX8_init_4 rfl 0 rfl ?_
  refine ww_bipush (v := (48)) C dX8_init_5 (by decide) ?_
  obtain ⟨T_1, E⟩ := gd_of E
  obtain ⟨T_2, E⟩ := gd_of E
  obtain ⟨T_3, E⟩ := gd_of E
  refine ww_newa (t := 1) (N := 48) C dX8_init_7 hc0 rfl (by decide) (by decide) rfl q225 (by decide) (by decide) (Nat.le_of_ble_eq_true rfl) (Nat.le_of_ble_eq_true rfl) (Nat.le_of_ble_eq_true rfl) (fun ad5 gg4 => ?_)
  rw [← gg4 a0 (gs_lt T_1 (by decide)).2]
  rw [← gg4 a1 (gs_lt T_2 (by decide)).2]
  rw [← gg4 a2 (gs_lt T_3 (by decide)).2]
  refine ww_bdZ E (fun Sk6 dyk6 ek6 E => ?_)
  have mk6 : S.1 ≤ Sk6.1 := by rw [ek6]; exact Nat.le_succ_of_le m0
  have ck6 : clo Sk6 := by rw [ek6]; exact clo_al hc0
  have gk6 : ∀ x, x ≤ S.1 → ad5 x = ad x := fun x hx => (gg4 x (Nat.le_trans hx m0)).trans (ag0 x hx)
  obtain ⟨T_7, E⟩ := gd_of E
  obtain ⟨T_8, E⟩ := gd_of E
  refine ww_putr (ci := 8) (k0 := 9) C dX8_init_9 HI rfl rfl inm8 tyX8_ok nmX8 (by decide) T_7 T_8 (by decide) q277 rfl rfl (tyX8_ok 9 (by decide)) (fun _ => rfl) (fun _ => rfl) rfl ?_
  refine ww_bdZ E (fun Sk9 dyk9 ek9 E => ?_)
  have mk9 : S.1 ≤ Sk9.1 := by rw [ek9]; exact mk6
  have ck9 : clo Sk9 := by rw [ek9]; exact clo_sr ck6 (gs_lt T_8 (by decide)).2
  refine ww_aload_n C dX8_init_12 rfl 0 rfl ?_
  refine ww_bipush (v := (48)) C dX8_init_13 (by decide) ?_
  obtain ⟨T_10, E⟩ := gd_of E
  obtain ⟨T_11, E⟩ := gd_of E
  obtain ⟨T_12, E⟩ := gd_of E
  refine ww_newa (t := 1) (N := 48) C dX8_init_15 ck9 rfl (by decide) (by decide) rfl q225 (by decide) (by decide) (Nat.le_of_ble_eq_true rfl) (Nat.le_of_ble_eq_true rfl) (Nat.le_of_ble_eq_true rfl) (fun ad14 gg13 => ?_)
  rw [← gg13 a0 (gs_lt T_10 (by decide)).2]
  rw [← gg13 a1 (gs_lt T_11 (by decide)).2]
  rw [← gg13 a2 (gs_lt T_12 (by decide)).2]
  refine ww_bdZ E (fun Sk15 dyk15 ek15 E => ?_)
  have mk15 : S.1 ≤ Sk15.1 := by rw [ek15]; exact Nat.le_succ_of_le mk9
  have ck15 : clo Sk15 := by rw [ek15]; exact clo_al ck9
  have gk15 : ∀ x, x ≤ S.1 → ad14 x = ad x := fun x hx => (gg13 x (Nat.le_trans hx mk9)).trans (gk6 x hx)
  obtain ⟨T_16, E⟩ := gd_of E
  obtain ⟨T_17, E⟩ := gd_of E
  refine ww_putr (ci := 8) (k0 := 10) C dX8_init_17 HI rfl rfl inm8 tyX8_ok nmX8 (by decide) T_16 T_17 (by decide) q280 rfl rfl (tyX8_ok 10 (by decide)) (fun _ => rfl) (fun _ => rfl) rfl ?_
  refine ww_bdZ E (fun Sk18 dyk18 ek18 E => ?_)
  have mk18 : S.1 ≤ Sk18.1 := by rw [ek18]; exact mk15
  have ck18 : clo Sk18 := by rw [ek18]; exact clo_sr ck15 (gs_lt T_17 (by decide)).2
  refine ww_aload_n C dX8_init_20 rfl 0 rfl ?_
  refine ww_bipush (v := (12)) C dX8_init_21 (by decide) ?_
  obtain ⟨T_19, E⟩ := gd_of E
  obtain ⟨T_20, E⟩ := gd_of E
  obtain ⟨T_21, E⟩ := gd_of E
  refine ww_newa (t := 1) (N := 12) C dX8_init_23 ck18 rfl (by decide) (by decide) rfl q225 (by decide) (by decide) (Nat.le_of_ble_eq_true rfl) (Nat.le_of_ble_eq_true rfl) (Nat.le_of_ble_eq_true rfl) (fun ad23 gg22 => ?_)
  rw [← gg22 a0 (gs_lt T_19 (by decide)).2]
  rw [← gg22 a1 (gs_lt T_20 (by decide)).2]
  rw [← gg22 a2 (gs_lt T_21 (by decide)).2]
  refine ww_bdZ E (fun Sk24 dyk24 ek24 E => ?_)
  have mk24 : S.1 ≤ Sk24.1 := by rw [ek24]; exact Nat.le_succ_of_le mk18
  have ck24 : clo Sk24 := by rw [ek24]; exact clo_al ck18
  have gk24 : ∀ x, x ≤ S.1 → ad23 x = ad x := fun x hx => (gg22 x (Nat.le_trans hx mk18)).trans (gk15 x hx)
  obtain ⟨T_25, E⟩ := gd_of E
  obtain ⟨T_26, E⟩ := gd_of E
  refine ww_putr (ci := 8) (k0 := 11) C dX8_init_25 HI rfl rfl inm8 tyX8_ok nmX8 (by decide) T_25 T_26 (by decide) q283 rfl rfl (tyX8_ok 11 (by decide)) (fun _ => rfl) (fun _ => rfl) rfl ?_
  refine ww_bdZ E (fun Sk27 dyk27 ek27 E => ?_)
  have mk27 : S.1 ≤ Sk27.1 := by rw [ek27]; exact mk24
  have ck27 : clo Sk27 := by rw [ek27]; exact clo_sr ck24 (gs_lt T_26 (by decide)).2
  refine ww_aload_n C dX8_init_28 rfl 0 rfl ?_
  refine ww_bipush (v := (12)) C dX8_init_29 (by decide) ?_
  obtain ⟨T_28, E⟩ := gd_of E
  obtain ⟨T_29, E⟩ := gd_of E
  obtain ⟨T_30, E⟩ := gd_of E
  refine ww_newa (t := 1) (N := 12) C dX8_init_31 ck27 rfl (by decide) (by decide) rfl q225 (by decide) (by decide) (Nat.le_of_ble_eq_true rfl) (Nat.le_of_ble_eq_true rfl) (Nat.le_of_ble_eq_true rfl) (fun ad32 gg31 => ?_)
  rw [← gg31 a0 (gs_lt T_28 (by decide)).2]
  rw [← gg31 a1 (gs_lt T_29 (by decide)).2]
  rw [← gg31 a2 (gs_lt T_30 (by decide)).2]
  refine ww_bdZ E (fun Sk33 dyk33 ek33 E => ?_)
  have mk33 : S.1 ≤ Sk33.1 := by rw [ek33]; exact Nat.le_succ_of_le mk27
  have ck33 : clo Sk33 := by rw [ek33]; exact clo_al ck27
  have gk33 : ∀ x, x ≤ S.1 → ad32 x = ad x := fun x hx => (gg31 x (Nat.le_trans hx mk27)).trans (gk24 x hx)
  obtain ⟨T_34, E⟩ := gd_of E
  obtain ⟨T_35, E⟩ := gd_of E
  refine ww_putr (ci := 8) (k0 := 12) C dX8_init_33 HI rfl rfl inm8 tyX8_ok nmX8 (by decide) T_34 T_35 (by decide) q285 rfl rfl (tyX8_ok 12 (by decide)) (fun _ => rfl) (fun _ => rfl) rfl ?_
  refine ww_bdZ E (fun Sk36 dyk36 ek36 E => ?_)
  have mk36 : S.1 ≤ Sk36.1 := by rw [ek36]; exact mk33
  have ck36 : clo Sk36 := by rw [ek36]; exact clo_sr ck33 (gs_lt T_35 (by decide)).2
  refine ww_aload_n C dX8_init_36 rfl 0 rfl ?_
  refine ww_bipush (v := (12)) C dX8_init_37 (by decide) ?_
  obtain ⟨T_37, E⟩ := gd_of E
  obtain ⟨T_38, E⟩ := gd_of E
  obtain ⟨T_39, E⟩ := gd_of E
  refine ww_newa (t := 1) (N := 12) C dX8_init_39 ck36 rfl (by decide) (by decide) rfl q225 (by decide) (by decide) (Nat.le_of_ble_eq_true rfl) (Nat.le_of_ble_eq_true rfl) (Nat.le_of_ble_eq_true rfl) (fun ad41 gg40 => ?_)
  rw [← gg40 a0 (gs_lt T_37 (by decide)).2]
  rw [← gg40 a1 (gs_lt T_38 (by decide)).2]
  rw [← gg40 a2 (gs_lt T_39 (by decide)).2]
  refine ww_bdZ E (fun Sk42 dyk42 ek42 E => ?_)
  have mk42 : S.1 ≤ Sk42.1 := by rw [ek42]; exact Nat.le_succ_of_le mk36
  have ck42 : clo Sk42 := by rw [ek42]; exact clo_al ck36
  have gk42 : ∀ x, x ≤ S.1 → ad41 x = ad x := fun x hx => (gg40 x (Nat.le_trans hx mk36)).trans (gk33 x hx)
  obtain ⟨T_43, E⟩ := gd_of E
  obtain ⟨T_44, E⟩ := gd_of E
  refine ww_putr (ci := 8) (k0 := 13) C dX8_init_41 HI rfl rfl inm8 tyX8_ok nmX8 (by decide) T_43 T_44 (by decide) q287 rfl rfl (tyX8_ok 13 (by decide)) (fun _ => rfl) (fun _ => rfl) rfl ?_
  refine ww_bdZ E (fun Sk45 dyk45 ek45 E => ?_)
  have mk45 : S.1 ≤ Sk45.1 := by rw [ek45]; exact mk42
  have ck45 : clo Sk45 := by rw [ek45]; exact clo_sr ck42 (gs_lt T_44 (by decide)).2
  refine ww_aload_n C dX8_init_44 rfl 0 rfl ?_
  refine ww_bipush (v := (12)) C dX8_init_45 (by decide) ?_
  obtain ⟨T_46, E⟩ := gd_of E
  obtain ⟨T_47, E⟩ := gd_of E
  obtain ⟨T_48, E⟩ := gd_of E
  refine ww_newa (t := 1) (N := 12) C dX8_init_47 ck45 rfl (by decide) (by decide) rfl q225 (by decide) (by decide) (Nat.le_of_ble_eq_true rfl) (Nat.le_of_ble_eq_true rfl) (Nat.le_of_ble_eq_true rfl) (fun ad50 gg49 => ?_)
  rw [← gg49 a0 (gs_lt T_46 (by decide)).2]
  rw [← gg49 a1 (gs_lt T_47 (by decide)).2]
  rw [← gg49 a2 (gs_lt T_48 (by decide)).2]
  refine ww_bdZ E (fun Sk51 dyk51 ek51 E => ?_)
  have mk51 : S.1 ≤ Sk51.1 := by rw [ek51]; exact Nat.le_succ_of_le mk45
  have ck51 : clo Sk51 := by rw [ek51]; exact clo_al ck45
  have gk51 : ∀ x, x ≤ S.1 → ad50 x = ad x := fun x hx => (gg49 x (Nat.le_trans hx mk45)).trans (gk42 x hx)
  obtain ⟨T_52, E⟩ := gd_of E
  obtain ⟨T_53, E⟩ := gd_of E
  refine ww_putr (ci := 8) (k0 := 14) C dX8_init_49 HI rfl rfl inm8 tyX8_ok nmX8 (by decide) T_52 T_53 (by decide) q289 rfl rfl (tyX8_ok 14 (by decide)) (fun _ => rfl) (fun _ => rfl) rfl ?_
  refine ww_bdZ E (fun Sk54 dyk54 ek54 E => ?_)
  have mk54 : S.1 ≤ Sk54.1 := by rw [ek54]; exact mk51
  have ck54 : clo Sk54 := by rw [ek54]; exact clo_sr ck51 (gs_lt T_53 (by decide)).2
  refine ww_aload_n C dX8_init_52 rfl 0 rfl ?_
  refine ww_bipush (v := (12)) C dX8_init_53 (by decide) ?_
  obtain ⟨T_55, E⟩ := gd_of E
  obtain ⟨T_56, E⟩ := gd_of E
  obtain ⟨T_57, E⟩ := gd_of E
  refine ww_newa (t := 1) (N := 12) C dX8_init_55 ck54 rfl (by decide) (by decide) rfl q225 (by decide) (by decide) (Nat.le_of_ble_eq_true rfl) (Nat.le_of_ble_eq_true rfl) (Nat.le_of_ble_eq_true rfl) (fun ad59 gg58 => ?_)
  rw [← gg58 a0 (gs_lt T_55 (by decide)).2]
  rw [← gg58 a1 (gs_lt T_56 (by decide)).2]
  rw [← gg58 a2 (gs_lt T_57 (by decide)).2]
  refine ww_bdZ E (fun Sk60 dyk60 ek60 E => ?_)
  have mk60 : S.1 ≤ Sk60.1 := by rw [ek60]; exact Nat.le_succ_of_le mk54
  have ck60 : clo Sk60 := by rw [ek60]; exact clo_al ck54
  have gk60 : ∀ x, x ≤ S.1 → ad59 x = ad x := fun x hx => (gg58 x (Nat.le_trans hx mk54)).trans (gk51 x hx)
  obtain ⟨T_61, E⟩ := gd_of E
  obtain ⟨T_62, E⟩ := gd_of E
  refine ww_putr (ci := 8) (k0 := 15) C dX8_init_57 HI rfl rfl inm8 tyX8_ok nmX8 (by decide) T_61 T_62 (by decide) q291 rfl rfl (tyX8_ok 15 (by decide)) (fun _ => rfl) (fun _ => rfl) rfl ?_
  refine ww_bdZ E (fun Sk63 dyk63 ek63 E => ?_)
  have mk63 : S.1 ≤ Sk63.1 := by rw [ek63]; exact mk60
  have ck63 : clo Sk63 := by rw [ek63]; exact clo_sr ck60 (gs_lt T_62 (by decide)).2
  refine ww_aload_n C dX8_init_60 rfl 0 rfl ?_
  refine ww_bipush (v := (12)) C dX8_init_61 (by decide) ?_
  obtain ⟨T_64, E⟩ := gd_of E
  obtain ⟨T_65, E⟩ := gd_of E
  obtain ⟨T_66, E⟩ := gd_of E
  refine ww_newa (t := 1) (N := 12) C dX8_init_63 ck63 rfl (by decide) (by decide) rfl q225 (by decide) (by decide) (Nat.le_of_ble_eq_true rfl) (Nat.le_of_ble_eq_true rfl) (Nat.le_of_ble_eq_true rfl) (fun ad68 gg67 => ?_)
  rw [← gg67 a0 (gs_lt T_64 (by decide)).2]
  rw [← gg67 a1 (gs_lt T_65 (by decide)).2]
  rw [← gg67 a2 (gs_lt T_66 (by decide)).2]
  refine ww_bdZ E (fun Sk69 dyk69 ek69 E => ?_)
  have mk69 : S.1 ≤ Sk69.1 := by rw [ek69]; exact Nat.le_succ_of_le mk63
  have ck69 : clo Sk69 := by rw [ek69]; exact clo_al ck63
  have gk69 : ∀ x, x ≤ S.1 → ad68 x = ad x := fun x hx => (gg67 x (Nat.le_trans hx mk63)).trans (gk60 x hx)
  obtain ⟨T_70, E⟩ := gd_of E
  obtain ⟨T_71, E⟩ := gd_of E
  refine ww_putr (ci := 8) (k0 := 16) C dX8_init_65 HI rfl rfl inm8 tyX8_ok nmX8 (by decide) T_70 T_71 (by decide) q294 rfl rfl (tyX8_ok 16 (by decide)) (fun _ => rfl) (fun _ => rfl) rfl ?_
  refine ww_bdZ E (fun Sk72 dyk72 ek72 E => ?_)
  have mk72 : S.1 ≤ Sk72.1 := by rw [ek72]; exact mk69
  have ck72 : clo Sk72 := by rw [ek72]; exact clo_sr ck69 (gs_lt T_71 (by decide)).2
  refine ww_aload_n C dX8_init_68 rfl 0 rfl ?_
  refine ww_bipush (v := (12)) C dX8_init_69 (by decide) ?_
  obtain ⟨T_73, E⟩ := gd_of E
  obtain ⟨T_74, E⟩ := gd_of E
  obtain ⟨T_75, E⟩ := gd_of E
  refine ww_newa (t := 1) (N := 12) C dX8_init_71 ck72 rfl (by decide) (by decide) rfl q225 (by decide) (by decide) (Nat.le_of_ble_eq_true rfl) (Nat.le_of_ble_eq_true rfl) (Nat.le_of_ble_eq_true rfl) (fun ad77 gg76 => ?_)
  rw [← gg76 a0 (gs_lt T_73 (by decide)).2]
  rw [← gg76 a1 (gs_lt T_74 (by decide)).2]
  rw [← gg76 a2 (gs_lt T_75 (by decide)).2]
  refine ww_bdZ E (fun Sk78 dyk78 ek78 E => ?_)
  have mk78 : S.1 ≤ Sk78.1 := by rw [ek78]; exact Nat.le_succ_of_le mk72
  have ck78 : clo Sk78 := by rw [ek78]; exact clo_al ck72
  have gk78 : ∀ x, x ≤ S.1 → ad77 x = ad x := fun x hx => (gg76 x (Nat.le_trans hx mk72)).trans (gk69 x hx)
  obtain ⟨T_79, E⟩ := gd_of E
  obtain ⟨T_80, E⟩ := gd_of E
  refine ww_putr (ci := 8) (k0 := 17) C dX8_init_73 HI rfl rfl inm8 tyX8_ok nmX8 (by decide) T_79 T_80 (by decide) q296 rfl rfl (tyX8_ok 17 (by decide)) (fun _ => rfl) (fun _ => rfl) rfl ?_
  refine ww_bdZ E (fun Sk81 dyk81 ek81 E => ?_)
  have mk81 : S.1 ≤ Sk81.1 := by rw [ek81]; exact mk78
  have ck81 : clo Sk81 := by rw [ek81]; exact clo_sr ck78 (gs_lt T_80 (by decide)).2
  refine ww_aload_n C dX8_init_76 rfl 0 rfl ?_
  refine ww_bipush (v := (11)) C dX8_init_77 (by decide) ?_
  obtain ⟨T_82, E⟩ := gd_of E
  obtain ⟨T_83, E⟩ := gd_of E
  obtain ⟨T_84, E⟩ := gd_of E
  refine ww_newa (t := 1) (N := 11) C dX8_init_79 ck81 rfl (by decide) (by decide) rfl q225 (by decide) (by decide) (Nat.le_of_ble_eq_true rfl) (Nat.le_of_ble_eq_true rfl) (Nat.le_of_ble_eq_true rfl) (fun ad86 gg85 => ?_)
  rw [← gg85 a0 (gs_lt T_82 (by decide)).2]
  rw [← gg85 a1 (gs_lt T_83 (by decide)).2]
  rw [← gg85 a2 (gs_lt T_84 (by decide)).2]
  refine ww_bdZ E (fun Sk87 dyk87 ek87 E => ?_)
  have mk87 : S.1 ≤ Sk87.1 := by rw [ek87]; exact Nat.le_succ_of_le mk81
  have ck87 : clo Sk87 := by rw [ek87]; exact clo_al ck81
  have gk87 : ∀ x, x ≤ S.1 → ad86 x = ad x := fun x hx => (gg85 x (Nat.le_trans hx mk81)).trans (gk78 x hx)
  obtain ⟨T_88, E⟩ := gd_of E
  obtain ⟨T_89, E⟩ := gd_of E
  refine ww_putr (ci := 8) (k0 := 18) C dX8_init_81 HI rfl rfl inm8 tyX8_ok nmX8 (by decide) T_88 T_89 (by decide) q297 rfl rfl (tyX8_ok 18 (by decide)) (fun _ => rfl) (fun _ => rfl) rfl ?_
  refine ww_bdZ E (fun Sk90 dyk90 ek90 E => ?_)
  have mk90 : S.1 ≤ Sk90.1 := by rw [ek90]; exact mk87
  have ck90 : clo Sk90 := by rw [ek90]; exact clo_sr ck87 (gs_lt T_89 (by decide)).2
  refine ww_aload_n C dX8_init_84 rfl 0 rfl ?_
  refine ww_bipush (v := (75)) C dX8_init_85 (by decide) ?_
  obtain ⟨T_91, E⟩ := gd_of E
  obtain ⟨T_92, E⟩ := gd_of E
  obtain ⟨T_93, E⟩ := gd_of E
  refine ww_newa (t := 1) (N := 75) C dX8_init_87 ck90 rfl (by decide) (by decide) rfl q225 (by decide) (by decide) (Nat.le_of_ble_eq_true rfl) (Nat.le_of_ble_eq_true rfl) (Nat.le_of_ble_eq_true rfl) (fun ad95 gg94 => ?_)
  rw [← gg94 a0 (gs_lt T_91 (by decide)).2]
  rw [← gg94 a1 (gs_lt T_92 (by decide)).2]
  rw [← gg94 a2 (gs_lt T_93 (by decide)).2]
  refine ww_bdZ E (fun Sk96 dyk96 ek96 E => ?_)
  have mk96 : S.1 ≤ Sk96.1 := by rw [ek96]; exact Nat.le_succ_of_le mk90
  have ck96 : clo Sk96 := by rw [ek96]; exact clo_al ck90
  have gk96 : ∀ x, x ≤ S.1 → ad95 x = ad x := fun x hx => (gg94 x (Nat.le_trans hx mk90)).trans (gk87 x hx)
  obtain ⟨T_97, E⟩ := gd_of E
  obtain ⟨T_98, E⟩ := gd_of E
  refine ww_putr (ci := 8) (k0 := 19) C dX8_init_89 HI rfl rfl inm8 tyX8_ok nmX8 (by decide) T_97 T_98 (by decide) q299 rfl rfl (tyX8_ok 19 (by decide)) (fun _ => rfl) (fun _ => rfl) rfl ?_
  refine ww_bdZ E (fun Sk99 dyk99 ek99 E => ?_)
  have mk99 : S.1 ≤ Sk99.1 := by rw [ek99]; exact mk96
  have ck99 : clo Sk99 := by rw [ek99]; exact clo_sr ck96 (gs_lt T_98 (by decide)).2
  refine ww_aload_n C dX8_init_92 rfl 0 rfl ?_
  refine ww_aload_n C dX8_init_93 rfl 1 rfl ?_
  obtain ⟨T_100, E⟩ := gd_of E
  obtain ⟨T_101, E⟩ := gd_of E
  refine ww_putr (ci := 8) (k0 := 0) C dX8_init_94 HI rfl rfl inm8 tyX8_ok nmX8 (by decide) T_100 T_101 (by decide) q261 rfl rfl (tyX8_ok 0 (by decide)) (fun _ => rfl) (fun _ => rfl) rfl ?_
  refine ww_bdZ E (fun Sk102 dyk102 ek102 E => ?_)
  have mk102 : S.1 ≤ Sk102.1 := by rw [ek102]; exact mk99
  have ck102 : clo Sk102 := by rw [ek102]; exact clo_sr ck99 (gs_lt T_101 (by decide)).2
  refine ww_aload_n C dX8_init_97 rfl 0 rfl ?_
  refine ww_aload_n C dX8_init_98 rfl 2 rfl ?_
  obtain ⟨T_103, E⟩ := gd_of E
  obtain ⟨T_104, E⟩ := gd_of E
  refine ww_putr (ci := 8) (k0 := 1) C dX8_init_99 HI rfl rfl inm8 tyX8_ok nmX8 (by decide) T_103 T_104 (by decide) q262 rfl rfl (tyX8_ok 1 (by decide)) (fun _ => rfl) (fun _ => rfl) rfl ?_
  refine ww_bdZ E (fun Sk105 dyk105 ek105 E => ?_)
  have mk105 : S.1 ≤ Sk105.1 := by rw [ek105]; exact mk102
  have ck105 : clo Sk105 := by rw [ek105]; exact clo_sr ck102 (gs_lt T_104 (by decide)).2
  exact ww_vretN C HR HL dX8_init_102 ck105 mk105 gk96 E
set_option maxRecDepth 100000 in
noncomputable def F_X6_init (a0 : Nat) (a1 : Nat) (S : ST) (dy : DY) : Option (ST × DY) := if gs S a0 = (0, 6) then if gs S a1 = (2, 500) then bdZ (sr S a0 0 a1) (dy) fun Sk3 dyk3 => some (Sk3, dyk3) else none else none
theorem dX6_init_0 : decode cX6_init 0 = .ok (.aload_n 0, 1) := by decide +kernel
theorem dX6_init_1 : decode cX6_init 1 = .ok (.invokespecial 3, 3) := by decide +kernel
theorem dX6_init_4 : decode cX6_init 4 = .ok (.aload_n 0, 1) := by decide +kernel
theorem dX6_init_5 : decode cX6_init 5 = .ok (.aload_n 1, 1) := by decide +kernel
theorem dX6_init_6 : decode cX6_init 6 = .ok (.putfield 9, 3) := by decide +kernel
theorem dX6_init_9 : decode cX6_init 9 = .ok (.return_, 1) := by decide +kernel
set_option maxHeartbeats 4000000 in
set_option maxRecDepth 100000 in
theorem M_X6_init (l : Launch) (G : GG) (ad : Nat → Nat) {S : ST} (hc0 : clo S) (a0 : Nat) (a1 : Nat) (dy : DY) {S' : ST} {dy' : DY} (E : F_X6_init a0 a1 S dy = some (S', dy')) : MN l yX6_init cX6_init 2 1 G ad [.ref (ad a0), .ref (ad a1)] S S' dy dy' 0 0 := by
  unfold F_X6_init at E
  have m0 : S.1 ≤ S.1 := Nat.le_refl _
  have ag0 : ∀ x, x ≤ S.1 → ad x = ad x := fun _ _ => rfl
  refine mn_of RX6 (by decide) rfl rfl (Nat.le_of_ble_eq_true rfl) (fun p e s m args below meth c A C HR HL HI => ?_)
  refine ww_sub (lv' := [(0, .ref (ad a0)), (1, .ref (ad a1))]) [0, 1] rfl ?_
  refine ww_aload_n C dX6_init_0 rfl 0 rfl ?_
  refine ww_objinit C dX6_init_1 q424 q133 qObj (Nat.le_of_ble_eq_true rfl) (Nat.le_of_ble_eq_true rfl) (Nat.le_of_ble_eq_true rfl) ?_
  refine ww_aload_n C dX6_init_4 rfl 0 rfl ?_
  refine ww_aload_n C dX6_init_5 rfl 1 rfl ?_
  obtain ⟨T_1, E⟩ := gd_of E
  obtain ⟨T_2, E⟩ := gd_of E
  refine ww_putr (ci := 6) (k0 := 0) C dX6_init_6 HI rfl rfl inm6 tyX6_ok nmX6 (by decide) T_1 T_2 (by decide) q425 rfl rfl (tyX6_ok 0 (by decide)) (fun _ => rfl) (fun _ => rfl) rfl ?_
  refine ww_bdZ E (fun Sk3 dyk3 ek3 E => ?_)
  have mk3 : S.1 ≤ Sk3.1 := by rw [ek3]; exact m0
  have ck3 : clo Sk3 := by rw [ek3]; exact clo_sr hc0 (gs_lt T_2 (by decide)).2
  exact ww_vretN C HR HL dX6_init_9 ck3 mk3 ag0 E
set_option maxRecDepth 100000 in
noncomputable def F_X5_init (a0 : Nat) (a1 : Nat) (a2 : Nat) (S : ST) (dy : DY) : Option (ST × DY) := if gs S a0 = (0, 5) then if gs S a1 = (0, 6) then bdZ (sr S a0 0 a1) (dy) fun Sk3 dyk3 => if gs Sk3 a0 = (0, 5) then if gs Sk3 a2 = (0, 4) then bdZ (sr Sk3 a0 1 a2) (dyk3) fun Sk6 dyk6 => some (Sk6, dyk6) else none else none else none else none
theorem dX5_init_0 : decode cX5_init 0 = .ok (.aload_n 0, 1) := by decide +kernel
theorem dX5_init_1 : decode cX5_init 1 = .ok (.invokespecial 3, 3) := by decide +kernel
theorem dX5_init_4 : decode cX5_init 4 = .ok (.aload_n 0, 1) := by decide +kernel
theorem dX5_init_5 : decode cX5_init 5 = .ok (.aload_n 1, 1) := by decide +kernel
theorem dX5_init_6 : decode cX5_init 6 = .ok (.putfield 9, 3) := by decide +kernel
theorem dX5_init_9 : decode cX5_init 9 = .ok (.aload_n 0, 1) := by decide +kernel
theorem dX5_init_10 : decode cX5_init 10 = .ok (.aload_n 2, 1) := by decide +kernel
theorem dX5_init_11 : decode cX5_init 11 = .ok (.putfield 15, 3) := by decide +kernel
theorem dX5_init_14 : decode cX5_init 14 = .ok (.return_, 1) := by decide +kernel
set_option maxHeartbeats 4000000 in
set_option maxRecDepth 100000 in
theorem M_X5_init (l : Launch) (G : GG) (ad : Nat → Nat) {S : ST} (hc0 : clo S) (a0 : Nat) (a1 : Nat) (a2 : Nat) (dy : DY) {S' : ST} {dy' : DY} (E : F_X5_init a0 a1 a2 S dy = some (S', dy')) : MN l yX5_init cX5_init 3 1 G ad [.ref (ad a0), .ref (ad a1), .ref (ad a2)] S S' dy dy' 0 0 := by
  unfold F_X5_init at E
  have m0 : S.1 ≤ S.1 := Nat.le_refl _
  have ag0 : ∀ x, x ≤ S.1 → ad x = ad x := fun _ _ => rfl
  refine mn_of RX5 (by decide) rfl rfl (Nat.le_of_ble_eq_true rfl) (fun p e s m args below meth c A C HR HL HI => ?_)
  refine ww_sub (lv' := [(0, .ref (ad a0)), (1, .ref (ad a1)), (2, .ref (ad a2))]) [0, 1, 2] rfl ?_
  refine ww_aload_n C dX5_init_0 rfl 0 rfl ?_
  refine ww_objinit C dX5_init_1 q503 q133 qObj (Nat.le_of_ble_eq_true rfl) (Nat.le_of_ble_eq_true rfl) (Nat.le_of_ble_eq_true rfl) ?_
  refine ww_aload_n C dX5_init_4 rfl 0 rfl ?_
  refine ww_aload_n C dX5_init_5 rfl 1 rfl ?_
  obtain ⟨T_1, E⟩ := gd_of E
  obtain ⟨T_2, E⟩ := gd_of E
  refine ww_putr (ci := 5) (k0 := 0) C dX5_init_6 HI rfl rfl inm5 tyX5_ok nmX5 (by decide) T_1 T_2 (by decide) q504 rfl rfl (tyX5_ok 0 (by decide)) (fun _ => rfl) (fun _ => rfl) rfl ?_
  refine ww_bdZ E (fun Sk3 dyk3 ek3 E => ?_)
  have mk3 : S.1 ≤ Sk3.1 := by rw [ek3]; exact m0
  have ck3 : clo Sk3 := by rw [ek3]; exact clo_sr hc0 (gs_lt T_2 (by decide)).2
  refine ww_aload_n C dX5_init_9 rfl 0 rfl ?_
  refine ww_aload_n C dX5_init_10 rfl 2 rfl ?_
  obtain ⟨T_4, E⟩ := gd_of E
  obtain ⟨T_5, E⟩ := gd_of E
  refine ww_putr (ci := 5) (k0 := 1) C dX5_init_11 HI rfl rfl inm5 tyX5_ok nmX5 (by decide) T_4 T_5 (by decide) q505 rfl rfl (tyX5_ok 1 (by decide)) (fun _ => rfl) (fun _ => rfl) rfl ?_
  refine ww_bdZ E (fun Sk6 dyk6 ek6 E => ?_)
  have mk6 : S.1 ≤ Sk6.1 := by rw [ek6]; exact mk3
  have ck6 : clo Sk6 := by rw [ek6]; exact clo_sr ck3 (gs_lt T_5 (by decide)).2
  exact ww_vretN C HR HL dX5_init_14 ck6 mk6 ag0 E
set_option maxRecDepth 100000 in
noncomputable def F_X3_init (a0 : Nat) (a1 : Nat) (a2 : Nat) (S : ST) (dy : DY) : Option (ST × DY) := if gs S a0 = (0, 3) then if gs S a1 = (0, 6) then bdZ (sr S a0 0 a1) (dy) fun Sk3 dyk3 => if gs Sk3 a0 = (0, 3) then if gs Sk3 a2 = (0, 2) then bdZ (sr Sk3 a0 1 a2) (dyk3) fun Sk6 dyk6 => some (Sk6, dyk6) else none else none else none else none
theorem dX3_init_0 : decode cX3_init 0 = .ok (.aload_n 0, 1) := by decide +kernel
theorem dX3_init_1 : decode cX3_init 1 = .ok (.invokespecial 3, 3) := by decide +kernel
theorem dX3_init_4 : decode cX3_init 4 = .ok (.aload_n 0, 1) := by decide +kernel
theorem dX3_init_5 : decode cX3_init 5 = .ok (.aload_n 1, 1) := by decide +kernel
theorem dX3_init_6 : decode cX3_init 6 = .ok (.putfield 9, 3) := by decide +kernel
theorem dX3_init_9 : decode cX3_init 9 = .ok (.aload_n 0, 1) := by decide +kernel
theorem dX3_init_10 : decode cX3_init 10 = .ok (.aload_n 2, 1) := by decide +kernel
theorem dX3_init_11 : decode cX3_init 11 = .ok (.putfield 15, 3) := by decide +kernel
theorem dX3_init_14 : decode cX3_init 14 = .ok (.return_, 1) := by decide +kernel
set_option maxHeartbeats 4000000 in
set_option maxRecDepth 100000 in
theorem M_X3_init (l : Launch) (G : GG) (ad : Nat → Nat) {S : ST} (hc0 : clo S) (a0 : Nat) (a1 : Nat) (a2 : Nat) (dy : DY) {S' : ST} {dy' : DY} (E : F_X3_init a0 a1 a2 S dy = some (S', dy')) : MN l yX3_init cX3_init 3 1 G ad [.ref (ad a0), .ref (ad a1), .ref (ad a2)] S S' dy dy' 0 0 := by
  unfold F_X3_init at E
  have m0 : S.1 ≤ S.1 := Nat.le_refl _
  have ag0 : ∀ x, x ≤ S.1 → ad x = ad x := fun _ _ => rfl
  refine mn_of RX3 (by decide) rfl rfl (Nat.le_of_ble_eq_true rfl) (fun p e s m args below meth c A C HR HL HI => ?_)
  refine ww_sub (lv' := [(0, .ref (ad a0)), (1, .ref (ad a1)), (2, .ref (ad a2))]) [0, 1, 2] rfl ?_
  refine ww_aload_n C dX3_init_0 rfl 0 rfl ?_
  refine ww_objinit C dX3_init_1 q516 q133 qObj (Nat.le_of_ble_eq_true rfl) (Nat.le_of_ble_eq_true rfl) (Nat.le_of_ble_eq_true rfl) ?_
  refine ww_aload_n C dX3_init_4 rfl 0 rfl ?_
  refine ww_aload_n C dX3_init_5 rfl 1 rfl ?_
  obtain ⟨T_1, E⟩ := gd_of E
  obtain ⟨T_2, E⟩ := gd_of E
  refine ww_putr (ci := 3) (k0 := 0) C dX3_init_6 HI rfl rfl inm3 tyX3_ok nmX3 (by decide) T_1 T_2 (by decide) q517 rfl rfl (tyX3_ok 0 (by decide)) (fun _ => rfl) (fun _ => rfl) rfl ?_
  refine ww_bdZ E (fun Sk3 dyk3 ek3 E => ?_)
  have mk3 : S.1 ≤ Sk3.1 := by rw [ek3]; exact m0
  have ck3 : clo Sk3 := by rw [ek3]; exact clo_sr hc0 (gs_lt T_2 (by decide)).2
  refine ww_aload_n C dX3_init_9 rfl 0 rfl ?_
  refine ww_aload_n C dX3_init_10 rfl 2 rfl ?_
  obtain ⟨T_4, E⟩ := gd_of E
  obtain ⟨T_5, E⟩ := gd_of E
  refine ww_putr (ci := 3) (k0 := 1) C dX3_init_11 HI rfl rfl inm3 tyX3_ok nmX3 (by decide) T_4 T_5 (by decide) q518 rfl rfl (tyX3_ok 1 (by decide)) (fun _ => rfl) (fun _ => rfl) rfl ?_
  refine ww_bdZ E (fun Sk6 dyk6 ek6 E => ?_)
  have mk6 : S.1 ≤ Sk6.1 := by rw [ek6]; exact mk3
  have ck6 : clo Sk6 := by rw [ek6]; exact clo_sr ck3 (gs_lt T_5 (by decide)).2
  exact ww_vretN C HR HL dX3_init_14 ck6 mk6 ag0 E
