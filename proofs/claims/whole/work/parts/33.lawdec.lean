/-! THE CLAIM OUT OF ONE WALK OF THE LAW'S BODY. Your part is whole_start (and what it stands on); all else here is the same for every law, but numbers. -/
def R_law : String := "PavementWalkLaw"
def lw_P (b : Addr) (xs : List Int32) (args : Array Value) (s : State) : Prop := args = #[.ref b] ∧ s.IntsAt b xs ∧ xs.length ≤ 3584 ∧ (Jvm.Cond.and given_1 narrow_1).before args s = true
def lw_Q (_ : Array Value) (s : State) (o : Outcome) (t : State) : Prop := o = .returned (some (.int 1)) ∧ Framed s o t [] 600000 7302250
def lw_Z (below : List Frame) (a : Array Value) (s : State) : State → Prop := fun t => ∃ o, t.status = .running ∧ Ended t below o ∧ lw_Q a s o t
/-- the law's own end, with 1 on the stack, nothing written that was there before, its room as the claim has it -/
theorem lw_ret {p : Program} {l : Launch} {e : Env} {s : State} {m : MethodId} {below : List Frame} {meth : Method} {c : Code} {b : Nat} (hx : p.tables.exec = Jvm.exec) (hb : c.code = code) (hr : meth.sig.returnType = ret) (hlocks : meth.locks = false) {pc : Nat} {H : Heap} {ls : Array Slot} (hdg : decode code pc = .ok (.ireturn, 1)) : W p l e room_1 s m #[Value.ref b] below meth c H [] 600000 7302250 (lw_Z below #[Value.ref b] s) (F0 m pc ls [.int 1]) := by
  intro T hT X
  obtain ⟨fs, hret, hrun, hended, hW, hframe⟩ := X.leave (v := some (.int 1)) (hlocks := hlocks) (fun h => by rw [hr] at h; cases h)
  have hmeth' : T.vm.method? m = some meth := X.method'
  refine ⟨T.setFrames fs, ?_, .returned (some (.int 1)), hrun, hended, rfl, ⟨_, rfl⟩, hW, hframe⟩
  jvm_step X.here [X.here.top, hx, hb, hdg, hmeth', hr, ret, narrow_b1]
  (try refine ⟨rfl, ?_⟩); (try refine ⟨rfl, ?_⟩)
  first | (intro acts; rw [hret _ acts rfl rfl rfl]) | rw [hret _ _ rfl rfl rfl]
  exact Steps.refl _
/-- what holds at the law's entry: the machine, the code, the tables' words (any of lw_tbl by 'hts w (by decide +kernel)'), the script of L ints xs at the cell b, what the Statement gives of the start (any of its parts by flat_of_before) -/
def lw_At (p : Program) (s : State) (m : MethodId) (meth : Method) (c : Code) (b L : Nat) (xs : Nat → Int32) : Prop :=
  p.tables.exec = Jvm.exec ∧ c.code = code ∧ meth.sig.returnType = ret ∧ c.maxLocals = 4 ∧ s.vm.findClass R_law = some m.cls ∧ (∀ w ∈ lw_tbl, w.before #[Value.ref b] s = true) ∧ va_X b L xs s s.heap ∧ b < s.heap.size ∧ meth.locks = false ∧ (Jvm.Cond.and given_1 narrow_1).before #[Value.ref b] s = true
/-! the law itself: its loop, and its end -/
theorem q555 : Cond.methodLink RL 13 yX9_feed ∈ mw := mw_c tn_2_13 0 rfl rfl
theorem q556 : Cond.instanceMethod yX9_feed ∈ mw := mw_c tn_2_13 1 rfl rfl
theorem q557 : Cond.selects RX9 yX9_feed yX9_feed ∈ mw := mw_c tn_2_13 2 rfl rfl
theorem q558 : Cond.code yX9_feed cX9_feed 6 (Option.some Jvm.ClassFile.FieldType.int) ∈ mw := mw_c tn_2_13 3 rfl rfl
theorem q563 : Cond.methodLink RL 18 yX9_end ∈ mw := mw_c tn_2_13 8 rfl rfl
theorem q564 : Cond.instanceMethod yX9_end ∈ mw := mw_c tn_2_13 9 rfl rfl
theorem q565 : Cond.selects RX9 yX9_end yX9_end ∈ mw := mw_c tn_2_13 10 rfl rfl
theorem q566 : Cond.code yX9_end cX9_end 2 (Option.some Jvm.ClassFile.FieldType.int) ∈ mw := mw_c tn_2_13 11 rfl rfl
theorem q567 : Cond.methodLink RL 23 yX9_passage ∈ mw := mw_c tn_2_13 12 rfl rfl
theorem q568 : Cond.instanceMethod yX9_passage ∈ mw := mw_c tn_2_13 13 rfl rfl
theorem q569 : Cond.selects RX9 yX9_passage yX9_passage ∈ mw := mw_c tn_2_13 14 rfl rfl
theorem q570 : Cond.code yX9_passage cX9_passage 5 (Option.some Jvm.ClassFile.FieldType.int) ∈ mw := mw_c tn_2_13 15 rfl rfl
theorem q792 : Cond.methodLink RL 27 yX9_law ∈ mw := mw_c tn_3_12 13 rfl rfl
theorem q793 : Cond.instanceMethod yX9_law ∈ mw := mw_c tn_3_12 14 rfl rfl
theorem q794 : Cond.selects RX9 yX9_law yX9_law ∈ mw := mw_c tn_3_12 15 rfl rfl
theorem q795 : Cond.code yX9_law cX9_law 5 (Option.some Jvm.ClassFile.FieldType.int) ∈ mw := mw_c tn_3_13 0 rfl rfl
theorem q873 : Cond.methodLink RL 31 yX9_fault ∈ mw := mw_c tn_4_2 14 rfl rfl
theorem q874 : Cond.instanceMethod yX9_fault ∈ mw := mw_c tn_4_2 15 rfl rfl
theorem q875 : Cond.selects RX9 yX9_fault yX9_fault ∈ mw := mw_c tn_4_3 0 rfl rfl
theorem q876 : Cond.code yX9_fault cX9_fault 2 (Option.some Jvm.ClassFile.FieldType.int) ∈ mw := mw_c tn_4_3 1 rfl rfl
theorem q877 : Cond.methodLink RL 35 yX9_about ∈ mw := mw_c tn_4_3 2 rfl rfl
theorem q878 : Cond.instanceMethod yX9_about ∈ mw := mw_c tn_4_3 3 rfl rfl
theorem q879 : Cond.selects RX9 yX9_about yX9_about ∈ mw := mw_c tn_4_3 4 rfl rfl
theorem q880 : Cond.code yX9_about cX9_about 4 (Option.some Jvm.ClassFile.FieldType.int) ∈ mw := mw_c tn_4_3 5 rfl rfl
theorem q885 : Cond.methodLink RL 40 yX9_walker ∈ mw := mw_c tn_4_3 10 rfl rfl
theorem q886 : Cond.instanceMethod yX9_walker ∈ mw := mw_c tn_4_3 11 rfl rfl
theorem q887 : Cond.selects RX9 yX9_walker yX9_walker ∈ mw := mw_c tn_4_3 12 rfl rfl
theorem q888 : Cond.code yX9_walker cX9_walker 5 (Option.some Jvm.ClassFile.FieldType.int) ∈ mw := mw_c tn_4_3 13 rfl rfl
theorem q890 : Cond.methodLink RL 45 yX9_rules ∈ mw := mw_c tn_4_3 15 rfl rfl
theorem q891 : Cond.instanceMethod yX9_rules ∈ mw := mw_c tn_4_4 0 rfl rfl
theorem q892 : Cond.selects RX9 yX9_rules yX9_rules ∈ mw := mw_c tn_4_4 1 rfl rfl
theorem q893 : Cond.code yX9_rules cX9_rules 3 (Option.some Jvm.ClassFile.FieldType.int) ∈ mw := mw_c tn_4_4 2 rfl rfl
theorem q898 : Cond.methodLink RL 49 yX9_run ∈ mw := mw_c tn_4_4 7 rfl rfl
theorem q899 : Cond.instanceMethod yX9_run ∈ mw := mw_c tn_4_4 8 rfl rfl
theorem q900 : Cond.selects RX9 yX9_run yX9_run ∈ mw := mw_c tn_4_4 9 rfl rfl
theorem q901 : Cond.code yX9_run cX9_run 6 (Option.some Jvm.ClassFile.FieldType.boolean) ∈ mw := mw_c tn_4_4 10 rfl rfl
theorem q916 : Cond.methodLink RL 54 yX9_go ∈ mw := mw_c tn_4_5 9 rfl rfl
theorem q917 : Cond.instanceMethod yX9_go ∈ mw := mw_c tn_4_5 10 rfl rfl
theorem q918 : Cond.selects RX9 yX9_go yX9_go ∈ mw := mw_c tn_4_5 11 rfl rfl
theorem q919 : Cond.code yX9_go cX9_go 4 (Option.some Jvm.ClassFile.FieldType.int) ∈ mw := mw_c tn_4_5 12 rfl rfl
theorem q1008 : Cond.methodLink RL 58 yX9_ran ∈ mw := mw_c tn_4_11 5 rfl rfl
theorem q1009 : Cond.instanceMethod yX9_ran ∈ mw := mw_c tn_4_11 6 rfl rfl
theorem q1010 : Cond.selects RX9 yX9_ran yX9_ran ∈ mw := mw_c tn_4_11 7 rfl rfl
theorem q1011 : Cond.code yX9_ran cX9_ran 4 (Option.some Jvm.ClassFile.FieldType.int) ∈ mw := mw_c tn_4_11 8 rfl rfl
theorem q1012 : Cond.methodLink RL 62 yX9_finds ∈ mw := mw_c tn_4_11 9 rfl rfl
theorem q1013 : Cond.instanceMethod yX9_finds ∈ mw := mw_c tn_4_11 10 rfl rfl
theorem q1014 : Cond.selects RX9 yX9_finds yX9_finds ∈ mw := mw_c tn_4_11 11 rfl rfl
theorem q1015 : Cond.code yX9_finds cX9_finds 3 (Option.some Jvm.ClassFile.FieldType.int) ∈ mw := mw_c tn_4_11 12 rfl rfl
theorem q1018 : Cond.methodLink RL 66 yX9_does ∈ mw := mw_c tn_4_11 15 rfl rfl
theorem q1019 : Cond.instanceMethod yX9_does ∈ mw := mw_c tn_4_12 0 rfl rfl
theorem q1020 : Cond.selects RX9 yX9_does yX9_does ∈ mw := mw_c tn_4_12 1 rfl rfl
theorem q1021 : Cond.code yX9_does cX9_does 3 (Option.some Jvm.ClassFile.FieldType.int) ∈ mw := mw_c tn_4_12 2 rfl rfl
theorem q1023 : Cond.methodLink RL 70 yX9_on ∈ mw := mw_c tn_4_12 4 rfl rfl
theorem q1024 : Cond.instanceMethod yX9_on ∈ mw := mw_c tn_4_12 5 rfl rfl
theorem q1025 : Cond.selects RX9 yX9_on yX9_on ∈ mw := mw_c tn_4_12 6 rfl rfl
theorem q1026 : Cond.code yX9_on cX9_on 3 (Option.some Jvm.ClassFile.FieldType.int) ∈ mw := mw_c tn_4_12 7 rfl rfl
theorem q1029 : Cond.methodLink RL 74 yX9_state ∈ mw := mw_c tn_4_12 10 rfl rfl
theorem q1030 : Cond.instanceMethod yX9_state ∈ mw := mw_c tn_4_12 11 rfl rfl
theorem q1031 : Cond.selects RX9 yX9_state yX9_state ∈ mw := mw_c tn_4_12 12 rfl rfl
theorem q1032 : Cond.code yX9_state cX9_state 3 (Option.some Jvm.ClassFile.FieldType.int) ∈ mw := mw_c tn_4_12 13 rfl rfl
theorem q1045 : Cond.methodLink RL 78 yX9_door ∈ mw := mw_c tn_4_13 10 rfl rfl
theorem q1046 : Cond.instanceMethod yX9_door ∈ mw := mw_c tn_4_13 11 rfl rfl
theorem q1047 : Cond.selects RX9 yX9_door yX9_door ∈ mw := mw_c tn_4_13 12 rfl rfl
theorem q1048 : Cond.code yX9_door cX9_door 3 (Option.some Jvm.ClassFile.FieldType.int) ∈ mw := mw_c tn_4_13 13 rfl rfl
theorem q1053 : Cond.methodLink RL 82 yX9_two ∈ mw := mw_c tn_4_14 2 rfl rfl
theorem q1054 : Cond.instanceMethod yX9_two ∈ mw := mw_c tn_4_14 3 rfl rfl
theorem q1055 : Cond.selects RX9 yX9_two yX9_two ∈ mw := mw_c tn_4_14 4 rfl rfl
theorem q1056 : Cond.code yX9_two cX9_two 6 (Option.some Jvm.ClassFile.FieldType.int) ∈ mw := mw_c tn_4_14 5 rfl rfl
theorem q1102 : Cond.methodLink RL 87 yX9_fullest ∈ mw := mw_c tn_5_2 3 rfl rfl
theorem q1103 : Cond.instanceMethod yX9_fullest ∈ mw := mw_c tn_5_2 4 rfl rfl
theorem q1104 : Cond.selects RX9 yX9_fullest yX9_fullest ∈ mw := mw_c tn_5_2 5 rfl rfl
theorem q1105 : Cond.code yX9_fullest cX9_fullest 7 (Option.some Jvm.ClassFile.FieldType.int) ∈ mw := mw_c tn_5_2 6 rfl rfl
theorem q1117 : Cond.methodLink RL 91 yX9_pillar ∈ mw := mw_c tn_5_3 2 rfl rfl
theorem q1118 : Cond.instanceMethod yX9_pillar ∈ mw := mw_c tn_5_3 3 rfl rfl
theorem q1119 : Cond.selects RX9 yX9_pillar yX9_pillar ∈ mw := mw_c tn_5_3 4 rfl rfl
theorem q1120 : Cond.code yX9_pillar cX9_pillar 5 (Option.some Jvm.ClassFile.FieldType.int) ∈ mw := mw_c tn_5_3 5 rfl rfl
theorem q1127 : Cond.methodLink RL 95 yX9_cost ∈ mw := mw_c tn_5_3 12 rfl rfl
theorem q1128 : Cond.instanceMethod yX9_cost ∈ mw := mw_c tn_5_3 13 rfl rfl
theorem q1129 : Cond.selects RX9 yX9_cost yX9_cost ∈ mw := mw_c tn_5_3 14 rfl rfl
theorem q1130 : Cond.code yX9_cost cX9_cost 7 (Option.some Jvm.ClassFile.FieldType.int) ∈ mw := mw_c tn_5_3 15 rfl rfl
theorem q1140 : Cond.methodLink RL 99 yX9_better ∈ mw := mw_c tn_5_4 9 rfl rfl
theorem q1141 : Cond.instanceMethod yX9_better ∈ mw := mw_c tn_5_4 10 rfl rfl
theorem q1142 : Cond.selects RX9 yX9_better yX9_better ∈ mw := mw_c tn_5_4 11 rfl rfl
theorem q1143 : Cond.code yX9_better cX9_better 8 (Option.some Jvm.ClassFile.FieldType.int) ∈ mw := mw_c tn_5_4 12 rfl rfl
theorem q1144 : Cond.methodLink RL 103 yX9_flow ∈ mw := mw_c tn_5_4 13 rfl rfl
theorem q1145 : Cond.instanceMethod yX9_flow ∈ mw := mw_c tn_5_4 14 rfl rfl
theorem q1146 : Cond.selects RX9 yX9_flow yX9_flow ∈ mw := mw_c tn_5_4 15 rfl rfl
theorem q1147 : Cond.code yX9_flow cX9_flow 5 (Option.some Jvm.ClassFile.FieldType.int) ∈ mw := mw_c tn_5_5 0 rfl rfl
theorem q1152 : Cond.methodLink RL 107 yX9_touch ∈ mw := mw_c tn_5_5 5 rfl rfl
theorem q1153 : Cond.instanceMethod yX9_touch ∈ mw := mw_c tn_5_5 6 rfl rfl
theorem q1154 : Cond.selects RX9 yX9_touch yX9_touch ∈ mw := mw_c tn_5_5 7 rfl rfl
theorem q1155 : Cond.code yX9_touch cX9_touch 8 (Option.some Jvm.ClassFile.FieldType.int) ∈ mw := mw_c tn_5_5 8 rfl rfl
theorem q1160 : Cond.methodLink RL 112 yX9_slack ∈ mw := mw_c tn_5_5 13 rfl rfl
theorem q1161 : Cond.instanceMethod yX9_slack ∈ mw := mw_c tn_5_5 14 rfl rfl
theorem q1162 : Cond.selects RX9 yX9_slack yX9_slack ∈ mw := mw_c tn_5_5 15 rfl rfl
theorem q1163 : Cond.code yX9_slack cX9_slack 7 (Option.some Jvm.ClassFile.FieldType.int) ∈ mw := mw_c tn_5_6 0 rfl rfl
theorem q1164 : Cond.methodLink RL 116 yX9_opened ∈ mw := mw_c tn_5_6 1 rfl rfl
theorem q1165 : Cond.instanceMethod yX9_opened ∈ mw := mw_c tn_5_6 2 rfl rfl
theorem q1166 : Cond.selects RX9 yX9_opened yX9_opened ∈ mw := mw_c tn_5_6 3 rfl rfl
theorem q1167 : Cond.code yX9_opened cX9_opened 5 (Option.some Jvm.ClassFile.FieldType.int) ∈ mw := mw_c tn_5_6 4 rfl rfl
theorem q1168 : Cond.methodLink RL 120 yX9_fits ∈ mw := mw_c tn_5_6 5 rfl rfl
theorem q1169 : Cond.instanceMethod yX9_fits ∈ mw := mw_c tn_5_6 6 rfl rfl
theorem q1170 : Cond.selects RX9 yX9_fits yX9_fits ∈ mw := mw_c tn_5_6 7 rfl rfl
theorem q1171 : Cond.code yX9_fits cX9_fits 6 (Option.some Jvm.ClassFile.FieldType.int) ∈ mw := mw_c tn_5_6 8 rfl rfl
theorem q1184 : Cond.methodLink RL 124 yX9_hat ∈ mw := mw_c tn_5_7 5 rfl rfl
theorem q1185 : Cond.instanceMethod yX9_hat ∈ mw := mw_c tn_5_7 6 rfl rfl
theorem q1186 : Cond.selects RX9 yX9_hat yX9_hat ∈ mw := mw_c tn_5_7 7 rfl rfl
theorem q1187 : Cond.code yX9_hat cX9_hat 5 (Option.some Jvm.ClassFile.FieldType.int) ∈ mw := mw_c tn_5_7 8 rfl rfl
theorem q1195 : Cond.methodLink RL 128 yX9_dark ∈ mw := mw_c tn_5_8 0 rfl rfl
theorem q1196 : Cond.instanceMethod yX9_dark ∈ mw := mw_c tn_5_8 1 rfl rfl
theorem q1197 : Cond.selects RX9 yX9_dark yX9_dark ∈ mw := mw_c tn_5_8 2 rfl rfl
theorem q1198 : Cond.code yX9_dark cX9_dark 3 (Option.some Jvm.ClassFile.FieldType.int) ∈ mw := mw_c tn_5_8 3 rfl rfl
theorem q1199 : Cond.methodLink RL 133 yX9_match ∈ mw := mw_c tn_5_8 4 rfl rfl
theorem q1200 : Cond.instanceMethod yX9_match ∈ mw := mw_c tn_5_8 5 rfl rfl
theorem q1201 : Cond.selects RX9 yX9_match yX9_match ∈ mw := mw_c tn_5_8 6 rfl rfl
theorem q1202 : Cond.code yX9_match cX9_match 4 (Option.some Jvm.ClassFile.FieldType.int) ∈ mw := mw_c tn_5_8 7 rfl rfl
theorem q1231 : Cond.methodLink RL 137 yX9_worth ∈ mw := mw_c tn_5_10 4 rfl rfl
theorem q1232 : Cond.instanceMethod yX9_worth ∈ mw := mw_c tn_5_10 5 rfl rfl
theorem q1233 : Cond.selects RX9 yX9_worth yX9_worth ∈ mw := mw_c tn_5_10 6 rfl rfl
theorem q1234 : Cond.code yX9_worth cX9_worth 3 (Option.some Jvm.ClassFile.FieldType.int) ∈ mw := mw_c tn_5_10 7 rfl rfl
theorem q1235 : Cond.methodLink RL 141 yX9_track ∈ mw := mw_c tn_5_10 8 rfl rfl
theorem q1236 : Cond.instanceMethod yX9_track ∈ mw := mw_c tn_5_10 9 rfl rfl
theorem q1237 : Cond.selects RX9 yX9_track yX9_track ∈ mw := mw_c tn_5_10 10 rfl rfl
theorem q1238 : Cond.code yX9_track cX9_track 8 (Option.some Jvm.ClassFile.FieldType.int) ∈ mw := mw_c tn_5_10 11 rfl rfl
theorem q1239 : Cond.methodLink RL 145 yX9_habit ∈ mw := mw_c tn_5_10 12 rfl rfl
theorem q1240 : Cond.instanceMethod yX9_habit ∈ mw := mw_c tn_5_10 13 rfl rfl
theorem q1241 : Cond.selects RX9 yX9_habit yX9_habit ∈ mw := mw_c tn_5_10 14 rfl rfl
theorem q1242 : Cond.code yX9_habit cX9_habit 9 (Option.some Jvm.ClassFile.FieldType.long) ∈ mw := mw_c tn_5_10 15 rfl rfl
theorem q1249 : Cond.methodLink RL 150 yX9_count ∈ mw := mw_c tn_5_11 6 rfl rfl
theorem q1250 : Cond.instanceMethod yX9_count ∈ mw := mw_c tn_5_11 7 rfl rfl
theorem q1251 : Cond.selects RX9 yX9_count yX9_count ∈ mw := mw_c tn_5_11 8 rfl rfl
theorem q1252 : Cond.code yX9_count cX9_count 2 (Option.some Jvm.ClassFile.FieldType.int) ∈ mw := mw_c tn_5_11 9 rfl rfl
theorem q1253 : Cond.methodLink RL 154 yX9_image ∈ mw := mw_c tn_5_11 10 rfl rfl
theorem q1254 : Cond.instanceMethod yX9_image ∈ mw := mw_c tn_5_11 11 rfl rfl
theorem q1255 : Cond.selects RX9 yX9_image yX9_image ∈ mw := mw_c tn_5_11 12 rfl rfl
theorem q1256 : Cond.code yX9_image cX9_image 2 (Option.some Jvm.ClassFile.FieldType.boolean) ∈ mw := mw_c tn_5_11 13 rfl rfl
theorem q1268 : Cond.methodLink RL 159 yX9_again ∈ mw := mw_c tn_5_12 9 rfl rfl
theorem q1269 : Cond.instanceMethod yX9_again ∈ mw := mw_c tn_5_12 10 rfl rfl
theorem q1270 : Cond.selects RX9 yX9_again yX9_again ∈ mw := mw_c tn_5_12 11 rfl rfl
theorem q1271 : Cond.code yX9_again cX9_again 2 (Option.some Jvm.ClassFile.FieldType.boolean) ∈ mw := mw_c tn_5_12 12 rfl rfl
theorem q1462 : Cond.methodLink RL 17 yX10_feed ∈ mw := mw_c tn_6_9 11 rfl rfl
theorem q1463 : Cond.instanceMethod yX10_feed ∈ mw := mw_c tn_6_9 12 rfl rfl
theorem q1464 : Cond.selects RX10 yX10_feed yX10_feed ∈ mw := mw_c tn_6_9 13 rfl rfl
theorem q1465 : Cond.code yX10_feed cX10_feed 6 (Option.some Jvm.ClassFile.FieldType.int) ∈ mw := mw_c tn_6_9 14 rfl rfl
theorem q1470 : Cond.methodLink RL 22 yX10_end ∈ mw := mw_c tn_6_10 3 rfl rfl
theorem q1471 : Cond.instanceMethod yX10_end ∈ mw := mw_c tn_6_10 4 rfl rfl
theorem q1472 : Cond.selects RX10 yX10_end yX10_end ∈ mw := mw_c tn_6_10 5 rfl rfl
theorem q1473 : Cond.code yX10_end cX10_end 2 (Option.some Jvm.ClassFile.FieldType.int) ∈ mw := mw_c tn_6_10 6 rfl rfl
theorem q1477 : Cond.methodLink RL 26 yX10_passage ∈ mw := mw_c tn_6_10 10 rfl rfl
theorem q1478 : Cond.instanceMethod yX10_passage ∈ mw := mw_c tn_6_10 11 rfl rfl
theorem q1479 : Cond.selects RX10 yX10_passage yX10_passage ∈ mw := mw_c tn_6_10 12 rfl rfl
theorem q1480 : Cond.code yX10_passage cX10_passage 6 (Option.some Jvm.ClassFile.FieldType.int) ∈ mw := mw_c tn_6_10 13 rfl rfl
theorem q1580 : Cond.methodLink RL 30 yX10_law ∈ mw := mw_c tn_7_2 1 rfl rfl
theorem q1581 : Cond.instanceMethod yX10_law ∈ mw := mw_c tn_7_2 2 rfl rfl
theorem q1582 : Cond.selects RX10 yX10_law yX10_law ∈ mw := mw_c tn_7_2 3 rfl rfl
theorem q1583 : Cond.code yX10_law cX10_law 5 (Option.some Jvm.ClassFile.FieldType.int) ∈ mw := mw_c tn_7_2 4 rfl rfl
theorem q1618 : Cond.methodLink RL 34 yX10_fault ∈ mw := mw_c tn_7_4 7 rfl rfl
theorem q1619 : Cond.instanceMethod yX10_fault ∈ mw := mw_c tn_7_4 8 rfl rfl
theorem q1620 : Cond.selects RX10 yX10_fault yX10_fault ∈ mw := mw_c tn_7_4 9 rfl rfl
theorem q1621 : Cond.code yX10_fault cX10_fault 2 (Option.some Jvm.ClassFile.FieldType.int) ∈ mw := mw_c tn_7_4 10 rfl rfl
theorem q1622 : Cond.methodLink RL 39 yX10_about ∈ mw := mw_c tn_7_4 11 rfl rfl
theorem q1623 : Cond.instanceMethod yX10_about ∈ mw := mw_c tn_7_4 12 rfl rfl
theorem q1624 : Cond.selects RX10 yX10_about yX10_about ∈ mw := mw_c tn_7_4 13 rfl rfl
theorem q1625 : Cond.code yX10_about cX10_about 3 (Option.some Jvm.ClassFile.FieldType.int) ∈ mw := mw_c tn_7_4 14 rfl rfl
theorem q1626 : Cond.methodLink RL 44 yX10_walker ∈ mw := mw_c tn_7_4 15 rfl rfl
theorem q1627 : Cond.instanceMethod yX10_walker ∈ mw := mw_c tn_7_5 0 rfl rfl
theorem q1628 : Cond.selects RX10 yX10_walker yX10_walker ∈ mw := mw_c tn_7_5 1 rfl rfl
theorem q1629 : Cond.code yX10_walker cX10_walker 4 (Option.some Jvm.ClassFile.FieldType.int) ∈ mw := mw_c tn_7_5 2 rfl rfl
theorem q1630 : Cond.methodLink RL 48 yX10_rules ∈ mw := mw_c tn_7_5 3 rfl rfl
theorem q1631 : Cond.instanceMethod yX10_rules ∈ mw := mw_c tn_7_5 4 rfl rfl
theorem q1632 : Cond.selects RX10 yX10_rules yX10_rules ∈ mw := mw_c tn_7_5 5 rfl rfl
theorem q1633 : Cond.code yX10_rules cX10_rules 2 (Option.some Jvm.ClassFile.FieldType.int) ∈ mw := mw_c tn_7_5 6 rfl rfl
theorem q1634 : Cond.methodLink RL 53 yX10_run ∈ mw := mw_c tn_7_5 7 rfl rfl
theorem q1635 : Cond.instanceMethod yX10_run ∈ mw := mw_c tn_7_5 8 rfl rfl
theorem q1636 : Cond.selects RX10 yX10_run yX10_run ∈ mw := mw_c tn_7_5 9 rfl rfl
theorem q1637 : Cond.code yX10_run cX10_run 4 (Option.some Jvm.ClassFile.FieldType.boolean) ∈ mw := mw_c tn_7_5 10 rfl rfl
theorem q1645 : Cond.methodLink RL 57 yX10_go ∈ mw := mw_c tn_7_6 2 rfl rfl
theorem q1646 : Cond.instanceMethod yX10_go ∈ mw := mw_c tn_7_6 3 rfl rfl
theorem q1647 : Cond.selects RX10 yX10_go yX10_go ∈ mw := mw_c tn_7_6 4 rfl rfl
theorem q1648 : Cond.code yX10_go cX10_go 4 (Option.some Jvm.ClassFile.FieldType.int) ∈ mw := mw_c tn_7_6 5 rfl rfl
theorem q1742 : Cond.methodLink RL 61 yX10_ran ∈ mw := mw_c tn_7_12 3 rfl rfl
theorem q1743 : Cond.instanceMethod yX10_ran ∈ mw := mw_c tn_7_12 4 rfl rfl
theorem q1744 : Cond.selects RX10 yX10_ran yX10_ran ∈ mw := mw_c tn_7_12 5 rfl rfl
theorem q1745 : Cond.code yX10_ran cX10_ran 4 (Option.some Jvm.ClassFile.FieldType.int) ∈ mw := mw_c tn_7_12 6 rfl rfl
theorem q1750 : Cond.methodLink RL 65 yX10_finds ∈ mw := mw_c tn_7_12 11 rfl rfl
theorem q1751 : Cond.instanceMethod yX10_finds ∈ mw := mw_c tn_7_12 12 rfl rfl
theorem q1752 : Cond.selects RX10 yX10_finds yX10_finds ∈ mw := mw_c tn_7_12 13 rfl rfl
theorem q1753 : Cond.code yX10_finds cX10_finds 3 (Option.some Jvm.ClassFile.FieldType.int) ∈ mw := mw_c tn_7_12 14 rfl rfl
theorem q1754 : Cond.methodLink RL 69 yX10_does ∈ mw := mw_c tn_7_12 15 rfl rfl
theorem q1755 : Cond.instanceMethod yX10_does ∈ mw := mw_c tn_7_13 0 rfl rfl
theorem q1756 : Cond.selects RX10 yX10_does yX10_does ∈ mw := mw_c tn_7_13 1 rfl rfl
theorem q1757 : Cond.code yX10_does cX10_does 2 (Option.some Jvm.ClassFile.FieldType.int) ∈ mw := mw_c tn_7_13 2 rfl rfl
theorem q1758 : Cond.methodLink RL 73 yX10_on ∈ mw := mw_c tn_7_13 3 rfl rfl
theorem q1759 : Cond.instanceMethod yX10_on ∈ mw := mw_c tn_7_13 4 rfl rfl
theorem q1760 : Cond.selects RX10 yX10_on yX10_on ∈ mw := mw_c tn_7_13 5 rfl rfl
theorem q1761 : Cond.code yX10_on cX10_on 4 (Option.some Jvm.ClassFile.FieldType.int) ∈ mw := mw_c tn_7_13 6 rfl rfl
theorem q1762 : Cond.methodLink RL 77 yX10_state ∈ mw := mw_c tn_7_13 7 rfl rfl
theorem q1763 : Cond.instanceMethod yX10_state ∈ mw := mw_c tn_7_13 8 rfl rfl
theorem q1764 : Cond.selects RX10 yX10_state yX10_state ∈ mw := mw_c tn_7_13 9 rfl rfl
theorem q1765 : Cond.code yX10_state cX10_state 2 (Option.some Jvm.ClassFile.FieldType.int) ∈ mw := mw_c tn_7_13 10 rfl rfl
theorem q1774 : Cond.methodLink RL 81 yX10_door ∈ mw := mw_c tn_7_14 3 rfl rfl
theorem q1775 : Cond.instanceMethod yX10_door ∈ mw := mw_c tn_7_14 4 rfl rfl
theorem q1776 : Cond.selects RX10 yX10_door yX10_door ∈ mw := mw_c tn_7_14 5 rfl rfl
theorem q1777 : Cond.code yX10_door cX10_door 4 (Option.some Jvm.ClassFile.FieldType.int) ∈ mw := mw_c tn_7_14 6 rfl rfl
theorem q1778 : Cond.methodLink RL 86 yX10_two ∈ mw := mw_c tn_7_14 7 rfl rfl
theorem q1779 : Cond.instanceMethod yX10_two ∈ mw := mw_c tn_7_14 8 rfl rfl
theorem q1780 : Cond.selects RX10 yX10_two yX10_two ∈ mw := mw_c tn_7_14 9 rfl rfl
theorem q1781 : Cond.code yX10_two cX10_two 5 (Option.some Jvm.ClassFile.FieldType.int) ∈ mw := mw_c tn_7_14 10 rfl rfl
theorem q1790 : Cond.methodLink RL 90 yX10_fullest ∈ mw := mw_c tn_8_0 3 rfl rfl
theorem q1791 : Cond.instanceMethod yX10_fullest ∈ mw := mw_c tn_8_0 4 rfl rfl
theorem q1792 : Cond.selects RX10 yX10_fullest yX10_fullest ∈ mw := mw_c tn_8_0 5 rfl rfl
theorem q1793 : Cond.code yX10_fullest cX10_fullest 6 (Option.some Jvm.ClassFile.FieldType.int) ∈ mw := mw_c tn_8_0 6 rfl rfl
theorem q1802 : Cond.methodLink RL 94 yX10_pillar ∈ mw := mw_c tn_8_0 15 rfl rfl
theorem q1803 : Cond.instanceMethod yX10_pillar ∈ mw := mw_c tn_8_1 0 rfl rfl
theorem q1804 : Cond.selects RX10 yX10_pillar yX10_pillar ∈ mw := mw_c tn_8_1 1 rfl rfl
theorem q1805 : Cond.code yX10_pillar cX10_pillar 9 (Option.some Jvm.ClassFile.FieldType.int) ∈ mw := mw_c tn_8_1 2 rfl rfl
theorem q1810 : Cond.methodLink RL 98 yX10_cost ∈ mw := mw_c tn_8_1 7 rfl rfl
theorem q1811 : Cond.instanceMethod yX10_cost ∈ mw := mw_c tn_8_1 8 rfl rfl
theorem q1812 : Cond.selects RX10 yX10_cost yX10_cost ∈ mw := mw_c tn_8_1 9 rfl rfl
theorem q1813 : Cond.code yX10_cost cX10_cost 7 (Option.some Jvm.ClassFile.FieldType.int) ∈ mw := mw_c tn_8_1 10 rfl rfl
theorem q1819 : Cond.methodLink RL 102 yX10_better ∈ mw := mw_c tn_8_2 0 rfl rfl
theorem q1820 : Cond.instanceMethod yX10_better ∈ mw := mw_c tn_8_2 1 rfl rfl
theorem q1821 : Cond.selects RX10 yX10_better yX10_better ∈ mw := mw_c tn_8_2 2 rfl rfl
theorem q1822 : Cond.code yX10_better cX10_better 8 (Option.some Jvm.ClassFile.FieldType.int) ∈ mw := mw_c tn_8_2 3 rfl rfl
theorem q1827 : Cond.methodLink RL 106 yX10_flow ∈ mw := mw_c tn_8_2 8 rfl rfl
theorem q1828 : Cond.instanceMethod yX10_flow ∈ mw := mw_c tn_8_2 9 rfl rfl
theorem q1829 : Cond.selects RX10 yX10_flow yX10_flow ∈ mw := mw_c tn_8_2 10 rfl rfl
theorem q1830 : Cond.code yX10_flow cX10_flow 8 (Option.some Jvm.ClassFile.FieldType.int) ∈ mw := mw_c tn_8_2 11 rfl rfl
theorem q1831 : Cond.methodLink RL 111 yX10_touch ∈ mw := mw_c tn_8_2 12 rfl rfl
theorem q1832 : Cond.instanceMethod yX10_touch ∈ mw := mw_c tn_8_2 13 rfl rfl
theorem q1833 : Cond.selects RX10 yX10_touch yX10_touch ∈ mw := mw_c tn_8_2 14 rfl rfl
theorem q1834 : Cond.code yX10_touch cX10_touch 8 (Option.some Jvm.ClassFile.FieldType.int) ∈ mw := mw_c tn_8_2 15 rfl rfl
theorem q1839 : Cond.methodLink RL 115 yX10_slack ∈ mw := mw_c tn_8_3 4 rfl rfl
theorem q1840 : Cond.instanceMethod yX10_slack ∈ mw := mw_c tn_8_3 5 rfl rfl
theorem q1841 : Cond.selects RX10 yX10_slack yX10_slack ∈ mw := mw_c tn_8_3 6 rfl rfl
theorem q1842 : Cond.code yX10_slack cX10_slack 7 (Option.some Jvm.ClassFile.FieldType.int) ∈ mw := mw_c tn_8_3 7 rfl rfl
theorem q1843 : Cond.methodLink RL 119 yX10_opened ∈ mw := mw_c tn_8_3 8 rfl rfl
theorem q1844 : Cond.instanceMethod yX10_opened ∈ mw := mw_c tn_8_3 9 rfl rfl
theorem q1845 : Cond.selects RX10 yX10_opened yX10_opened ∈ mw := mw_c tn_8_3 10 rfl rfl
theorem q1846 : Cond.code yX10_opened cX10_opened 8 (Option.some Jvm.ClassFile.FieldType.int) ∈ mw := mw_c tn_8_3 11 rfl rfl
theorem q1847 : Cond.methodLink RL 123 yX10_fits ∈ mw := mw_c tn_8_3 12 rfl rfl
theorem q1848 : Cond.instanceMethod yX10_fits ∈ mw := mw_c tn_8_3 13 rfl rfl
theorem q1849 : Cond.selects RX10 yX10_fits yX10_fits ∈ mw := mw_c tn_8_3 14 rfl rfl
theorem q1850 : Cond.code yX10_fits cX10_fits 6 (Option.some Jvm.ClassFile.FieldType.int) ∈ mw := mw_c tn_8_3 15 rfl rfl
theorem q1863 : Cond.methodLink RL 127 yX10_hat ∈ mw := mw_c tn_8_4 12 rfl rfl
theorem q1864 : Cond.instanceMethod yX10_hat ∈ mw := mw_c tn_8_4 13 rfl rfl
theorem q1865 : Cond.selects RX10 yX10_hat yX10_hat ∈ mw := mw_c tn_8_4 14 rfl rfl
theorem q1866 : Cond.code yX10_hat cX10_hat 5 (Option.some Jvm.ClassFile.FieldType.int) ∈ mw := mw_c tn_8_4 15 rfl rfl
theorem q1867 : Cond.methodLink RL 132 yX10_dark ∈ mw := mw_c tn_8_5 0 rfl rfl
theorem q1868 : Cond.instanceMethod yX10_dark ∈ mw := mw_c tn_8_5 1 rfl rfl
theorem q1869 : Cond.selects RX10 yX10_dark yX10_dark ∈ mw := mw_c tn_8_5 2 rfl rfl
theorem q1870 : Cond.code yX10_dark cX10_dark 3 (Option.some Jvm.ClassFile.FieldType.int) ∈ mw := mw_c tn_8_5 3 rfl rfl
theorem q1871 : Cond.methodLink RL 136 yX10_match ∈ mw := mw_c tn_8_5 4 rfl rfl
theorem q1872 : Cond.instanceMethod yX10_match ∈ mw := mw_c tn_8_5 5 rfl rfl
theorem q1873 : Cond.selects RX10 yX10_match yX10_match ∈ mw := mw_c tn_8_5 6 rfl rfl
theorem q1874 : Cond.code yX10_match cX10_match 4 (Option.some Jvm.ClassFile.FieldType.int) ∈ mw := mw_c tn_8_5 7 rfl rfl
theorem q1889 : Cond.methodLink RL 140 yX10_worth ∈ mw := mw_c tn_8_6 6 rfl rfl
theorem q1890 : Cond.instanceMethod yX10_worth ∈ mw := mw_c tn_8_6 7 rfl rfl
theorem q1891 : Cond.selects RX10 yX10_worth yX10_worth ∈ mw := mw_c tn_8_6 8 rfl rfl
theorem q1892 : Cond.code yX10_worth cX10_worth 3 (Option.some Jvm.ClassFile.FieldType.int) ∈ mw := mw_c tn_8_6 9 rfl rfl
theorem q1893 : Cond.methodLink RL 144 yX10_track ∈ mw := mw_c tn_8_6 10 rfl rfl
theorem q1894 : Cond.instanceMethod yX10_track ∈ mw := mw_c tn_8_6 11 rfl rfl
theorem q1895 : Cond.selects RX10 yX10_track yX10_track ∈ mw := mw_c tn_8_6 12 rfl rfl
theorem q1896 : Cond.code yX10_track cX10_track 7 (Option.some Jvm.ClassFile.FieldType.int) ∈ mw := mw_c tn_8_6 13 rfl rfl
theorem q1897 : Cond.methodLink RL 149 yX10_habit ∈ mw := mw_c tn_8_6 14 rfl rfl
theorem q1898 : Cond.instanceMethod yX10_habit ∈ mw := mw_c tn_8_6 15 rfl rfl
theorem q1899 : Cond.selects RX10 yX10_habit yX10_habit ∈ mw := mw_c tn_8_7 0 rfl rfl
theorem q1900 : Cond.code yX10_habit cX10_habit 13 (Option.some Jvm.ClassFile.FieldType.long) ∈ mw := mw_c tn_8_7 1 rfl rfl
theorem q1903 : Cond.methodLink RL 153 yX10_count ∈ mw := mw_c tn_8_7 4 rfl rfl
theorem q1904 : Cond.instanceMethod yX10_count ∈ mw := mw_c tn_8_7 5 rfl rfl
theorem q1905 : Cond.selects RX10 yX10_count yX10_count ∈ mw := mw_c tn_8_7 6 rfl rfl
theorem q1906 : Cond.code yX10_count cX10_count 2 (Option.some Jvm.ClassFile.FieldType.int) ∈ mw := mw_c tn_8_7 7 rfl rfl
theorem q1907 : Cond.methodLink RL 158 yX10_image ∈ mw := mw_c tn_8_7 8 rfl rfl
theorem q1908 : Cond.instanceMethod yX10_image ∈ mw := mw_c tn_8_7 9 rfl rfl
theorem q1909 : Cond.selects RX10 yX10_image yX10_image ∈ mw := mw_c tn_8_7 10 rfl rfl
theorem q1910 : Cond.code yX10_image cX10_image 2 (Option.some Jvm.ClassFile.FieldType.boolean) ∈ mw := mw_c tn_8_7 11 rfl rfl
theorem q1918 : Cond.methodLink RL 162 yX10_again ∈ mw := mw_c tn_8_8 3 rfl rfl
theorem q1919 : Cond.instanceMethod yX10_again ∈ mw := mw_c tn_8_8 4 rfl rfl
theorem q1920 : Cond.selects RX10 yX10_again yX10_again ∈ mw := mw_c tn_8_8 5 rfl rfl
theorem q1921 : Cond.code yX10_again cX10_again 2 (Option.some Jvm.ClassFile.FieldType.boolean) ∈ mw := mw_c tn_8_8 6 rfl rfl
theorem dL_law_0 : decode code 0 = .ok (.new 7, 3) := by decide +kernel
theorem dL_law_3 : decode code 3 = .ok (.dup, 1) := by decide +kernel
theorem dL_law_4 : decode code 4 = .ok (.invokespecial 9, 3) := by decide +kernel
theorem dL_law_7 : decode code 7 = .ok (.astore_n 1, 1) := by decide +kernel
theorem dL_law_8 : decode code 8 = .ok (.new 10, 3) := by decide +kernel
theorem dL_law_11 : decode code 11 = .ok (.dup, 1) := by decide +kernel
theorem dL_law_12 : decode code 12 = .ok (.invokespecial 12, 3) := by decide +kernel
theorem dL_law_15 : decode code 15 = .ok (.astore_n 2, 1) := by decide +kernel
theorem dL_law_16 : decode code 16 = .ok (.iconst 0, 1) := by decide +kernel
theorem dL_law_17 : decode code 17 = .ok (.istore_n 3, 1) := by decide +kernel
theorem dL_law_18 : decode code 18 = .ok (.iload_n 3, 1) := by decide +kernel
theorem dL_law_19 : decode code 19 = .ok (.aload_n 0, 1) := by decide +kernel
theorem dL_law_20 : decode code 20 = .ok (.arraylength, 1) := by decide +kernel
theorem dL_law_21 : decode code 21 = .ok (.bipush 7, 2) := by decide +kernel
theorem dL_law_23 : decode code 23 = .ok (.isub, 1) := by decide +kernel
theorem dL_law_24 : decode code 24 = .ok (.if_icmp .gt 1550, 3) := by decide +kernel
theorem dL_law_27 : decode code 27 = .ok (.aload_n 0, 1) := by decide +kernel
theorem dL_law_28 : decode code 28 = .ok (.iload_n 3, 1) := by decide +kernel
theorem dL_law_29 : decode code 29 = .ok (.iaload, 1) := by decide +kernel
theorem dL_law_30 : decode code 30 = .ok (.bipush 63, 2) := by decide +kernel
theorem dL_law_32 : decode code 32 = .ok (.iand, 1) := by decide +kernel
theorem dL_law_33 : decode code 33 = .ok (.tableswitch 1535 0 34 #[155, 218, 241, 264, 287, 310, 343, 386, 409, 452, 475, 508, 541, 564, 597, 620, 653, 706, 759, 812, 875, 918, 971, 1046, 1109, 1162, 1205, 1248, 1261, 1304, 1337, 1390, 1466, 1489, 1512], 155) := by decide +kernel
theorem dL_law_188 : decode code 188 = .ok (.aload_n 1, 1) := by decide +kernel
theorem dL_law_189 : decode code 189 = .ok (.aload_n 0, 1) := by decide +kernel
theorem dL_law_190 : decode code 190 = .ok (.iload_n 3, 1) := by decide +kernel
theorem dL_law_191 : decode code 191 = .ok (.iconst 1, 1) := by decide +kernel
theorem dL_law_192 : decode code 192 = .ok (.iadd, 1) := by decide +kernel
theorem dL_law_193 : decode code 193 = .ok (.iaload, 1) := by decide +kernel
theorem dL_law_194 : decode code 194 = .ok (.aload_n 0, 1) := by decide +kernel
theorem dL_law_195 : decode code 195 = .ok (.iload_n 3, 1) := by decide +kernel
theorem dL_law_196 : decode code 196 = .ok (.iconst 2, 1) := by decide +kernel
theorem dL_law_197 : decode code 197 = .ok (.iadd, 1) := by decide +kernel
theorem dL_law_198 : decode code 198 = .ok (.iaload, 1) := by decide +kernel
theorem dL_law_199 : decode code 199 = .ok (.aload_n 0, 1) := by decide +kernel
theorem dL_law_200 : decode code 200 = .ok (.iload_n 3, 1) := by decide +kernel
theorem dL_law_201 : decode code 201 = .ok (.iconst 3, 1) := by decide +kernel
theorem dL_law_202 : decode code 202 = .ok (.iadd, 1) := by decide +kernel
theorem dL_law_203 : decode code 203 = .ok (.iaload, 1) := by decide +kernel
theorem dL_law_204 : decode code 204 = .ok (.aload_n 0, 1) := by decide +kernel
theorem dL_law_205 : decode code 205 = .ok (.iload_n 3, 1) := by decide +kernel
theorem dL_law_206 : decode code 206 = .ok (.iconst 4, 1) := by decide +kernel
theorem dL_law_207 : decode code 207 = .ok (.iadd, 1) := by decide +kernel
theorem dL_law_208 : decode code 208 = .ok (.iaload, 1) := by decide +kernel
theorem dL_law_209 : decode code 209 = .ok (.aload_n 0, 1) := by decide +kernel
theorem dL_law_210 : decode code 210 = .ok (.iload_n 3, 1) := by decide +kernel
theorem dL_law_211 : decode code 211 = .ok (.iconst 5, 1) := by decide +kernel
theorem dL_law_212 : decode code 212 = .ok (.iadd, 1) := by decide +kernel
theorem dL_law_213 : decode code 213 = .ok (.iaload, 1) := by decide +kernel
theorem dL_law_214 : decode code 214 = .ok (.invokevirtual 13, 3) := by decide +kernel
theorem dL_law_217 : decode code 217 = .ok (.aload_n 2, 1) := by decide +kernel
theorem dL_law_218 : decode code 218 = .ok (.aload_n 0, 1) := by decide +kernel
theorem dL_law_219 : decode code 219 = .ok (.iload_n 3, 1) := by decide +kernel
theorem dL_law_220 : decode code 220 = .ok (.iconst 1, 1) := by decide +kernel
theorem dL_law_221 : decode code 221 = .ok (.iadd, 1) := by decide +kernel
theorem dL_law_222 : decode code 222 = .ok (.iaload, 1) := by decide +kernel
theorem dL_law_223 : decode code 223 = .ok (.aload_n 0, 1) := by decide +kernel
theorem dL_law_224 : decode code 224 = .ok (.iload_n 3, 1) := by decide +kernel
theorem dL_law_225 : decode code 225 = .ok (.iconst 2, 1) := by decide +kernel
theorem dL_law_226 : decode code 226 = .ok (.iadd, 1) := by decide +kernel
theorem dL_law_227 : decode code 227 = .ok (.iaload, 1) := by decide +kernel
theorem dL_law_228 : decode code 228 = .ok (.aload_n 0, 1) := by decide +kernel
theorem dL_law_229 : decode code 229 = .ok (.iload_n 3, 1) := by decide +kernel
theorem dL_law_230 : decode code 230 = .ok (.iconst 3, 1) := by decide +kernel
theorem dL_law_231 : decode code 231 = .ok (.iadd, 1) := by decide +kernel
theorem dL_law_232 : decode code 232 = .ok (.iaload, 1) := by decide +kernel
theorem dL_law_233 : decode code 233 = .ok (.aload_n 0, 1) := by decide +kernel
theorem dL_law_234 : decode code 234 = .ok (.iload_n 3, 1) := by decide +kernel
theorem dL_law_235 : decode code 235 = .ok (.iconst 4, 1) := by decide +kernel
theorem dL_law_236 : decode code 236 = .ok (.iadd, 1) := by decide +kernel
theorem dL_law_237 : decode code 237 = .ok (.iaload, 1) := by decide +kernel
theorem dL_law_238 : decode code 238 = .ok (.aload_n 0, 1) := by decide +kernel
theorem dL_law_239 : decode code 239 = .ok (.iload_n 3, 1) := by decide +kernel
theorem dL_law_240 : decode code 240 = .ok (.iconst 5, 1) := by decide +kernel
theorem dL_law_241 : decode code 241 = .ok (.iadd, 1) := by decide +kernel
theorem dL_law_242 : decode code 242 = .ok (.iaload, 1) := by decide +kernel
theorem dL_law_243 : decode code 243 = .ok (.invokevirtual 17, 3) := by decide +kernel
theorem dL_law_246 : decode code 246 = .ok (.if_icmp .eq 1322, 3) := by decide +kernel
theorem dL_law_249 : decode code 249 = .ok (.iconst 0, 1) := by decide +kernel
theorem dL_law_250 : decode code 250 = .ok (.ireturn, 1) := by decide +kernel
theorem dL_law_251 : decode code 251 = .ok (.aload_n 1, 1) := by decide +kernel
theorem dL_law_252 : decode code 252 = .ok (.aload_n 0, 1) := by decide +kernel
theorem dL_law_253 : decode code 253 = .ok (.iload_n 3, 1) := by decide +kernel
theorem dL_law_254 : decode code 254 = .ok (.iconst 1, 1) := by decide +kernel
theorem dL_law_255 : decode code 255 = .ok (.iadd, 1) := by decide +kernel
theorem dL_law_256 : decode code 256 = .ok (.iaload, 1) := by decide +kernel
theorem dL_law_257 : decode code 257 = .ok (.invokevirtual 18, 3) := by decide +kernel
theorem dL_law_260 : decode code 260 = .ok (.aload_n 2, 1) := by decide +kernel
theorem dL_law_261 : decode code 261 = .ok (.aload_n 0, 1) := by decide +kernel
theorem dL_law_262 : decode code 262 = .ok (.iload_n 3, 1) := by decide +kernel
theorem dL_law_263 : decode code 263 = .ok (.iconst 1, 1) := by decide +kernel
theorem dL_law_264 : decode code 264 = .ok (.iadd, 1) := by decide +kernel
theorem dL_law_265 : decode code 265 = .ok (.iaload, 1) := by decide +kernel
theorem dL_law_266 : decode code 266 = .ok (.invokevirtual 22, 3) := by decide +kernel
theorem dL_law_269 : decode code 269 = .ok (.if_icmp .eq 1299, 3) := by decide +kernel
theorem dL_law_272 : decode code 272 = .ok (.iconst 0, 1) := by decide +kernel
theorem dL_law_273 : decode code 273 = .ok (.ireturn, 1) := by decide +kernel
theorem dL_law_274 : decode code 274 = .ok (.aload_n 1, 1) := by decide +kernel
theorem dL_law_275 : decode code 275 = .ok (.aload_n 0, 1) := by decide +kernel
theorem dL_law_276 : decode code 276 = .ok (.iload_n 3, 1) := by decide +kernel
theorem dL_law_277 : decode code 277 = .ok (.iconst 1, 1) := by decide +kernel
theorem dL_law_278 : decode code 278 = .ok (.iadd, 1) := by decide +kernel
theorem dL_law_279 : decode code 279 = .ok (.iaload, 1) := by decide +kernel
theorem dL_law_280 : decode code 280 = .ok (.invokevirtual 23, 3) := by decide +kernel
theorem dL_law_283 : decode code 283 = .ok (.aload_n 2, 1) := by decide +kernel
theorem dL_law_284 : decode code 284 = .ok (.aload_n 0, 1) := by decide +kernel
theorem dL_law_285 : decode code 285 = .ok (.iload_n 3, 1) := by decide +kernel
theorem dL_law_286 : decode code 286 = .ok (.iconst 1, 1) := by decide +kernel
theorem dL_law_287 : decode code 287 = .ok (.iadd, 1) := by decide +kernel
theorem dL_law_288 : decode code 288 = .ok (.iaload, 1) := by decide +kernel
theorem dL_law_289 : decode code 289 = .ok (.invokevirtual 26, 3) := by decide +kernel
theorem dL_law_292 : decode code 292 = .ok (.if_icmp .eq 1276, 3) := by decide +kernel
theorem dL_law_295 : decode code 295 = .ok (.iconst 0, 1) := by decide +kernel
theorem dL_law_296 : decode code 296 = .ok (.ireturn, 1) := by decide +kernel
theorem dL_law_297 : decode code 297 = .ok (.aload_n 1, 1) := by decide +kernel
theorem dL_law_298 : decode code 298 = .ok (.aload_n 0, 1) := by decide +kernel
theorem dL_law_299 : decode code 299 = .ok (.iload_n 3, 1) := by decide +kernel
theorem dL_law_300 : decode code 300 = .ok (.iconst 1, 1) := by decide +kernel
theorem dL_law_301 : decode code 301 = .ok (.iadd, 1) := by decide +kernel
theorem dL_law_302 : decode code 302 = .ok (.iaload, 1) := by decide +kernel
theorem dL_law_303 : decode code 303 = .ok (.invokevirtual 27, 3) := by decide +kernel
theorem dL_law_306 : decode code 306 = .ok (.aload_n 2, 1) := by decide +kernel
theorem dL_law_307 : decode code 307 = .ok (.aload_n 0, 1) := by decide +kernel
theorem dL_law_308 : decode code 308 = .ok (.iload_n 3, 1) := by decide +kernel
theorem dL_law_309 : decode code 309 = .ok (.iconst 1, 1) := by decide +kernel
theorem dL_law_310 : decode code 310 = .ok (.iadd, 1) := by decide +kernel
theorem dL_law_311 : decode code 311 = .ok (.iaload, 1) := by decide +kernel
theorem dL_law_312 : decode code 312 = .ok (.invokevirtual 30, 3) := by decide +kernel
theorem dL_law_315 : decode code 315 = .ok (.if_icmp .eq 1253, 3) := by decide +kernel
theorem dL_law_318 : decode code 318 = .ok (.iconst 0, 1) := by decide +kernel
theorem dL_law_319 : decode code 319 = .ok (.ireturn, 1) := by decide +kernel
theorem dL_law_320 : decode code 320 = .ok (.aload_n 1, 1) := by decide +kernel
theorem dL_law_321 : decode code 321 = .ok (.aload_n 0, 1) := by decide +kernel
theorem dL_law_322 : decode code 322 = .ok (.iload_n 3, 1) := by decide +kernel
theorem dL_law_323 : decode code 323 = .ok (.iconst 1, 1) := by decide +kernel
theorem dL_law_324 : decode code 324 = .ok (.iadd, 1) := by decide +kernel
theorem dL_law_325 : decode code 325 = .ok (.iaload, 1) := by decide +kernel
theorem dL_law_326 : decode code 326 = .ok (.invokevirtual 31, 3) := by decide +kernel
theorem dL_law_329 : decode code 329 = .ok (.aload_n 2, 1) := by decide +kernel
theorem dL_law_330 : decode code 330 = .ok (.aload_n 0, 1) := by decide +kernel
theorem dL_law_331 : decode code 331 = .ok (.iload_n 3, 1) := by decide +kernel
theorem dL_law_332 : decode code 332 = .ok (.iconst 1, 1) := by decide +kernel
theorem dL_law_333 : decode code 333 = .ok (.iadd, 1) := by decide +kernel
theorem dL_law_334 : decode code 334 = .ok (.iaload, 1) := by decide +kernel
theorem dL_law_335 : decode code 335 = .ok (.invokevirtual 34, 3) := by decide +kernel
theorem dL_law_338 : decode code 338 = .ok (.if_icmp .eq 1230, 3) := by decide +kernel
theorem dL_law_341 : decode code 341 = .ok (.iconst 0, 1) := by decide +kernel
theorem dL_law_342 : decode code 342 = .ok (.ireturn, 1) := by decide +kernel
theorem dL_law_343 : decode code 343 = .ok (.aload_n 1, 1) := by decide +kernel
theorem dL_law_344 : decode code 344 = .ok (.aload_n 0, 1) := by decide +kernel
theorem dL_law_345 : decode code 345 = .ok (.iload_n 3, 1) := by decide +kernel
theorem dL_law_346 : decode code 346 = .ok (.iconst 1, 1) := by decide +kernel
theorem dL_law_347 : decode code 347 = .ok (.iadd, 1) := by decide +kernel
theorem dL_law_348 : decode code 348 = .ok (.iaload, 1) := by decide +kernel
theorem dL_law_349 : decode code 349 = .ok (.aload_n 0, 1) := by decide +kernel
theorem dL_law_350 : decode code 350 = .ok (.iload_n 3, 1) := by decide +kernel
theorem dL_law_351 : decode code 351 = .ok (.iconst 2, 1) := by decide +kernel
theorem dL_law_352 : decode code 352 = .ok (.iadd, 1) := by decide +kernel
theorem dL_law_353 : decode code 353 = .ok (.iaload, 1) := by decide +kernel
theorem dL_law_354 : decode code 354 = .ok (.invokevirtual 35, 3) := by decide +kernel
theorem dL_law_357 : decode code 357 = .ok (.aload_n 2, 1) := by decide +kernel
theorem dL_law_358 : decode code 358 = .ok (.aload_n 0, 1) := by decide +kernel
theorem dL_law_359 : decode code 359 = .ok (.iload_n 3, 1) := by decide +kernel
theorem dL_law_360 : decode code 360 = .ok (.iconst 1, 1) := by decide +kernel
theorem dL_law_361 : decode code 361 = .ok (.iadd, 1) := by decide +kernel
theorem dL_law_362 : decode code 362 = .ok (.iaload, 1) := by decide +kernel
theorem dL_law_363 : decode code 363 = .ok (.aload_n 0, 1) := by decide +kernel
theorem dL_law_364 : decode code 364 = .ok (.iload_n 3, 1) := by decide +kernel
theorem dL_law_365 : decode code 365 = .ok (.iconst 2, 1) := by decide +kernel
theorem dL_law_366 : decode code 366 = .ok (.iadd, 1) := by decide +kernel
theorem dL_law_367 : decode code 367 = .ok (.iaload, 1) := by decide +kernel
theorem dL_law_368 : decode code 368 = .ok (.invokevirtual 39, 3) := by decide +kernel
theorem dL_law_371 : decode code 371 = .ok (.if_icmp .eq 1197, 3) := by decide +kernel
theorem dL_law_374 : decode code 374 = .ok (.iconst 0, 1) := by decide +kernel
theorem dL_law_375 : decode code 375 = .ok (.ireturn, 1) := by decide +kernel
theorem dL_law_376 : decode code 376 = .ok (.aload_n 1, 1) := by decide +kernel
theorem dL_law_377 : decode code 377 = .ok (.aload_n 0, 1) := by decide +kernel
theorem dL_law_378 : decode code 378 = .ok (.iload_n 3, 1) := by decide +kernel
theorem dL_law_379 : decode code 379 = .ok (.iconst 1, 1) := by decide +kernel
theorem dL_law_380 : decode code 380 = .ok (.iadd, 1) := by decide +kernel
theorem dL_law_381 : decode code 381 = .ok (.iaload, 1) := by decide +kernel
theorem dL_law_382 : decode code 382 = .ok (.aload_n 0, 1) := by decide +kernel
theorem dL_law_383 : decode code 383 = .ok (.iload_n 3, 1) := by decide +kernel
theorem dL_law_384 : decode code 384 = .ok (.iconst 2, 1) := by decide +kernel
theorem dL_law_385 : decode code 385 = .ok (.iadd, 1) := by decide +kernel
theorem dL_law_386 : decode code 386 = .ok (.iaload, 1) := by decide +kernel
theorem dL_law_387 : decode code 387 = .ok (.aload_n 0, 1) := by decide +kernel
theorem dL_law_388 : decode code 388 = .ok (.iload_n 3, 1) := by decide +kernel
theorem dL_law_389 : decode code 389 = .ok (.iconst 3, 1) := by decide +kernel
theorem dL_law_390 : decode code 390 = .ok (.iadd, 1) := by decide +kernel
theorem dL_law_391 : decode code 391 = .ok (.iaload, 1) := by decide +kernel
theorem dL_law_392 : decode code 392 = .ok (.invokevirtual 40, 3) := by decide +kernel
theorem dL_law_395 : decode code 395 = .ok (.aload_n 2, 1) := by decide +kernel
theorem dL_law_396 : decode code 396 = .ok (.aload_n 0, 1) := by decide +kernel
theorem dL_law_397 : decode code 397 = .ok (.iload_n 3, 1) := by decide +kernel
theorem dL_law_398 : decode code 398 = .ok (.iconst 1, 1) := by decide +kernel
theorem dL_law_399 : decode code 399 = .ok (.iadd, 1) := by decide +kernel
theorem dL_law_400 : decode code 400 = .ok (.iaload, 1) := by decide +kernel
theorem dL_law_401 : decode code 401 = .ok (.aload_n 0, 1) := by decide +kernel
theorem dL_law_402 : decode code 402 = .ok (.iload_n 3, 1) := by decide +kernel
theorem dL_law_403 : decode code 403 = .ok (.iconst 2, 1) := by decide +kernel
theorem dL_law_404 : decode code 404 = .ok (.iadd, 1) := by decide +kernel
theorem dL_law_405 : decode code 405 = .ok (.iaload, 1) := by decide +kernel
theorem dL_law_406 : decode code 406 = .ok (.aload_n 0, 1) := by decide +kernel
theorem dL_law_407 : decode code 407 = .ok (.iload_n 3, 1) := by decide +kernel
theorem dL_law_408 : decode code 408 = .ok (.iconst 3, 1) := by decide +kernel
theorem dL_law_409 : decode code 409 = .ok (.iadd, 1) := by decide +kernel
theorem dL_law_410 : decode code 410 = .ok (.iaload, 1) := by decide +kernel
theorem dL_law_411 : decode code 411 = .ok (.invokevirtual 44, 3) := by decide +kernel
theorem dL_law_414 : decode code 414 = .ok (.if_icmp .eq 1154, 3) := by decide +kernel
theorem dL_law_417 : decode code 417 = .ok (.iconst 0, 1) := by decide +kernel
theorem dL_law_418 : decode code 418 = .ok (.ireturn, 1) := by decide +kernel
theorem dL_law_419 : decode code 419 = .ok (.aload_n 1, 1) := by decide +kernel
theorem dL_law_420 : decode code 420 = .ok (.aload_n 0, 1) := by decide +kernel
theorem dL_law_421 : decode code 421 = .ok (.iload_n 3, 1) := by decide +kernel
theorem dL_law_422 : decode code 422 = .ok (.iconst 1, 1) := by decide +kernel
theorem dL_law_423 : decode code 423 = .ok (.iadd, 1) := by decide +kernel
theorem dL_law_424 : decode code 424 = .ok (.iaload, 1) := by decide +kernel
theorem dL_law_425 : decode code 425 = .ok (.invokevirtual 45, 3) := by decide +kernel
theorem dL_law_428 : decode code 428 = .ok (.aload_n 2, 1) := by decide +kernel
theorem dL_law_429 : decode code 429 = .ok (.aload_n 0, 1) := by decide +kernel
theorem dL_law_430 : decode code 430 = .ok (.iload_n 3, 1) := by decide +kernel
theorem dL_law_431 : decode code 431 = .ok (.iconst 1, 1) := by decide +kernel
theorem dL_law_432 : decode code 432 = .ok (.iadd, 1) := by decide +kernel
theorem dL_law_433 : decode code 433 = .ok (.iaload, 1) := by decide +kernel
theorem dL_law_434 : decode code 434 = .ok (.invokevirtual 48, 3) := by decide +kernel
theorem dL_law_437 : decode code 437 = .ok (.if_icmp .eq 1131, 3) := by decide +kernel
theorem dL_law_440 : decode code 440 = .ok (.iconst 0, 1) := by decide +kernel
theorem dL_law_441 : decode code 441 = .ok (.ireturn, 1) := by decide +kernel
theorem dL_law_442 : decode code 442 = .ok (.aload_n 1, 1) := by decide +kernel
theorem dL_law_443 : decode code 443 = .ok (.aload_n 0, 1) := by decide +kernel
theorem dL_law_444 : decode code 444 = .ok (.iload_n 3, 1) := by decide +kernel
theorem dL_law_445 : decode code 445 = .ok (.iconst 1, 1) := by decide +kernel
theorem dL_law_446 : decode code 446 = .ok (.iadd, 1) := by decide +kernel
theorem dL_law_447 : decode code 447 = .ok (.iaload, 1) := by decide +kernel
theorem dL_law_448 : decode code 448 = .ok (.aload_n 0, 1) := by decide +kernel
theorem dL_law_449 : decode code 449 = .ok (.iload_n 3, 1) := by decide +kernel
theorem dL_law_450 : decode code 450 = .ok (.iconst 2, 1) := by decide +kernel
theorem dL_law_451 : decode code 451 = .ok (.iadd, 1) := by decide +kernel
theorem dL_law_452 : decode code 452 = .ok (.iaload, 1) := by decide +kernel
theorem dL_law_453 : decode code 453 = .ok (.aload_n 0, 1) := by decide +kernel
theorem dL_law_454 : decode code 454 = .ok (.iload_n 3, 1) := by decide +kernel
theorem dL_law_455 : decode code 455 = .ok (.iconst 3, 1) := by decide +kernel
theorem dL_law_456 : decode code 456 = .ok (.iadd, 1) := by decide +kernel
theorem dL_law_457 : decode code 457 = .ok (.iaload, 1) := by decide +kernel
theorem dL_law_458 : decode code 458 = .ok (.invokevirtual 49, 3) := by decide +kernel
theorem dL_law_461 : decode code 461 = .ok (.aload_n 2, 1) := by decide +kernel
theorem dL_law_462 : decode code 462 = .ok (.aload_n 0, 1) := by decide +kernel
theorem dL_law_463 : decode code 463 = .ok (.iload_n 3, 1) := by decide +kernel
theorem dL_law_464 : decode code 464 = .ok (.iconst 1, 1) := by decide +kernel
theorem dL_law_465 : decode code 465 = .ok (.iadd, 1) := by decide +kernel
theorem dL_law_466 : decode code 466 = .ok (.iaload, 1) := by decide +kernel
theorem dL_law_467 : decode code 467 = .ok (.aload_n 0, 1) := by decide +kernel
theorem dL_law_468 : decode code 468 = .ok (.iload_n 3, 1) := by decide +kernel
theorem dL_law_469 : decode code 469 = .ok (.iconst 2, 1) := by decide +kernel
theorem dL_law_470 : decode code 470 = .ok (.iadd, 1) := by decide +kernel
theorem dL_law_471 : decode code 471 = .ok (.iaload, 1) := by decide +kernel
theorem dL_law_472 : decode code 472 = .ok (.aload_n 0, 1) := by decide +kernel
theorem dL_law_473 : decode code 473 = .ok (.iload_n 3, 1) := by decide +kernel
theorem dL_law_474 : decode code 474 = .ok (.iconst 3, 1) := by decide +kernel
theorem dL_law_475 : decode code 475 = .ok (.iadd, 1) := by decide +kernel
theorem dL_law_476 : decode code 476 = .ok (.iaload, 1) := by decide +kernel
theorem dL_law_477 : decode code 477 = .ok (.invokevirtual 53, 3) := by decide +kernel
theorem dL_law_480 : decode code 480 = .ok (.if_icmp .eq 1088, 3) := by decide +kernel
theorem dL_law_483 : decode code 483 = .ok (.iconst 0, 1) := by decide +kernel
theorem dL_law_484 : decode code 484 = .ok (.ireturn, 1) := by decide +kernel
theorem dL_law_485 : decode code 485 = .ok (.aload_n 1, 1) := by decide +kernel
theorem dL_law_486 : decode code 486 = .ok (.aload_n 0, 1) := by decide +kernel
theorem dL_law_487 : decode code 487 = .ok (.iload_n 3, 1) := by decide +kernel
theorem dL_law_488 : decode code 488 = .ok (.iconst 1, 1) := by decide +kernel
theorem dL_law_489 : decode code 489 = .ok (.iadd, 1) := by decide +kernel
theorem dL_law_490 : decode code 490 = .ok (.iaload, 1) := by decide +kernel
theorem dL_law_491 : decode code 491 = .ok (.invokevirtual 54, 3) := by decide +kernel
theorem dL_law_494 : decode code 494 = .ok (.aload_n 2, 1) := by decide +kernel
theorem dL_law_495 : decode code 495 = .ok (.aload_n 0, 1) := by decide +kernel
theorem dL_law_496 : decode code 496 = .ok (.iload_n 3, 1) := by decide +kernel
theorem dL_law_497 : decode code 497 = .ok (.iconst 1, 1) := by decide +kernel
theorem dL_law_498 : decode code 498 = .ok (.iadd, 1) := by decide +kernel
theorem dL_law_499 : decode code 499 = .ok (.iaload, 1) := by decide +kernel
theorem dL_law_500 : decode code 500 = .ok (.invokevirtual 57, 3) := by decide +kernel
theorem dL_law_503 : decode code 503 = .ok (.if_icmp .eq 1065, 3) := by decide +kernel
theorem dL_law_506 : decode code 506 = .ok (.iconst 0, 1) := by decide +kernel
theorem dL_law_507 : decode code 507 = .ok (.ireturn, 1) := by decide +kernel
theorem dL_law_508 : decode code 508 = .ok (.aload_n 1, 1) := by decide +kernel
theorem dL_law_509 : decode code 509 = .ok (.aload_n 0, 1) := by decide +kernel
theorem dL_law_510 : decode code 510 = .ok (.iload_n 3, 1) := by decide +kernel
theorem dL_law_511 : decode code 511 = .ok (.iconst 1, 1) := by decide +kernel
theorem dL_law_512 : decode code 512 = .ok (.iadd, 1) := by decide +kernel
theorem dL_law_513 : decode code 513 = .ok (.iaload, 1) := by decide +kernel
theorem dL_law_514 : decode code 514 = .ok (.aload_n 0, 1) := by decide +kernel
theorem dL_law_515 : decode code 515 = .ok (.iload_n 3, 1) := by decide +kernel
theorem dL_law_516 : decode code 516 = .ok (.iconst 2, 1) := by decide +kernel
theorem dL_law_517 : decode code 517 = .ok (.iadd, 1) := by decide +kernel
theorem dL_law_518 : decode code 518 = .ok (.iaload, 1) := by decide +kernel
theorem dL_law_519 : decode code 519 = .ok (.invokevirtual 58, 3) := by decide +kernel
theorem dL_law_522 : decode code 522 = .ok (.aload_n 2, 1) := by decide +kernel
theorem dL_law_523 : decode code 523 = .ok (.aload_n 0, 1) := by decide +kernel
theorem dL_law_524 : decode code 524 = .ok (.iload_n 3, 1) := by decide +kernel
theorem dL_law_525 : decode code 525 = .ok (.iconst 1, 1) := by decide +kernel
theorem dL_law_526 : decode code 526 = .ok (.iadd, 1) := by decide +kernel
theorem dL_law_527 : decode code 527 = .ok (.iaload, 1) := by decide +kernel
theorem dL_law_528 : decode code 528 = .ok (.aload_n 0, 1) := by decide +kernel
theorem dL_law_529 : decode code 529 = .ok (.iload_n 3, 1) := by decide +kernel
theorem dL_law_530 : decode code 530 = .ok (.iconst 2, 1) := by decide +kernel
theorem dL_law_531 : decode code 531 = .ok (.iadd, 1) := by decide +kernel
theorem dL_law_532 : decode code 532 = .ok (.iaload, 1) := by decide +kernel
theorem dL_law_533 : decode code 533 = .ok (.invokevirtual 61, 3) := by decide +kernel
theorem dL_law_536 : decode code 536 = .ok (.if_icmp .eq 1032, 3) := by decide +kernel
theorem dL_law_539 : decode code 539 = .ok (.iconst 0, 1) := by decide +kernel
theorem dL_law_540 : decode code 540 = .ok (.ireturn, 1) := by decide +kernel
theorem dL_law_541 : decode code 541 = .ok (.aload_n 1, 1) := by decide +kernel
theorem dL_law_542 : decode code 542 = .ok (.aload_n 0, 1) := by decide +kernel
theorem dL_law_543 : decode code 543 = .ok (.iload_n 3, 1) := by decide +kernel
theorem dL_law_544 : decode code 544 = .ok (.iconst 1, 1) := by decide +kernel
theorem dL_law_545 : decode code 545 = .ok (.iadd, 1) := by decide +kernel
theorem dL_law_546 : decode code 546 = .ok (.iaload, 1) := by decide +kernel
theorem dL_law_547 : decode code 547 = .ok (.aload_n 0, 1) := by decide +kernel
theorem dL_law_548 : decode code 548 = .ok (.iload_n 3, 1) := by decide +kernel
theorem dL_law_549 : decode code 549 = .ok (.iconst 2, 1) := by decide +kernel
theorem dL_law_550 : decode code 550 = .ok (.iadd, 1) := by decide +kernel
theorem dL_law_551 : decode code 551 = .ok (.iaload, 1) := by decide +kernel
theorem dL_law_552 : decode code 552 = .ok (.invokevirtual 62, 3) := by decide +kernel
theorem dL_law_555 : decode code 555 = .ok (.aload_n 2, 1) := by decide +kernel
theorem dL_law_556 : decode code 556 = .ok (.aload_n 0, 1) := by decide +kernel
theorem dL_law_557 : decode code 557 = .ok (.iload_n 3, 1) := by decide +kernel
theorem dL_law_558 : decode code 558 = .ok (.iconst 1, 1) := by decide +kernel
theorem dL_law_559 : decode code 559 = .ok (.iadd, 1) := by decide +kernel
theorem dL_law_560 : decode code 560 = .ok (.iaload, 1) := by decide +kernel
theorem dL_law_561 : decode code 561 = .ok (.aload_n 0, 1) := by decide +kernel
theorem dL_law_562 : decode code 562 = .ok (.iload_n 3, 1) := by decide +kernel
theorem dL_law_563 : decode code 563 = .ok (.iconst 2, 1) := by decide +kernel
theorem dL_law_564 : decode code 564 = .ok (.iadd, 1) := by decide +kernel
theorem dL_law_565 : decode code 565 = .ok (.iaload, 1) := by decide +kernel
theorem dL_law_566 : decode code 566 = .ok (.invokevirtual 65, 3) := by decide +kernel
theorem dL_law_569 : decode code 569 = .ok (.if_icmp .eq 999, 3) := by decide +kernel
theorem dL_law_572 : decode code 572 = .ok (.iconst 0, 1) := by decide +kernel
theorem dL_law_573 : decode code 573 = .ok (.ireturn, 1) := by decide +kernel
theorem dL_law_574 : decode code 574 = .ok (.aload_n 1, 1) := by decide +kernel
theorem dL_law_575 : decode code 575 = .ok (.aload_n 0, 1) := by decide +kernel
theorem dL_law_576 : decode code 576 = .ok (.iload_n 3, 1) := by decide +kernel
theorem dL_law_577 : decode code 577 = .ok (.iconst 1, 1) := by decide +kernel
theorem dL_law_578 : decode code 578 = .ok (.iadd, 1) := by decide +kernel
theorem dL_law_579 : decode code 579 = .ok (.iaload, 1) := by decide +kernel
theorem dL_law_580 : decode code 580 = .ok (.invokevirtual 66, 3) := by decide +kernel
theorem dL_law_583 : decode code 583 = .ok (.aload_n 2, 1) := by decide +kernel
theorem dL_law_584 : decode code 584 = .ok (.aload_n 0, 1) := by decide +kernel
theorem dL_law_585 : decode code 585 = .ok (.iload_n 3, 1) := by decide +kernel
theorem dL_law_586 : decode code 586 = .ok (.iconst 1, 1) := by decide +kernel
theorem dL_law_587 : decode code 587 = .ok (.iadd, 1) := by decide +kernel
theorem dL_law_588 : decode code 588 = .ok (.iaload, 1) := by decide +kernel
theorem dL_law_589 : decode code 589 = .ok (.invokevirtual 69, 3) := by decide +kernel
theorem dL_law_592 : decode code 592 = .ok (.if_icmp .eq 976, 3) := by decide +kernel
theorem dL_law_595 : decode code 595 = .ok (.iconst 0, 1) := by decide +kernel
theorem dL_law_596 : decode code 596 = .ok (.ireturn, 1) := by decide +kernel
theorem dL_law_597 : decode code 597 = .ok (.aload_n 1, 1) := by decide +kernel
theorem dL_law_598 : decode code 598 = .ok (.aload_n 0, 1) := by decide +kernel
theorem dL_law_599 : decode code 599 = .ok (.iload_n 3, 1) := by decide +kernel
theorem dL_law_600 : decode code 600 = .ok (.iconst 1, 1) := by decide +kernel
theorem dL_law_601 : decode code 601 = .ok (.iadd, 1) := by decide +kernel
theorem dL_law_602 : decode code 602 = .ok (.iaload, 1) := by decide +kernel
theorem dL_law_603 : decode code 603 = .ok (.aload_n 0, 1) := by decide +kernel
theorem dL_law_604 : decode code 604 = .ok (.iload_n 3, 1) := by decide +kernel
theorem dL_law_605 : decode code 605 = .ok (.iconst 2, 1) := by decide +kernel
theorem dL_law_606 : decode code 606 = .ok (.iadd, 1) := by decide +kernel
theorem dL_law_607 : decode code 607 = .ok (.iaload, 1) := by decide +kernel
theorem dL_law_608 : decode code 608 = .ok (.invokevirtual 70, 3) := by decide +kernel
theorem dL_law_611 : decode code 611 = .ok (.aload_n 2, 1) := by decide +kernel
theorem dL_law_612 : decode code 612 = .ok (.aload_n 0, 1) := by decide +kernel
theorem dL_law_613 : decode code 613 = .ok (.iload_n 3, 1) := by decide +kernel
theorem dL_law_614 : decode code 614 = .ok (.iconst 1, 1) := by decide +kernel
theorem dL_law_615 : decode code 615 = .ok (.iadd, 1) := by decide +kernel
theorem dL_law_616 : decode code 616 = .ok (.iaload, 1) := by decide +kernel
theorem dL_law_617 : decode code 617 = .ok (.aload_n 0, 1) := by decide +kernel
theorem dL_law_618 : decode code 618 = .ok (.iload_n 3, 1) := by decide +kernel
theorem dL_law_619 : decode code 619 = .ok (.iconst 2, 1) := by decide +kernel
theorem dL_law_620 : decode code 620 = .ok (.iadd, 1) := by decide +kernel
theorem dL_law_621 : decode code 621 = .ok (.iaload, 1) := by decide +kernel
theorem dL_law_622 : decode code 622 = .ok (.invokevirtual 73, 3) := by decide +kernel
theorem dL_law_625 : decode code 625 = .ok (.if_icmp .eq 943, 3) := by decide +kernel
theorem dL_law_628 : decode code 628 = .ok (.iconst 0, 1) := by decide +kernel
theorem dL_law_629 : decode code 629 = .ok (.ireturn, 1) := by decide +kernel
theorem dL_law_630 : decode code 630 = .ok (.aload_n 1, 1) := by decide +kernel
theorem dL_law_631 : decode code 631 = .ok (.aload_n 0, 1) := by decide +kernel
theorem dL_law_632 : decode code 632 = .ok (.iload_n 3, 1) := by decide +kernel
theorem dL_law_633 : decode code 633 = .ok (.iconst 1, 1) := by decide +kernel
theorem dL_law_634 : decode code 634 = .ok (.iadd, 1) := by decide +kernel
theorem dL_law_635 : decode code 635 = .ok (.iaload, 1) := by decide +kernel
theorem dL_law_636 : decode code 636 = .ok (.invokevirtual 74, 3) := by decide +kernel
theorem dL_law_639 : decode code 639 = .ok (.aload_n 2, 1) := by decide +kernel
theorem dL_law_640 : decode code 640 = .ok (.aload_n 0, 1) := by decide +kernel
theorem dL_law_641 : decode code 641 = .ok (.iload_n 3, 1) := by decide +kernel
theorem dL_law_642 : decode code 642 = .ok (.iconst 1, 1) := by decide +kernel
theorem dL_law_643 : decode code 643 = .ok (.iadd, 1) := by decide +kernel
theorem dL_law_644 : decode code 644 = .ok (.iaload, 1) := by decide +kernel
theorem dL_law_645 : decode code 645 = .ok (.invokevirtual 77, 3) := by decide +kernel
theorem dL_law_648 : decode code 648 = .ok (.if_icmp .eq 920, 3) := by decide +kernel
theorem dL_law_651 : decode code 651 = .ok (.iconst 0, 1) := by decide +kernel
theorem dL_law_652 : decode code 652 = .ok (.ireturn, 1) := by decide +kernel
theorem dL_law_653 : decode code 653 = .ok (.aload_n 1, 1) := by decide +kernel
theorem dL_law_654 : decode code 654 = .ok (.aload_n 0, 1) := by decide +kernel
theorem dL_law_655 : decode code 655 = .ok (.iload_n 3, 1) := by decide +kernel
theorem dL_law_656 : decode code 656 = .ok (.iconst 1, 1) := by decide +kernel
theorem dL_law_657 : decode code 657 = .ok (.iadd, 1) := by decide +kernel
theorem dL_law_658 : decode code 658 = .ok (.iaload, 1) := by decide +kernel
theorem dL_law_659 : decode code 659 = .ok (.aload_n 0, 1) := by decide +kernel
theorem dL_law_660 : decode code 660 = .ok (.iload_n 3, 1) := by decide +kernel
theorem dL_law_661 : decode code 661 = .ok (.iconst 2, 1) := by decide +kernel
theorem dL_law_662 : decode code 662 = .ok (.iadd, 1) := by decide +kernel
theorem dL_law_663 : decode code 663 = .ok (.iaload, 1) := by decide +kernel
theorem dL_law_664 : decode code 664 = .ok (.invokevirtual 78, 3) := by decide +kernel
theorem dL_law_667 : decode code 667 = .ok (.aload_n 2, 1) := by decide +kernel
theorem dL_law_668 : decode code 668 = .ok (.aload_n 0, 1) := by decide +kernel
theorem dL_law_669 : decode code 669 = .ok (.iload_n 3, 1) := by decide +kernel
theorem dL_law_670 : decode code 670 = .ok (.iconst 1, 1) := by decide +kernel
theorem dL_law_671 : decode code 671 = .ok (.iadd, 1) := by decide +kernel
theorem dL_law_672 : decode code 672 = .ok (.iaload, 1) := by decide +kernel
theorem dL_law_673 : decode code 673 = .ok (.aload_n 0, 1) := by decide +kernel
theorem dL_law_674 : decode code 674 = .ok (.iload_n 3, 1) := by decide +kernel
theorem dL_law_675 : decode code 675 = .ok (.iconst 2, 1) := by decide +kernel
theorem dL_law_676 : decode code 676 = .ok (.iadd, 1) := by decide +kernel
theorem dL_law_677 : decode code 677 = .ok (.iaload, 1) := by decide +kernel
theorem dL_law_678 : decode code 678 = .ok (.invokevirtual 81, 3) := by decide +kernel
theorem dL_law_681 : decode code 681 = .ok (.if_icmp .eq 887, 3) := by decide +kernel
theorem dL_law_684 : decode code 684 = .ok (.iconst 0, 1) := by decide +kernel
theorem dL_law_685 : decode code 685 = .ok (.ireturn, 1) := by decide +kernel
theorem dL_law_686 : decode code 686 = .ok (.aload_n 1, 1) := by decide +kernel
theorem dL_law_687 : decode code 687 = .ok (.aload_n 0, 1) := by decide +kernel
theorem dL_law_688 : decode code 688 = .ok (.iload_n 3, 1) := by decide +kernel
theorem dL_law_689 : decode code 689 = .ok (.iconst 1, 1) := by decide +kernel
theorem dL_law_690 : decode code 690 = .ok (.iadd, 1) := by decide +kernel
theorem dL_law_691 : decode code 691 = .ok (.iaload, 1) := by decide +kernel
theorem dL_law_692 : decode code 692 = .ok (.aload_n 0, 1) := by decide +kernel
theorem dL_law_693 : decode code 693 = .ok (.iload_n 3, 1) := by decide +kernel
theorem dL_law_694 : decode code 694 = .ok (.iconst 2, 1) := by decide +kernel
theorem dL_law_695 : decode code 695 = .ok (.iadd, 1) := by decide +kernel
theorem dL_law_696 : decode code 696 = .ok (.iaload, 1) := by decide +kernel
theorem dL_law_697 : decode code 697 = .ok (.aload_n 0, 1) := by decide +kernel
theorem dL_law_698 : decode code 698 = .ok (.iload_n 3, 1) := by decide +kernel
theorem dL_law_699 : decode code 699 = .ok (.iconst 3, 1) := by decide +kernel
theorem dL_law_700 : decode code 700 = .ok (.iadd, 1) := by decide +kernel
theorem dL_law_701 : decode code 701 = .ok (.iaload, 1) := by decide +kernel
theorem dL_law_702 : decode code 702 = .ok (.aload_n 0, 1) := by decide +kernel
theorem dL_law_703 : decode code 703 = .ok (.iload_n 3, 1) := by decide +kernel
theorem dL_law_704 : decode code 704 = .ok (.iconst 4, 1) := by decide +kernel
theorem dL_law_705 : decode code 705 = .ok (.iadd, 1) := by decide +kernel
theorem dL_law_706 : decode code 706 = .ok (.iaload, 1) := by decide +kernel
theorem dL_law_707 : decode code 707 = .ok (.invokevirtual 82, 3) := by decide +kernel
theorem dL_law_710 : decode code 710 = .ok (.aload_n 2, 1) := by decide +kernel
theorem dL_law_711 : decode code 711 = .ok (.aload_n 0, 1) := by decide +kernel
theorem dL_law_712 : decode code 712 = .ok (.iload_n 3, 1) := by decide +kernel
theorem dL_law_713 : decode code 713 = .ok (.iconst 1, 1) := by decide +kernel
theorem dL_law_714 : decode code 714 = .ok (.iadd, 1) := by decide +kernel
theorem dL_law_715 : decode code 715 = .ok (.iaload, 1) := by decide +kernel
theorem dL_law_716 : decode code 716 = .ok (.aload_n 0, 1) := by decide +kernel
theorem dL_law_717 : decode code 717 = .ok (.iload_n 3, 1) := by decide +kernel
theorem dL_law_718 : decode code 718 = .ok (.iconst 2, 1) := by decide +kernel
theorem dL_law_719 : decode code 719 = .ok (.iadd, 1) := by decide +kernel
theorem dL_law_720 : decode code 720 = .ok (.iaload, 1) := by decide +kernel
theorem dL_law_721 : decode code 721 = .ok (.aload_n 0, 1) := by decide +kernel
theorem dL_law_722 : decode code 722 = .ok (.iload_n 3, 1) := by decide +kernel
theorem dL_law_723 : decode code 723 = .ok (.iconst 3, 1) := by decide +kernel
theorem dL_law_724 : decode code 724 = .ok (.iadd, 1) := by decide +kernel
theorem dL_law_725 : decode code 725 = .ok (.iaload, 1) := by decide +kernel
theorem dL_law_726 : decode code 726 = .ok (.aload_n 0, 1) := by decide +kernel
theorem dL_law_727 : decode code 727 = .ok (.iload_n 3, 1) := by decide +kernel
theorem dL_law_728 : decode code 728 = .ok (.iconst 4, 1) := by decide +kernel
theorem dL_law_729 : decode code 729 = .ok (.iadd, 1) := by decide +kernel
theorem dL_law_730 : decode code 730 = .ok (.iaload, 1) := by decide +kernel
theorem dL_law_731 : decode code 731 = .ok (.invokevirtual 86, 3) := by decide +kernel
theorem dL_law_734 : decode code 734 = .ok (.if_icmp .eq 834, 3) := by decide +kernel
theorem dL_law_737 : decode code 737 = .ok (.iconst 0, 1) := by decide +kernel
theorem dL_law_738 : decode code 738 = .ok (.ireturn, 1) := by decide +kernel
theorem dL_law_739 : decode code 739 = .ok (.aload_n 1, 1) := by decide +kernel
theorem dL_law_740 : decode code 740 = .ok (.aload_n 0, 1) := by decide +kernel
theorem dL_law_741 : decode code 741 = .ok (.iload_n 3, 1) := by decide +kernel
theorem dL_law_742 : decode code 742 = .ok (.iconst 1, 1) := by decide +kernel
theorem dL_law_743 : decode code 743 = .ok (.iadd, 1) := by decide +kernel
theorem dL_law_744 : decode code 744 = .ok (.iaload, 1) := by decide +kernel
theorem dL_law_745 : decode code 745 = .ok (.aload_n 0, 1) := by decide +kernel
theorem dL_law_746 : decode code 746 = .ok (.iload_n 3, 1) := by decide +kernel
theorem dL_law_747 : decode code 747 = .ok (.iconst 2, 1) := by decide +kernel
theorem dL_law_748 : decode code 748 = .ok (.iadd, 1) := by decide +kernel
theorem dL_law_749 : decode code 749 = .ok (.iaload, 1) := by decide +kernel
theorem dL_law_750 : decode code 750 = .ok (.aload_n 0, 1) := by decide +kernel
theorem dL_law_751 : decode code 751 = .ok (.iload_n 3, 1) := by decide +kernel
theorem dL_law_752 : decode code 752 = .ok (.iconst 3, 1) := by decide +kernel
theorem dL_law_753 : decode code 753 = .ok (.iadd, 1) := by decide +kernel
theorem dL_law_754 : decode code 754 = .ok (.iaload, 1) := by decide +kernel
theorem dL_law_755 : decode code 755 = .ok (.aload_n 0, 1) := by decide +kernel
theorem dL_law_756 : decode code 756 = .ok (.iload_n 3, 1) := by decide +kernel
theorem dL_law_757 : decode code 757 = .ok (.iconst 4, 1) := by decide +kernel
theorem dL_law_758 : decode code 758 = .ok (.iadd, 1) := by decide +kernel
theorem dL_law_759 : decode code 759 = .ok (.iaload, 1) := by decide +kernel
theorem dL_law_760 : decode code 760 = .ok (.invokevirtual 87, 3) := by decide +kernel
theorem dL_law_763 : decode code 763 = .ok (.aload_n 2, 1) := by decide +kernel
theorem dL_law_764 : decode code 764 = .ok (.aload_n 0, 1) := by decide +kernel
theorem dL_law_765 : decode code 765 = .ok (.iload_n 3, 1) := by decide +kernel
theorem dL_law_766 : decode code 766 = .ok (.iconst 1, 1) := by decide +kernel
theorem dL_law_767 : decode code 767 = .ok (.iadd, 1) := by decide +kernel
theorem dL_law_768 : decode code 768 = .ok (.iaload, 1) := by decide +kernel
theorem dL_law_769 : decode code 769 = .ok (.aload_n 0, 1) := by decide +kernel
theorem dL_law_770 : decode code 770 = .ok (.iload_n 3, 1) := by decide +kernel
theorem dL_law_771 : decode code 771 = .ok (.iconst 2, 1) := by decide +kernel
theorem dL_law_772 : decode code 772 = .ok (.iadd, 1) := by decide +kernel
theorem dL_law_773 : decode code 773 = .ok (.iaload, 1) := by decide +kernel
theorem dL_law_774 : decode code 774 = .ok (.aload_n 0, 1) := by decide +kernel
theorem dL_law_775 : decode code 775 = .ok (.iload_n 3, 1) := by decide +kernel
theorem dL_law_776 : decode code 776 = .ok (.iconst 3, 1) := by decide +kernel
theorem dL_law_777 : decode code 777 = .ok (.iadd, 1) := by decide +kernel
theorem dL_law_778 : decode code 778 = .ok (.iaload, 1) := by decide +kernel
theorem dL_law_779 : decode code 779 = .ok (.aload_n 0, 1) := by decide +kernel
theorem dL_law_780 : decode code 780 = .ok (.iload_n 3, 1) := by decide +kernel
theorem dL_law_781 : decode code 781 = .ok (.iconst 4, 1) := by decide +kernel
theorem dL_law_782 : decode code 782 = .ok (.iadd, 1) := by decide +kernel
theorem dL_law_783 : decode code 783 = .ok (.iaload, 1) := by decide +kernel
theorem dL_law_784 : decode code 784 = .ok (.invokevirtual 90, 3) := by decide +kernel
theorem dL_law_787 : decode code 787 = .ok (.if_icmp .eq 781, 3) := by decide +kernel
theorem dL_law_790 : decode code 790 = .ok (.iconst 0, 1) := by decide +kernel
theorem dL_law_791 : decode code 791 = .ok (.ireturn, 1) := by decide +kernel
theorem dL_law_792 : decode code 792 = .ok (.aload_n 1, 1) := by decide +kernel
theorem dL_law_793 : decode code 793 = .ok (.aload_n 0, 1) := by decide +kernel
theorem dL_law_794 : decode code 794 = .ok (.iload_n 3, 1) := by decide +kernel
theorem dL_law_795 : decode code 795 = .ok (.iconst 1, 1) := by decide +kernel
theorem dL_law_796 : decode code 796 = .ok (.iadd, 1) := by decide +kernel
theorem dL_law_797 : decode code 797 = .ok (.iaload, 1) := by decide +kernel
theorem dL_law_798 : decode code 798 = .ok (.aload_n 0, 1) := by decide +kernel
theorem dL_law_799 : decode code 799 = .ok (.iload_n 3, 1) := by decide +kernel
theorem dL_law_800 : decode code 800 = .ok (.iconst 2, 1) := by decide +kernel
theorem dL_law_801 : decode code 801 = .ok (.iadd, 1) := by decide +kernel
theorem dL_law_802 : decode code 802 = .ok (.iaload, 1) := by decide +kernel
theorem dL_law_803 : decode code 803 = .ok (.aload_n 0, 1) := by decide +kernel
theorem dL_law_804 : decode code 804 = .ok (.iload_n 3, 1) := by decide +kernel
theorem dL_law_805 : decode code 805 = .ok (.iconst 3, 1) := by decide +kernel
theorem dL_law_806 : decode code 806 = .ok (.iadd, 1) := by decide +kernel
theorem dL_law_807 : decode code 807 = .ok (.iaload, 1) := by decide +kernel
theorem dL_law_808 : decode code 808 = .ok (.aload_n 0, 1) := by decide +kernel
theorem dL_law_809 : decode code 809 = .ok (.iload_n 3, 1) := by decide +kernel
theorem dL_law_810 : decode code 810 = .ok (.iconst 4, 1) := by decide +kernel
theorem dL_law_811 : decode code 811 = .ok (.iadd, 1) := by decide +kernel
theorem dL_law_812 : decode code 812 = .ok (.iaload, 1) := by decide +kernel
theorem dL_law_813 : decode code 813 = .ok (.invokevirtual 91, 3) := by decide +kernel
theorem dL_law_816 : decode code 816 = .ok (.aload_n 2, 1) := by decide +kernel
theorem dL_law_817 : decode code 817 = .ok (.aload_n 0, 1) := by decide +kernel
theorem dL_law_818 : decode code 818 = .ok (.iload_n 3, 1) := by decide +kernel
theorem dL_law_819 : decode code 819 = .ok (.iconst 1, 1) := by decide +kernel
theorem dL_law_820 : decode code 820 = .ok (.iadd, 1) := by decide +kernel
theorem dL_law_821 : decode code 821 = .ok (.iaload, 1) := by decide +kernel
theorem dL_law_822 : decode code 822 = .ok (.aload_n 0, 1) := by decide +kernel
theorem dL_law_823 : decode code 823 = .ok (.iload_n 3, 1) := by decide +kernel
theorem dL_law_824 : decode code 824 = .ok (.iconst 2, 1) := by decide +kernel
theorem dL_law_825 : decode code 825 = .ok (.iadd, 1) := by decide +kernel
theorem dL_law_826 : decode code 826 = .ok (.iaload, 1) := by decide +kernel
theorem dL_law_827 : decode code 827 = .ok (.aload_n 0, 1) := by decide +kernel
theorem dL_law_828 : decode code 828 = .ok (.iload_n 3, 1) := by decide +kernel
theorem dL_law_829 : decode code 829 = .ok (.iconst 3, 1) := by decide +kernel
theorem dL_law_830 : decode code 830 = .ok (.iadd, 1) := by decide +kernel
theorem dL_law_831 : decode code 831 = .ok (.iaload, 1) := by decide +kernel
theorem dL_law_832 : decode code 832 = .ok (.aload_n 0, 1) := by decide +kernel
theorem dL_law_833 : decode code 833 = .ok (.iload_n 3, 1) := by decide +kernel
theorem dL_law_834 : decode code 834 = .ok (.iconst 4, 1) := by decide +kernel
theorem dL_law_835 : decode code 835 = .ok (.iadd, 1) := by decide +kernel
theorem dL_law_836 : decode code 836 = .ok (.iaload, 1) := by decide +kernel
theorem dL_law_837 : decode code 837 = .ok (.invokevirtual 94, 3) := by decide +kernel
theorem dL_law_840 : decode code 840 = .ok (.if_icmp .eq 728, 3) := by decide +kernel
theorem dL_law_843 : decode code 843 = .ok (.iconst 0, 1) := by decide +kernel
theorem dL_law_844 : decode code 844 = .ok (.ireturn, 1) := by decide +kernel
theorem dL_law_845 : decode code 845 = .ok (.aload_n 1, 1) := by decide +kernel
theorem dL_law_846 : decode code 846 = .ok (.aload_n 0, 1) := by decide +kernel
theorem dL_law_847 : decode code 847 = .ok (.iload_n 3, 1) := by decide +kernel
theorem dL_law_848 : decode code 848 = .ok (.iconst 1, 1) := by decide +kernel
theorem dL_law_849 : decode code 849 = .ok (.iadd, 1) := by decide +kernel
theorem dL_law_850 : decode code 850 = .ok (.iaload, 1) := by decide +kernel
theorem dL_law_851 : decode code 851 = .ok (.aload_n 0, 1) := by decide +kernel
theorem dL_law_852 : decode code 852 = .ok (.iload_n 3, 1) := by decide +kernel
theorem dL_law_853 : decode code 853 = .ok (.iconst 2, 1) := by decide +kernel
theorem dL_law_854 : decode code 854 = .ok (.iadd, 1) := by decide +kernel
theorem dL_law_855 : decode code 855 = .ok (.iaload, 1) := by decide +kernel
theorem dL_law_856 : decode code 856 = .ok (.aload_n 0, 1) := by decide +kernel
theorem dL_law_857 : decode code 857 = .ok (.iload_n 3, 1) := by decide +kernel
theorem dL_law_858 : decode code 858 = .ok (.iconst 3, 1) := by decide +kernel
theorem dL_law_859 : decode code 859 = .ok (.iadd, 1) := by decide +kernel
theorem dL_law_860 : decode code 860 = .ok (.iaload, 1) := by decide +kernel
theorem dL_law_861 : decode code 861 = .ok (.aload_n 0, 1) := by decide +kernel
theorem dL_law_862 : decode code 862 = .ok (.iload_n 3, 1) := by decide +kernel
theorem dL_law_863 : decode code 863 = .ok (.iconst 4, 1) := by decide +kernel
theorem dL_law_864 : decode code 864 = .ok (.iadd, 1) := by decide +kernel
theorem dL_law_865 : decode code 865 = .ok (.iaload, 1) := by decide +kernel
theorem dL_law_866 : decode code 866 = .ok (.aload_n 0, 1) := by decide +kernel
theorem dL_law_867 : decode code 867 = .ok (.iload_n 3, 1) := by decide +kernel
theorem dL_law_868 : decode code 868 = .ok (.iconst 5, 1) := by decide +kernel
theorem dL_law_869 : decode code 869 = .ok (.iadd, 1) := by decide +kernel
theorem dL_law_870 : decode code 870 = .ok (.iaload, 1) := by decide +kernel
theorem dL_law_871 : decode code 871 = .ok (.invokevirtual 95, 3) := by decide +kernel
theorem dL_law_874 : decode code 874 = .ok (.aload_n 2, 1) := by decide +kernel
theorem dL_law_875 : decode code 875 = .ok (.aload_n 0, 1) := by decide +kernel
theorem dL_law_876 : decode code 876 = .ok (.iload_n 3, 1) := by decide +kernel
theorem dL_law_877 : decode code 877 = .ok (.iconst 1, 1) := by decide +kernel
theorem dL_law_878 : decode code 878 = .ok (.iadd, 1) := by decide +kernel
theorem dL_law_879 : decode code 879 = .ok (.iaload, 1) := by decide +kernel
theorem dL_law_880 : decode code 880 = .ok (.aload_n 0, 1) := by decide +kernel
theorem dL_law_881 : decode code 881 = .ok (.iload_n 3, 1) := by decide +kernel
theorem dL_law_882 : decode code 882 = .ok (.iconst 2, 1) := by decide +kernel
theorem dL_law_883 : decode code 883 = .ok (.iadd, 1) := by decide +kernel
theorem dL_law_884 : decode code 884 = .ok (.iaload, 1) := by decide +kernel
theorem dL_law_885 : decode code 885 = .ok (.aload_n 0, 1) := by decide +kernel
theorem dL_law_886 : decode code 886 = .ok (.iload_n 3, 1) := by decide +kernel
theorem dL_law_887 : decode code 887 = .ok (.iconst 3, 1) := by decide +kernel
theorem dL_law_888 : decode code 888 = .ok (.iadd, 1) := by decide +kernel
theorem dL_law_889 : decode code 889 = .ok (.iaload, 1) := by decide +kernel
theorem dL_law_890 : decode code 890 = .ok (.aload_n 0, 1) := by decide +kernel
theorem dL_law_891 : decode code 891 = .ok (.iload_n 3, 1) := by decide +kernel
theorem dL_law_892 : decode code 892 = .ok (.iconst 4, 1) := by decide +kernel
theorem dL_law_893 : decode code 893 = .ok (.iadd, 1) := by decide +kernel
theorem dL_law_894 : decode code 894 = .ok (.iaload, 1) := by decide +kernel
theorem dL_law_895 : decode code 895 = .ok (.aload_n 0, 1) := by decide +kernel
theorem dL_law_896 : decode code 896 = .ok (.iload_n 3, 1) := by decide +kernel
theorem dL_law_897 : decode code 897 = .ok (.iconst 5, 1) := by decide +kernel
theorem dL_law_898 : decode code 898 = .ok (.iadd, 1) := by decide +kernel
theorem dL_law_899 : decode code 899 = .ok (.iaload, 1) := by decide +kernel
theorem dL_law_900 : decode code 900 = .ok (.invokevirtual 98, 3) := by decide +kernel
theorem dL_law_903 : decode code 903 = .ok (.if_icmp .eq 665, 3) := by decide +kernel
theorem dL_law_906 : decode code 906 = .ok (.iconst 0, 1) := by decide +kernel
theorem dL_law_907 : decode code 907 = .ok (.ireturn, 1) := by decide +kernel
theorem dL_law_908 : decode code 908 = .ok (.aload_n 1, 1) := by decide +kernel
theorem dL_law_909 : decode code 909 = .ok (.aload_n 0, 1) := by decide +kernel
theorem dL_law_910 : decode code 910 = .ok (.iload_n 3, 1) := by decide +kernel
theorem dL_law_911 : decode code 911 = .ok (.iconst 1, 1) := by decide +kernel
theorem dL_law_912 : decode code 912 = .ok (.iadd, 1) := by decide +kernel
theorem dL_law_913 : decode code 913 = .ok (.iaload, 1) := by decide +kernel
theorem dL_law_914 : decode code 914 = .ok (.aload_n 0, 1) := by decide +kernel
theorem dL_law_915 : decode code 915 = .ok (.iload_n 3, 1) := by decide +kernel
theorem dL_law_916 : decode code 916 = .ok (.iconst 2, 1) := by decide +kernel
theorem dL_law_917 : decode code 917 = .ok (.iadd, 1) := by decide +kernel
theorem dL_law_918 : decode code 918 = .ok (.iaload, 1) := by decide +kernel
theorem dL_law_919 : decode code 919 = .ok (.aload_n 0, 1) := by decide +kernel
theorem dL_law_920 : decode code 920 = .ok (.iload_n 3, 1) := by decide +kernel
theorem dL_law_921 : decode code 921 = .ok (.iconst 3, 1) := by decide +kernel
theorem dL_law_922 : decode code 922 = .ok (.iadd, 1) := by decide +kernel
theorem dL_law_923 : decode code 923 = .ok (.iaload, 1) := by decide +kernel
theorem dL_law_924 : decode code 924 = .ok (.invokevirtual 99, 3) := by decide +kernel
theorem dL_law_927 : decode code 927 = .ok (.aload_n 2, 1) := by decide +kernel
theorem dL_law_928 : decode code 928 = .ok (.aload_n 0, 1) := by decide +kernel
theorem dL_law_929 : decode code 929 = .ok (.iload_n 3, 1) := by decide +kernel
theorem dL_law_930 : decode code 930 = .ok (.iconst 1, 1) := by decide +kernel
theorem dL_law_931 : decode code 931 = .ok (.iadd, 1) := by decide +kernel
theorem dL_law_932 : decode code 932 = .ok (.iaload, 1) := by decide +kernel
theorem dL_law_933 : decode code 933 = .ok (.aload_n 0, 1) := by decide +kernel
theorem dL_law_934 : decode code 934 = .ok (.iload_n 3, 1) := by decide +kernel
theorem dL_law_935 : decode code 935 = .ok (.iconst 2, 1) := by decide +kernel
theorem dL_law_936 : decode code 936 = .ok (.iadd, 1) := by decide +kernel
theorem dL_law_937 : decode code 937 = .ok (.iaload, 1) := by decide +kernel
theorem dL_law_938 : decode code 938 = .ok (.aload_n 0, 1) := by decide +kernel
theorem dL_law_939 : decode code 939 = .ok (.iload_n 3, 1) := by decide +kernel
theorem dL_law_940 : decode code 940 = .ok (.iconst 3, 1) := by decide +kernel
theorem dL_law_941 : decode code 941 = .ok (.iadd, 1) := by decide +kernel
theorem dL_law_942 : decode code 942 = .ok (.iaload, 1) := by decide +kernel
theorem dL_law_943 : decode code 943 = .ok (.invokevirtual 102, 3) := by decide +kernel
theorem dL_law_946 : decode code 946 = .ok (.if_icmp .eq 622, 3) := by decide +kernel
theorem dL_law_949 : decode code 949 = .ok (.iconst 0, 1) := by decide +kernel
theorem dL_law_950 : decode code 950 = .ok (.ireturn, 1) := by decide +kernel
theorem dL_law_951 : decode code 951 = .ok (.aload_n 1, 1) := by decide +kernel
theorem dL_law_952 : decode code 952 = .ok (.aload_n 0, 1) := by decide +kernel
theorem dL_law_953 : decode code 953 = .ok (.iload_n 3, 1) := by decide +kernel
theorem dL_law_954 : decode code 954 = .ok (.iconst 1, 1) := by decide +kernel
theorem dL_law_955 : decode code 955 = .ok (.iadd, 1) := by decide +kernel
theorem dL_law_956 : decode code 956 = .ok (.iaload, 1) := by decide +kernel
theorem dL_law_957 : decode code 957 = .ok (.aload_n 0, 1) := by decide +kernel
theorem dL_law_958 : decode code 958 = .ok (.iload_n 3, 1) := by decide +kernel
theorem dL_law_959 : decode code 959 = .ok (.iconst 2, 1) := by decide +kernel
theorem dL_law_960 : decode code 960 = .ok (.iadd, 1) := by decide +kernel
theorem dL_law_961 : decode code 961 = .ok (.iaload, 1) := by decide +kernel
theorem dL_law_962 : decode code 962 = .ok (.aload_n 0, 1) := by decide +kernel
theorem dL_law_963 : decode code 963 = .ok (.iload_n 3, 1) := by decide +kernel
theorem dL_law_964 : decode code 964 = .ok (.iconst 3, 1) := by decide +kernel
theorem dL_law_965 : decode code 965 = .ok (.iadd, 1) := by decide +kernel
theorem dL_law_966 : decode code 966 = .ok (.iaload, 1) := by decide +kernel
theorem dL_law_967 : decode code 967 = .ok (.aload_n 0, 1) := by decide +kernel
theorem dL_law_968 : decode code 968 = .ok (.iload_n 3, 1) := by decide +kernel
theorem dL_law_969 : decode code 969 = .ok (.iconst 4, 1) := by decide +kernel
theorem dL_law_970 : decode code 970 = .ok (.iadd, 1) := by decide +kernel
theorem dL_law_971 : decode code 971 = .ok (.iaload, 1) := by decide +kernel
theorem dL_law_972 : decode code 972 = .ok (.invokevirtual 103, 3) := by decide +kernel
theorem dL_law_975 : decode code 975 = .ok (.aload_n 2, 1) := by decide +kernel
theorem dL_law_976 : decode code 976 = .ok (.aload_n 0, 1) := by decide +kernel
theorem dL_law_977 : decode code 977 = .ok (.iload_n 3, 1) := by decide +kernel
theorem dL_law_978 : decode code 978 = .ok (.iconst 1, 1) := by decide +kernel
theorem dL_law_979 : decode code 979 = .ok (.iadd, 1) := by decide +kernel
theorem dL_law_980 : decode code 980 = .ok (.iaload, 1) := by decide +kernel
theorem dL_law_981 : decode code 981 = .ok (.aload_n 0, 1) := by decide +kernel
theorem dL_law_982 : decode code 982 = .ok (.iload_n 3, 1) := by decide +kernel
theorem dL_law_983 : decode code 983 = .ok (.iconst 2, 1) := by decide +kernel
theorem dL_law_984 : decode code 984 = .ok (.iadd, 1) := by decide +kernel
theorem dL_law_985 : decode code 985 = .ok (.iaload, 1) := by decide +kernel
theorem dL_law_986 : decode code 986 = .ok (.aload_n 0, 1) := by decide +kernel
theorem dL_law_987 : decode code 987 = .ok (.iload_n 3, 1) := by decide +kernel
theorem dL_law_988 : decode code 988 = .ok (.iconst 3, 1) := by decide +kernel
theorem dL_law_989 : decode code 989 = .ok (.iadd, 1) := by decide +kernel
theorem dL_law_990 : decode code 990 = .ok (.iaload, 1) := by decide +kernel
theorem dL_law_991 : decode code 991 = .ok (.aload_n 0, 1) := by decide +kernel
theorem dL_law_992 : decode code 992 = .ok (.iload_n 3, 1) := by decide +kernel
theorem dL_law_993 : decode code 993 = .ok (.iconst 4, 1) := by decide +kernel
theorem dL_law_994 : decode code 994 = .ok (.iadd, 1) := by decide +kernel
theorem dL_law_995 : decode code 995 = .ok (.iaload, 1) := by decide +kernel
theorem dL_law_996 : decode code 996 = .ok (.invokevirtual 106, 3) := by decide +kernel
theorem dL_law_999 : decode code 999 = .ok (.if_icmp .eq 569, 3) := by decide +kernel
theorem dL_law_1002 : decode code 1002 = .ok (.iconst 0, 1) := by decide +kernel
theorem dL_law_1003 : decode code 1003 = .ok (.ireturn, 1) := by decide +kernel
theorem dL_law_1004 : decode code 1004 = .ok (.aload_n 1, 1) := by decide +kernel
theorem dL_law_1005 : decode code 1005 = .ok (.aload_n 0, 1) := by decide +kernel
theorem dL_law_1006 : decode code 1006 = .ok (.iload_n 3, 1) := by decide +kernel
theorem dL_law_1007 : decode code 1007 = .ok (.iconst 1, 1) := by decide +kernel
theorem dL_law_1008 : decode code 1008 = .ok (.iadd, 1) := by decide +kernel
theorem dL_law_1009 : decode code 1009 = .ok (.iaload, 1) := by decide +kernel
theorem dL_law_1010 : decode code 1010 = .ok (.aload_n 0, 1) := by decide +kernel
theorem dL_law_1011 : decode code 1011 = .ok (.iload_n 3, 1) := by decide +kernel
theorem dL_law_1012 : decode code 1012 = .ok (.iconst 2, 1) := by decide +kernel
theorem dL_law_1013 : decode code 1013 = .ok (.iadd, 1) := by decide +kernel
theorem dL_law_1014 : decode code 1014 = .ok (.iaload, 1) := by decide +kernel
theorem dL_law_1015 : decode code 1015 = .ok (.aload_n 0, 1) := by decide +kernel
theorem dL_law_1016 : decode code 1016 = .ok (.iload_n 3, 1) := by decide +kernel
theorem dL_law_1017 : decode code 1017 = .ok (.iconst 3, 1) := by decide +kernel
theorem dL_law_1018 : decode code 1018 = .ok (.iadd, 1) := by decide +kernel
theorem dL_law_1019 : decode code 1019 = .ok (.iaload, 1) := by decide +kernel
theorem dL_law_1020 : decode code 1020 = .ok (.aload_n 0, 1) := by decide +kernel
theorem dL_law_1021 : decode code 1021 = .ok (.iload_n 3, 1) := by decide +kernel
theorem dL_law_1022 : decode code 1022 = .ok (.iconst 4, 1) := by decide +kernel
theorem dL_law_1023 : decode code 1023 = .ok (.iadd, 1) := by decide +kernel
theorem dL_law_1024 : decode code 1024 = .ok (.iaload, 1) := by decide +kernel
theorem dL_law_1025 : decode code 1025 = .ok (.aload_n 0, 1) := by decide +kernel
theorem dL_law_1026 : decode code 1026 = .ok (.iload_n 3, 1) := by decide +kernel
theorem dL_law_1027 : decode code 1027 = .ok (.iconst 5, 1) := by decide +kernel
theorem dL_law_1028 : decode code 1028 = .ok (.iadd, 1) := by decide +kernel
theorem dL_law_1029 : decode code 1029 = .ok (.iaload, 1) := by decide +kernel
theorem dL_law_1030 : decode code 1030 = .ok (.aload_n 0, 1) := by decide +kernel
theorem dL_law_1031 : decode code 1031 = .ok (.iload_n 3, 1) := by decide +kernel
theorem dL_law_1032 : decode code 1032 = .ok (.bipush 6, 2) := by decide +kernel
theorem dL_law_1034 : decode code 1034 = .ok (.iadd, 1) := by decide +kernel
theorem dL_law_1035 : decode code 1035 = .ok (.iaload, 1) := by decide +kernel
theorem dL_law_1036 : decode code 1036 = .ok (.invokevirtual 107, 3) := by decide +kernel
theorem dL_law_1039 : decode code 1039 = .ok (.aload_n 2, 1) := by decide +kernel
theorem dL_law_1040 : decode code 1040 = .ok (.aload_n 0, 1) := by decide +kernel
theorem dL_law_1041 : decode code 1041 = .ok (.iload_n 3, 1) := by decide +kernel
theorem dL_law_1042 : decode code 1042 = .ok (.iconst 1, 1) := by decide +kernel
theorem dL_law_1043 : decode code 1043 = .ok (.iadd, 1) := by decide +kernel
theorem dL_law_1044 : decode code 1044 = .ok (.iaload, 1) := by decide +kernel
theorem dL_law_1045 : decode code 1045 = .ok (.aload_n 0, 1) := by decide +kernel
theorem dL_law_1046 : decode code 1046 = .ok (.iload_n 3, 1) := by decide +kernel
theorem dL_law_1047 : decode code 1047 = .ok (.iconst 2, 1) := by decide +kernel
theorem dL_law_1048 : decode code 1048 = .ok (.iadd, 1) := by decide +kernel
theorem dL_law_1049 : decode code 1049 = .ok (.iaload, 1) := by decide +kernel
theorem dL_law_1050 : decode code 1050 = .ok (.aload_n 0, 1) := by decide +kernel
theorem dL_law_1051 : decode code 1051 = .ok (.iload_n 3, 1) := by decide +kernel
theorem dL_law_1052 : decode code 1052 = .ok (.iconst 3, 1) := by decide +kernel
theorem dL_law_1053 : decode code 1053 = .ok (.iadd, 1) := by decide +kernel
theorem dL_law_1054 : decode code 1054 = .ok (.iaload, 1) := by decide +kernel
theorem dL_law_1055 : decode code 1055 = .ok (.aload_n 0, 1) := by decide +kernel
theorem dL_law_1056 : decode code 1056 = .ok (.iload_n 3, 1) := by decide +kernel
theorem dL_law_1057 : decode code 1057 = .ok (.iconst 4, 1) := by decide +kernel
theorem dL_law_1058 : decode code 1058 = .ok (.iadd, 1) := by decide +kernel
theorem dL_law_1059 : decode code 1059 = .ok (.iaload, 1) := by decide +kernel
theorem dL_law_1060 : decode code 1060 = .ok (.aload_n 0, 1) := by decide +kernel
theorem dL_law_1061 : decode code 1061 = .ok (.iload_n 3, 1) := by decide +kernel
theorem dL_law_1062 : decode code 1062 = .ok (.iconst 5, 1) := by decide +kernel
theorem dL_law_1063 : decode code 1063 = .ok (.iadd, 1) := by decide +kernel
theorem dL_law_1064 : decode code 1064 = .ok (.iaload, 1) := by decide +kernel
theorem dL_law_1065 : decode code 1065 = .ok (.aload_n 0, 1) := by decide +kernel
theorem dL_law_1066 : decode code 1066 = .ok (.iload_n 3, 1) := by decide +kernel
theorem dL_law_1067 : decode code 1067 = .ok (.bipush 6, 2) := by decide +kernel
theorem dL_law_1069 : decode code 1069 = .ok (.iadd, 1) := by decide +kernel
theorem dL_law_1070 : decode code 1070 = .ok (.iaload, 1) := by decide +kernel
theorem dL_law_1071 : decode code 1071 = .ok (.invokevirtual 111, 3) := by decide +kernel
theorem dL_law_1074 : decode code 1074 = .ok (.if_icmp .eq 494, 3) := by decide +kernel
theorem dL_law_1077 : decode code 1077 = .ok (.iconst 0, 1) := by decide +kernel
theorem dL_law_1078 : decode code 1078 = .ok (.ireturn, 1) := by decide +kernel
theorem dL_law_1079 : decode code 1079 = .ok (.aload_n 1, 1) := by decide +kernel
theorem dL_law_1080 : decode code 1080 = .ok (.aload_n 0, 1) := by decide +kernel
theorem dL_law_1081 : decode code 1081 = .ok (.iload_n 3, 1) := by decide +kernel
theorem dL_law_1082 : decode code 1082 = .ok (.iconst 1, 1) := by decide +kernel
theorem dL_law_1083 : decode code 1083 = .ok (.iadd, 1) := by decide +kernel
theorem dL_law_1084 : decode code 1084 = .ok (.iaload, 1) := by decide +kernel
theorem dL_law_1085 : decode code 1085 = .ok (.aload_n 0, 1) := by decide +kernel
theorem dL_law_1086 : decode code 1086 = .ok (.iload_n 3, 1) := by decide +kernel
theorem dL_law_1087 : decode code 1087 = .ok (.iconst 2, 1) := by decide +kernel
theorem dL_law_1088 : decode code 1088 = .ok (.iadd, 1) := by decide +kernel
theorem dL_law_1089 : decode code 1089 = .ok (.iaload, 1) := by decide +kernel
theorem dL_law_1090 : decode code 1090 = .ok (.aload_n 0, 1) := by decide +kernel
theorem dL_law_1091 : decode code 1091 = .ok (.iload_n 3, 1) := by decide +kernel
theorem dL_law_1092 : decode code 1092 = .ok (.iconst 3, 1) := by decide +kernel
theorem dL_law_1093 : decode code 1093 = .ok (.iadd, 1) := by decide +kernel
theorem dL_law_1094 : decode code 1094 = .ok (.iaload, 1) := by decide +kernel
theorem dL_law_1095 : decode code 1095 = .ok (.aload_n 0, 1) := by decide +kernel
theorem dL_law_1096 : decode code 1096 = .ok (.iload_n 3, 1) := by decide +kernel
theorem dL_law_1097 : decode code 1097 = .ok (.iconst 4, 1) := by decide +kernel
theorem dL_law_1098 : decode code 1098 = .ok (.iadd, 1) := by decide +kernel
theorem dL_law_1099 : decode code 1099 = .ok (.iaload, 1) := by decide +kernel
theorem dL_law_1100 : decode code 1100 = .ok (.aload_n 0, 1) := by decide +kernel
theorem dL_law_1101 : decode code 1101 = .ok (.iload_n 3, 1) := by decide +kernel
theorem dL_law_1102 : decode code 1102 = .ok (.iconst 5, 1) := by decide +kernel
theorem dL_law_1103 : decode code 1103 = .ok (.iadd, 1) := by decide +kernel
theorem dL_law_1104 : decode code 1104 = .ok (.iaload, 1) := by decide +kernel
theorem dL_law_1105 : decode code 1105 = .ok (.invokevirtual 112, 3) := by decide +kernel
theorem dL_law_1108 : decode code 1108 = .ok (.aload_n 2, 1) := by decide +kernel
theorem dL_law_1109 : decode code 1109 = .ok (.aload_n 0, 1) := by decide +kernel
theorem dL_law_1110 : decode code 1110 = .ok (.iload_n 3, 1) := by decide +kernel
theorem dL_law_1111 : decode code 1111 = .ok (.iconst 1, 1) := by decide +kernel
theorem dL_law_1112 : decode code 1112 = .ok (.iadd, 1) := by decide +kernel
theorem dL_law_1113 : decode code 1113 = .ok (.iaload, 1) := by decide +kernel
theorem dL_law_1114 : decode code 1114 = .ok (.aload_n 0, 1) := by decide +kernel
theorem dL_law_1115 : decode code 1115 = .ok (.iload_n 3, 1) := by decide +kernel
theorem dL_law_1116 : decode code 1116 = .ok (.iconst 2, 1) := by decide +kernel
theorem dL_law_1117 : decode code 1117 = .ok (.iadd, 1) := by decide +kernel
theorem dL_law_1118 : decode code 1118 = .ok (.iaload, 1) := by decide +kernel
theorem dL_law_1119 : decode code 1119 = .ok (.aload_n 0, 1) := by decide +kernel
theorem dL_law_1120 : decode code 1120 = .ok (.iload_n 3, 1) := by decide +kernel
theorem dL_law_1121 : decode code 1121 = .ok (.iconst 3, 1) := by decide +kernel
theorem dL_law_1122 : decode code 1122 = .ok (.iadd, 1) := by decide +kernel
theorem dL_law_1123 : decode code 1123 = .ok (.iaload, 1) := by decide +kernel
theorem dL_law_1124 : decode code 1124 = .ok (.aload_n 0, 1) := by decide +kernel
theorem dL_law_1125 : decode code 1125 = .ok (.iload_n 3, 1) := by decide +kernel
theorem dL_law_1126 : decode code 1126 = .ok (.iconst 4, 1) := by decide +kernel
theorem dL_law_1127 : decode code 1127 = .ok (.iadd, 1) := by decide +kernel
theorem dL_law_1128 : decode code 1128 = .ok (.iaload, 1) := by decide +kernel
theorem dL_law_1129 : decode code 1129 = .ok (.aload_n 0, 1) := by decide +kernel
theorem dL_law_1130 : decode code 1130 = .ok (.iload_n 3, 1) := by decide +kernel
theorem dL_law_1131 : decode code 1131 = .ok (.iconst 5, 1) := by decide +kernel
theorem dL_law_1132 : decode code 1132 = .ok (.iadd, 1) := by decide +kernel
theorem dL_law_1133 : decode code 1133 = .ok (.iaload, 1) := by decide +kernel
theorem dL_law_1134 : decode code 1134 = .ok (.invokevirtual 115, 3) := by decide +kernel
theorem dL_law_1137 : decode code 1137 = .ok (.if_icmp .eq 431, 3) := by decide +kernel
theorem dL_law_1140 : decode code 1140 = .ok (.iconst 0, 1) := by decide +kernel
theorem dL_law_1141 : decode code 1141 = .ok (.ireturn, 1) := by decide +kernel
theorem dL_law_1142 : decode code 1142 = .ok (.aload_n 1, 1) := by decide +kernel
theorem dL_law_1143 : decode code 1143 = .ok (.aload_n 0, 1) := by decide +kernel
theorem dL_law_1144 : decode code 1144 = .ok (.iload_n 3, 1) := by decide +kernel
theorem dL_law_1145 : decode code 1145 = .ok (.iconst 1, 1) := by decide +kernel
theorem dL_law_1146 : decode code 1146 = .ok (.iadd, 1) := by decide +kernel
theorem dL_law_1147 : decode code 1147 = .ok (.iaload, 1) := by decide +kernel
theorem dL_law_1148 : decode code 1148 = .ok (.aload_n 0, 1) := by decide +kernel
theorem dL_law_1149 : decode code 1149 = .ok (.iload_n 3, 1) := by decide +kernel
theorem dL_law_1150 : decode code 1150 = .ok (.iconst 2, 1) := by decide +kernel
theorem dL_law_1151 : decode code 1151 = .ok (.iadd, 1) := by decide +kernel
theorem dL_law_1152 : decode code 1152 = .ok (.iaload, 1) := by decide +kernel
theorem dL_law_1153 : decode code 1153 = .ok (.aload_n 0, 1) := by decide +kernel
theorem dL_law_1154 : decode code 1154 = .ok (.iload_n 3, 1) := by decide +kernel
theorem dL_law_1155 : decode code 1155 = .ok (.iconst 3, 1) := by decide +kernel
theorem dL_law_1156 : decode code 1156 = .ok (.iadd, 1) := by decide +kernel
theorem dL_law_1157 : decode code 1157 = .ok (.iaload, 1) := by decide +kernel
theorem dL_law_1158 : decode code 1158 = .ok (.aload_n 0, 1) := by decide +kernel
theorem dL_law_1159 : decode code 1159 = .ok (.iload_n 3, 1) := by decide +kernel
theorem dL_law_1160 : decode code 1160 = .ok (.iconst 4, 1) := by decide +kernel
theorem dL_law_1161 : decode code 1161 = .ok (.iadd, 1) := by decide +kernel
theorem dL_law_1162 : decode code 1162 = .ok (.iaload, 1) := by decide +kernel
theorem dL_law_1163 : decode code 1163 = .ok (.invokevirtual 116, 3) := by decide +kernel
theorem dL_law_1166 : decode code 1166 = .ok (.aload_n 2, 1) := by decide +kernel
theorem dL_law_1167 : decode code 1167 = .ok (.aload_n 0, 1) := by decide +kernel
theorem dL_law_1168 : decode code 1168 = .ok (.iload_n 3, 1) := by decide +kernel
theorem dL_law_1169 : decode code 1169 = .ok (.iconst 1, 1) := by decide +kernel
theorem dL_law_1170 : decode code 1170 = .ok (.iadd, 1) := by decide +kernel
theorem dL_law_1171 : decode code 1171 = .ok (.iaload, 1) := by decide +kernel
theorem dL_law_1172 : decode code 1172 = .ok (.aload_n 0, 1) := by decide +kernel
theorem dL_law_1173 : decode code 1173 = .ok (.iload_n 3, 1) := by decide +kernel
theorem dL_law_1174 : decode code 1174 = .ok (.iconst 2, 1) := by decide +kernel
theorem dL_law_1175 : decode code 1175 = .ok (.iadd, 1) := by decide +kernel
theorem dL_law_1176 : decode code 1176 = .ok (.iaload, 1) := by decide +kernel
theorem dL_law_1177 : decode code 1177 = .ok (.aload_n 0, 1) := by decide +kernel
theorem dL_law_1178 : decode code 1178 = .ok (.iload_n 3, 1) := by decide +kernel
theorem dL_law_1179 : decode code 1179 = .ok (.iconst 3, 1) := by decide +kernel
theorem dL_law_1180 : decode code 1180 = .ok (.iadd, 1) := by decide +kernel
theorem dL_law_1181 : decode code 1181 = .ok (.iaload, 1) := by decide +kernel
theorem dL_law_1182 : decode code 1182 = .ok (.aload_n 0, 1) := by decide +kernel
theorem dL_law_1183 : decode code 1183 = .ok (.iload_n 3, 1) := by decide +kernel
theorem dL_law_1184 : decode code 1184 = .ok (.iconst 4, 1) := by decide +kernel
theorem dL_law_1185 : decode code 1185 = .ok (.iadd, 1) := by decide +kernel
theorem dL_law_1186 : decode code 1186 = .ok (.iaload, 1) := by decide +kernel
theorem dL_law_1187 : decode code 1187 = .ok (.invokevirtual 119, 3) := by decide +kernel
theorem dL_law_1190 : decode code 1190 = .ok (.if_icmp .eq 378, 3) := by decide +kernel
theorem dL_law_1193 : decode code 1193 = .ok (.iconst 0, 1) := by decide +kernel
theorem dL_law_1194 : decode code 1194 = .ok (.ireturn, 1) := by decide +kernel
theorem dL_law_1195 : decode code 1195 = .ok (.aload_n 1, 1) := by decide +kernel
theorem dL_law_1196 : decode code 1196 = .ok (.aload_n 0, 1) := by decide +kernel
theorem dL_law_1197 : decode code 1197 = .ok (.iload_n 3, 1) := by decide +kernel
theorem dL_law_1198 : decode code 1198 = .ok (.iconst 1, 1) := by decide +kernel
theorem dL_law_1199 : decode code 1199 = .ok (.iadd, 1) := by decide +kernel
theorem dL_law_1200 : decode code 1200 = .ok (.iaload, 1) := by decide +kernel
theorem dL_law_1201 : decode code 1201 = .ok (.aload_n 0, 1) := by decide +kernel
theorem dL_law_1202 : decode code 1202 = .ok (.iload_n 3, 1) := by decide +kernel
theorem dL_law_1203 : decode code 1203 = .ok (.iconst 2, 1) := by decide +kernel
theorem dL_law_1204 : decode code 1204 = .ok (.iadd, 1) := by decide +kernel
theorem dL_law_1205 : decode code 1205 = .ok (.iaload, 1) := by decide +kernel
theorem dL_law_1206 : decode code 1206 = .ok (.aload_n 0, 1) := by decide +kernel
theorem dL_law_1207 : decode code 1207 = .ok (.iload_n 3, 1) := by decide +kernel
theorem dL_law_1208 : decode code 1208 = .ok (.iconst 3, 1) := by decide +kernel
theorem dL_law_1209 : decode code 1209 = .ok (.iadd, 1) := by decide +kernel
theorem dL_law_1210 : decode code 1210 = .ok (.iaload, 1) := by decide +kernel
theorem dL_law_1211 : decode code 1211 = .ok (.invokevirtual 120, 3) := by decide +kernel
theorem dL_law_1214 : decode code 1214 = .ok (.aload_n 2, 1) := by decide +kernel
theorem dL_law_1215 : decode code 1215 = .ok (.aload_n 0, 1) := by decide +kernel
theorem dL_law_1216 : decode code 1216 = .ok (.iload_n 3, 1) := by decide +kernel
theorem dL_law_1217 : decode code 1217 = .ok (.iconst 1, 1) := by decide +kernel
theorem dL_law_1218 : decode code 1218 = .ok (.iadd, 1) := by decide +kernel
theorem dL_law_1219 : decode code 1219 = .ok (.iaload, 1) := by decide +kernel
theorem dL_law_1220 : decode code 1220 = .ok (.aload_n 0, 1) := by decide +kernel
theorem dL_law_1221 : decode code 1221 = .ok (.iload_n 3, 1) := by decide +kernel
theorem dL_law_1222 : decode code 1222 = .ok (.iconst 2, 1) := by decide +kernel
theorem dL_law_1223 : decode code 1223 = .ok (.iadd, 1) := by decide +kernel
theorem dL_law_1224 : decode code 1224 = .ok (.iaload, 1) := by decide +kernel
theorem dL_law_1225 : decode code 1225 = .ok (.aload_n 0, 1) := by decide +kernel
theorem dL_law_1226 : decode code 1226 = .ok (.iload_n 3, 1) := by decide +kernel
theorem dL_law_1227 : decode code 1227 = .ok (.iconst 3, 1) := by decide +kernel
theorem dL_law_1228 : decode code 1228 = .ok (.iadd, 1) := by decide +kernel
theorem dL_law_1229 : decode code 1229 = .ok (.iaload, 1) := by decide +kernel
theorem dL_law_1230 : decode code 1230 = .ok (.invokevirtual 123, 3) := by decide +kernel
theorem dL_law_1233 : decode code 1233 = .ok (.if_icmp .eq 335, 3) := by decide +kernel
theorem dL_law_1236 : decode code 1236 = .ok (.iconst 0, 1) := by decide +kernel
theorem dL_law_1237 : decode code 1237 = .ok (.ireturn, 1) := by decide +kernel
theorem dL_law_1238 : decode code 1238 = .ok (.aload_n 1, 1) := by decide +kernel
theorem dL_law_1239 : decode code 1239 = .ok (.aload_n 0, 1) := by decide +kernel
theorem dL_law_1240 : decode code 1240 = .ok (.iload_n 3, 1) := by decide +kernel
theorem dL_law_1241 : decode code 1241 = .ok (.iconst 1, 1) := by decide +kernel
theorem dL_law_1242 : decode code 1242 = .ok (.iadd, 1) := by decide +kernel
theorem dL_law_1243 : decode code 1243 = .ok (.iaload, 1) := by decide +kernel
theorem dL_law_1244 : decode code 1244 = .ok (.aload_n 0, 1) := by decide +kernel
theorem dL_law_1245 : decode code 1245 = .ok (.iload_n 3, 1) := by decide +kernel
theorem dL_law_1246 : decode code 1246 = .ok (.iconst 2, 1) := by decide +kernel
theorem dL_law_1247 : decode code 1247 = .ok (.iadd, 1) := by decide +kernel
theorem dL_law_1248 : decode code 1248 = .ok (.iaload, 1) := by decide +kernel
theorem dL_law_1249 : decode code 1249 = .ok (.aload_n 0, 1) := by decide +kernel
theorem dL_law_1250 : decode code 1250 = .ok (.iload_n 3, 1) := by decide +kernel
theorem dL_law_1251 : decode code 1251 = .ok (.iconst 3, 1) := by decide +kernel
theorem dL_law_1252 : decode code 1252 = .ok (.iadd, 1) := by decide +kernel
theorem dL_law_1253 : decode code 1253 = .ok (.iaload, 1) := by decide +kernel
theorem dL_law_1254 : decode code 1254 = .ok (.invokevirtual 124, 3) := by decide +kernel
theorem dL_law_1257 : decode code 1257 = .ok (.aload_n 2, 1) := by decide +kernel
theorem dL_law_1258 : decode code 1258 = .ok (.aload_n 0, 1) := by decide +kernel
theorem dL_law_1259 : decode code 1259 = .ok (.iload_n 3, 1) := by decide +kernel
theorem dL_law_1260 : decode code 1260 = .ok (.iconst 1, 1) := by decide +kernel
theorem dL_law_1261 : decode code 1261 = .ok (.iadd, 1) := by decide +kernel
theorem dL_law_1262 : decode code 1262 = .ok (.iaload, 1) := by decide +kernel
theorem dL_law_1263 : decode code 1263 = .ok (.aload_n 0, 1) := by decide +kernel
theorem dL_law_1264 : decode code 1264 = .ok (.iload_n 3, 1) := by decide +kernel
theorem dL_law_1265 : decode code 1265 = .ok (.iconst 2, 1) := by decide +kernel
theorem dL_law_1266 : decode code 1266 = .ok (.iadd, 1) := by decide +kernel
theorem dL_law_1267 : decode code 1267 = .ok (.iaload, 1) := by decide +kernel
theorem dL_law_1268 : decode code 1268 = .ok (.aload_n 0, 1) := by decide +kernel
theorem dL_law_1269 : decode code 1269 = .ok (.iload_n 3, 1) := by decide +kernel
theorem dL_law_1270 : decode code 1270 = .ok (.iconst 3, 1) := by decide +kernel
theorem dL_law_1271 : decode code 1271 = .ok (.iadd, 1) := by decide +kernel
theorem dL_law_1272 : decode code 1272 = .ok (.iaload, 1) := by decide +kernel
theorem dL_law_1273 : decode code 1273 = .ok (.invokevirtual 127, 3) := by decide +kernel
theorem dL_law_1276 : decode code 1276 = .ok (.if_icmp .eq 292, 3) := by decide +kernel
theorem dL_law_1279 : decode code 1279 = .ok (.iconst 0, 1) := by decide +kernel
theorem dL_law_1280 : decode code 1280 = .ok (.ireturn, 1) := by decide +kernel
theorem dL_law_1281 : decode code 1281 = .ok (.aload_n 1, 1) := by decide +kernel
theorem dL_law_1282 : decode code 1282 = .ok (.invokevirtual 128, 3) := by decide +kernel
theorem dL_law_1285 : decode code 1285 = .ok (.aload_n 2, 1) := by decide +kernel
theorem dL_law_1286 : decode code 1286 = .ok (.invokevirtual 132, 3) := by decide +kernel
theorem dL_law_1289 : decode code 1289 = .ok (.if_icmp .eq 279, 3) := by decide +kernel
theorem dL_law_1292 : decode code 1292 = .ok (.iconst 0, 1) := by decide +kernel
theorem dL_law_1293 : decode code 1293 = .ok (.ireturn, 1) := by decide +kernel
theorem dL_law_1294 : decode code 1294 = .ok (.aload_n 1, 1) := by decide +kernel
theorem dL_law_1295 : decode code 1295 = .ok (.aload_n 0, 1) := by decide +kernel
theorem dL_law_1296 : decode code 1296 = .ok (.iload_n 3, 1) := by decide +kernel
theorem dL_law_1297 : decode code 1297 = .ok (.iconst 1, 1) := by decide +kernel
theorem dL_law_1298 : decode code 1298 = .ok (.iadd, 1) := by decide +kernel
theorem dL_law_1299 : decode code 1299 = .ok (.iaload, 1) := by decide +kernel
theorem dL_law_1300 : decode code 1300 = .ok (.aload_n 0, 1) := by decide +kernel
theorem dL_law_1301 : decode code 1301 = .ok (.iload_n 3, 1) := by decide +kernel
theorem dL_law_1302 : decode code 1302 = .ok (.iconst 2, 1) := by decide +kernel
theorem dL_law_1303 : decode code 1303 = .ok (.iadd, 1) := by decide +kernel
theorem dL_law_1304 : decode code 1304 = .ok (.iaload, 1) := by decide +kernel
theorem dL_law_1305 : decode code 1305 = .ok (.aload_n 0, 1) := by decide +kernel
theorem dL_law_1306 : decode code 1306 = .ok (.iload_n 3, 1) := by decide +kernel
theorem dL_law_1307 : decode code 1307 = .ok (.iconst 3, 1) := by decide +kernel
theorem dL_law_1308 : decode code 1308 = .ok (.iadd, 1) := by decide +kernel
theorem dL_law_1309 : decode code 1309 = .ok (.iaload, 1) := by decide +kernel
theorem dL_law_1310 : decode code 1310 = .ok (.invokevirtual 133, 3) := by decide +kernel
theorem dL_law_1313 : decode code 1313 = .ok (.aload_n 2, 1) := by decide +kernel
theorem dL_law_1314 : decode code 1314 = .ok (.aload_n 0, 1) := by decide +kernel
theorem dL_law_1315 : decode code 1315 = .ok (.iload_n 3, 1) := by decide +kernel
theorem dL_law_1316 : decode code 1316 = .ok (.iconst 1, 1) := by decide +kernel
theorem dL_law_1317 : decode code 1317 = .ok (.iadd, 1) := by decide +kernel
theorem dL_law_1318 : decode code 1318 = .ok (.iaload, 1) := by decide +kernel
theorem dL_law_1319 : decode code 1319 = .ok (.aload_n 0, 1) := by decide +kernel
theorem dL_law_1320 : decode code 1320 = .ok (.iload_n 3, 1) := by decide +kernel
theorem dL_law_1321 : decode code 1321 = .ok (.iconst 2, 1) := by decide +kernel
theorem dL_law_1322 : decode code 1322 = .ok (.iadd, 1) := by decide +kernel
theorem dL_law_1323 : decode code 1323 = .ok (.iaload, 1) := by decide +kernel
theorem dL_law_1324 : decode code 1324 = .ok (.aload_n 0, 1) := by decide +kernel
theorem dL_law_1325 : decode code 1325 = .ok (.iload_n 3, 1) := by decide +kernel
theorem dL_law_1326 : decode code 1326 = .ok (.iconst 3, 1) := by decide +kernel
theorem dL_law_1327 : decode code 1327 = .ok (.iadd, 1) := by decide +kernel
theorem dL_law_1328 : decode code 1328 = .ok (.iaload, 1) := by decide +kernel
theorem dL_law_1329 : decode code 1329 = .ok (.invokevirtual 136, 3) := by decide +kernel
theorem dL_law_1332 : decode code 1332 = .ok (.if_icmp .eq 236, 3) := by decide +kernel
theorem dL_law_1335 : decode code 1335 = .ok (.iconst 0, 1) := by decide +kernel
theorem dL_law_1336 : decode code 1336 = .ok (.ireturn, 1) := by decide +kernel
theorem dL_law_1337 : decode code 1337 = .ok (.aload_n 1, 1) := by decide +kernel
theorem dL_law_1338 : decode code 1338 = .ok (.aload_n 0, 1) := by decide +kernel
theorem dL_law_1339 : decode code 1339 = .ok (.iload_n 3, 1) := by decide +kernel
theorem dL_law_1340 : decode code 1340 = .ok (.iconst 1, 1) := by decide +kernel
theorem dL_law_1341 : decode code 1341 = .ok (.iadd, 1) := by decide +kernel
theorem dL_law_1342 : decode code 1342 = .ok (.iaload, 1) := by decide +kernel
theorem dL_law_1343 : decode code 1343 = .ok (.aload_n 0, 1) := by decide +kernel
theorem dL_law_1344 : decode code 1344 = .ok (.iload_n 3, 1) := by decide +kernel
theorem dL_law_1345 : decode code 1345 = .ok (.iconst 2, 1) := by decide +kernel
theorem dL_law_1346 : decode code 1346 = .ok (.iadd, 1) := by decide +kernel
theorem dL_law_1347 : decode code 1347 = .ok (.iaload, 1) := by decide +kernel
theorem dL_law_1348 : decode code 1348 = .ok (.invokevirtual 137, 3) := by decide +kernel
theorem dL_law_1351 : decode code 1351 = .ok (.aload_n 2, 1) := by decide +kernel
theorem dL_law_1352 : decode code 1352 = .ok (.aload_n 0, 1) := by decide +kernel
theorem dL_law_1353 : decode code 1353 = .ok (.iload_n 3, 1) := by decide +kernel
theorem dL_law_1354 : decode code 1354 = .ok (.iconst 1, 1) := by decide +kernel
theorem dL_law_1355 : decode code 1355 = .ok (.iadd, 1) := by decide +kernel
theorem dL_law_1356 : decode code 1356 = .ok (.iaload, 1) := by decide +kernel
theorem dL_law_1357 : decode code 1357 = .ok (.aload_n 0, 1) := by decide +kernel
theorem dL_law_1358 : decode code 1358 = .ok (.iload_n 3, 1) := by decide +kernel
theorem dL_law_1359 : decode code 1359 = .ok (.iconst 2, 1) := by decide +kernel
theorem dL_law_1360 : decode code 1360 = .ok (.iadd, 1) := by decide +kernel
theorem dL_law_1361 : decode code 1361 = .ok (.iaload, 1) := by decide +kernel
theorem dL_law_1362 : decode code 1362 = .ok (.invokevirtual 140, 3) := by decide +kernel
theorem dL_law_1365 : decode code 1365 = .ok (.if_icmp .eq 203, 3) := by decide +kernel
theorem dL_law_1368 : decode code 1368 = .ok (.iconst 0, 1) := by decide +kernel
theorem dL_law_1369 : decode code 1369 = .ok (.ireturn, 1) := by decide +kernel
theorem dL_law_1370 : decode code 1370 = .ok (.aload_n 1, 1) := by decide +kernel
theorem dL_law_1371 : decode code 1371 = .ok (.aload_n 0, 1) := by decide +kernel
theorem dL_law_1372 : decode code 1372 = .ok (.iload_n 3, 1) := by decide +kernel
theorem dL_law_1373 : decode code 1373 = .ok (.iconst 1, 1) := by decide +kernel
theorem dL_law_1374 : decode code 1374 = .ok (.iadd, 1) := by decide +kernel
theorem dL_law_1375 : decode code 1375 = .ok (.iaload, 1) := by decide +kernel
theorem dL_law_1376 : decode code 1376 = .ok (.aload_n 0, 1) := by decide +kernel
theorem dL_law_1377 : decode code 1377 = .ok (.iload_n 3, 1) := by decide +kernel
theorem dL_law_1378 : decode code 1378 = .ok (.iconst 2, 1) := by decide +kernel
theorem dL_law_1379 : decode code 1379 = .ok (.iadd, 1) := by decide +kernel
theorem dL_law_1380 : decode code 1380 = .ok (.iaload, 1) := by decide +kernel
theorem dL_law_1381 : decode code 1381 = .ok (.aload_n 0, 1) := by decide +kernel
theorem dL_law_1382 : decode code 1382 = .ok (.iload_n 3, 1) := by decide +kernel
theorem dL_law_1383 : decode code 1383 = .ok (.iconst 3, 1) := by decide +kernel
theorem dL_law_1384 : decode code 1384 = .ok (.iadd, 1) := by decide +kernel
theorem dL_law_1385 : decode code 1385 = .ok (.iaload, 1) := by decide +kernel
theorem dL_law_1386 : decode code 1386 = .ok (.aload_n 0, 1) := by decide +kernel
theorem dL_law_1387 : decode code 1387 = .ok (.iload_n 3, 1) := by decide +kernel
theorem dL_law_1388 : decode code 1388 = .ok (.iconst 4, 1) := by decide +kernel
theorem dL_law_1389 : decode code 1389 = .ok (.iadd, 1) := by decide +kernel
theorem dL_law_1390 : decode code 1390 = .ok (.iaload, 1) := by decide +kernel
theorem dL_law_1391 : decode code 1391 = .ok (.invokevirtual 141, 3) := by decide +kernel
theorem dL_law_1394 : decode code 1394 = .ok (.aload_n 2, 1) := by decide +kernel
theorem dL_law_1395 : decode code 1395 = .ok (.aload_n 0, 1) := by decide +kernel
theorem dL_law_1396 : decode code 1396 = .ok (.iload_n 3, 1) := by decide +kernel
theorem dL_law_1397 : decode code 1397 = .ok (.iconst 1, 1) := by decide +kernel
theorem dL_law_1398 : decode code 1398 = .ok (.iadd, 1) := by decide +kernel
theorem dL_law_1399 : decode code 1399 = .ok (.iaload, 1) := by decide +kernel
theorem dL_law_1400 : decode code 1400 = .ok (.aload_n 0, 1) := by decide +kernel
theorem dL_law_1401 : decode code 1401 = .ok (.iload_n 3, 1) := by decide +kernel
theorem dL_law_1402 : decode code 1402 = .ok (.iconst 2, 1) := by decide +kernel
theorem dL_law_1403 : decode code 1403 = .ok (.iadd, 1) := by decide +kernel
theorem dL_law_1404 : decode code 1404 = .ok (.iaload, 1) := by decide +kernel
theorem dL_law_1405 : decode code 1405 = .ok (.aload_n 0, 1) := by decide +kernel
theorem dL_law_1406 : decode code 1406 = .ok (.iload_n 3, 1) := by decide +kernel
theorem dL_law_1407 : decode code 1407 = .ok (.iconst 3, 1) := by decide +kernel
theorem dL_law_1408 : decode code 1408 = .ok (.iadd, 1) := by decide +kernel
theorem dL_law_1409 : decode code 1409 = .ok (.iaload, 1) := by decide +kernel
theorem dL_law_1410 : decode code 1410 = .ok (.aload_n 0, 1) := by decide +kernel
theorem dL_law_1411 : decode code 1411 = .ok (.iload_n 3, 1) := by decide +kernel
theorem dL_law_1412 : decode code 1412 = .ok (.iconst 4, 1) := by decide +kernel
theorem dL_law_1413 : decode code 1413 = .ok (.iadd, 1) := by decide +kernel
theorem dL_law_1414 : decode code 1414 = .ok (.iaload, 1) := by decide +kernel
theorem dL_law_1415 : decode code 1415 = .ok (.invokevirtual 144, 3) := by decide +kernel
theorem dL_law_1418 : decode code 1418 = .ok (.if_icmp .eq 150, 3) := by decide +kernel
theorem dL_law_1421 : decode code 1421 = .ok (.iconst 0, 1) := by decide +kernel
theorem dL_law_1422 : decode code 1422 = .ok (.ireturn, 1) := by decide +kernel
theorem dL_law_1423 : decode code 1423 = .ok (.aload_n 1, 1) := by decide +kernel
theorem dL_law_1424 : decode code 1424 = .ok (.aload_n 0, 1) := by decide +kernel
theorem dL_law_1425 : decode code 1425 = .ok (.iload_n 3, 1) := by decide +kernel
theorem dL_law_1426 : decode code 1426 = .ok (.iconst 1, 1) := by decide +kernel
theorem dL_law_1427 : decode code 1427 = .ok (.iadd, 1) := by decide +kernel
theorem dL_law_1428 : decode code 1428 = .ok (.iaload, 1) := by decide +kernel
theorem dL_law_1429 : decode code 1429 = .ok (.aload_n 0, 1) := by decide +kernel
theorem dL_law_1430 : decode code 1430 = .ok (.iload_n 3, 1) := by decide +kernel
theorem dL_law_1431 : decode code 1431 = .ok (.iconst 2, 1) := by decide +kernel
theorem dL_law_1432 : decode code 1432 = .ok (.iadd, 1) := by decide +kernel
theorem dL_law_1433 : decode code 1433 = .ok (.iaload, 1) := by decide +kernel
theorem dL_law_1434 : decode code 1434 = .ok (.aload_n 0, 1) := by decide +kernel
theorem dL_law_1435 : decode code 1435 = .ok (.iload_n 3, 1) := by decide +kernel
theorem dL_law_1436 : decode code 1436 = .ok (.iconst 3, 1) := by decide +kernel
theorem dL_law_1437 : decode code 1437 = .ok (.iadd, 1) := by decide +kernel
theorem dL_law_1438 : decode code 1438 = .ok (.iaload, 1) := by decide +kernel
theorem dL_law_1439 : decode code 1439 = .ok (.aload_n 0, 1) := by decide +kernel
theorem dL_law_1440 : decode code 1440 = .ok (.iload_n 3, 1) := by decide +kernel
theorem dL_law_1441 : decode code 1441 = .ok (.iconst 4, 1) := by decide +kernel
theorem dL_law_1442 : decode code 1442 = .ok (.iadd, 1) := by decide +kernel
theorem dL_law_1443 : decode code 1443 = .ok (.iaload, 1) := by decide +kernel
theorem dL_law_1444 : decode code 1444 = .ok (.aload_n 0, 1) := by decide +kernel
theorem dL_law_1445 : decode code 1445 = .ok (.iload_n 3, 1) := by decide +kernel
theorem dL_law_1446 : decode code 1446 = .ok (.iconst 5, 1) := by decide +kernel
theorem dL_law_1447 : decode code 1447 = .ok (.iadd, 1) := by decide +kernel
theorem dL_law_1448 : decode code 1448 = .ok (.iaload, 1) := by decide +kernel
theorem dL_law_1449 : decode code 1449 = .ok (.aload_n 0, 1) := by decide +kernel
theorem dL_law_1450 : decode code 1450 = .ok (.iload_n 3, 1) := by decide +kernel
theorem dL_law_1451 : decode code 1451 = .ok (.bipush 6, 2) := by decide +kernel
theorem dL_law_1453 : decode code 1453 = .ok (.iadd, 1) := by decide +kernel
theorem dL_law_1454 : decode code 1454 = .ok (.iaload, 1) := by decide +kernel
theorem dL_law_1455 : decode code 1455 = .ok (.invokevirtual 145, 3) := by decide +kernel
theorem dL_law_1458 : decode code 1458 = .ok (.aload_n 2, 1) := by decide +kernel
theorem dL_law_1459 : decode code 1459 = .ok (.aload_n 0, 1) := by decide +kernel
theorem dL_law_1460 : decode code 1460 = .ok (.iload_n 3, 1) := by decide +kernel
theorem dL_law_1461 : decode code 1461 = .ok (.iconst 1, 1) := by decide +kernel
theorem dL_law_1462 : decode code 1462 = .ok (.iadd, 1) := by decide +kernel
theorem dL_law_1463 : decode code 1463 = .ok (.iaload, 1) := by decide +kernel
theorem dL_law_1464 : decode code 1464 = .ok (.aload_n 0, 1) := by decide +kernel
theorem dL_law_1465 : decode code 1465 = .ok (.iload_n 3, 1) := by decide +kernel
theorem dL_law_1466 : decode code 1466 = .ok (.iconst 2, 1) := by decide +kernel
theorem dL_law_1467 : decode code 1467 = .ok (.iadd, 1) := by decide +kernel
theorem dL_law_1468 : decode code 1468 = .ok (.iaload, 1) := by decide +kernel
theorem dL_law_1469 : decode code 1469 = .ok (.aload_n 0, 1) := by decide +kernel
theorem dL_law_1470 : decode code 1470 = .ok (.iload_n 3, 1) := by decide +kernel
theorem dL_law_1471 : decode code 1471 = .ok (.iconst 3, 1) := by decide +kernel
theorem dL_law_1472 : decode code 1472 = .ok (.iadd, 1) := by decide +kernel
theorem dL_law_1473 : decode code 1473 = .ok (.iaload, 1) := by decide +kernel
theorem dL_law_1474 : decode code 1474 = .ok (.aload_n 0, 1) := by decide +kernel
theorem dL_law_1475 : decode code 1475 = .ok (.iload_n 3, 1) := by decide +kernel
theorem dL_law_1476 : decode code 1476 = .ok (.iconst 4, 1) := by decide +kernel
theorem dL_law_1477 : decode code 1477 = .ok (.iadd, 1) := by decide +kernel
theorem dL_law_1478 : decode code 1478 = .ok (.iaload, 1) := by decide +kernel
theorem dL_law_1479 : decode code 1479 = .ok (.aload_n 0, 1) := by decide +kernel
theorem dL_law_1480 : decode code 1480 = .ok (.iload_n 3, 1) := by decide +kernel
theorem dL_law_1481 : decode code 1481 = .ok (.iconst 5, 1) := by decide +kernel
theorem dL_law_1482 : decode code 1482 = .ok (.iadd, 1) := by decide +kernel
theorem dL_law_1483 : decode code 1483 = .ok (.iaload, 1) := by decide +kernel
theorem dL_law_1484 : decode code 1484 = .ok (.aload_n 0, 1) := by decide +kernel
theorem dL_law_1485 : decode code 1485 = .ok (.iload_n 3, 1) := by decide +kernel
theorem dL_law_1486 : decode code 1486 = .ok (.bipush 6, 2) := by decide +kernel
theorem dL_law_1488 : decode code 1488 = .ok (.iadd, 1) := by decide +kernel
theorem dL_law_1489 : decode code 1489 = .ok (.iaload, 1) := by decide +kernel
theorem dL_law_1490 : decode code 1490 = .ok (.invokevirtual 149, 3) := by decide +kernel
theorem dL_law_1493 : decode code 1493 = .ok (.lcmp, 1) := by decide +kernel
theorem dL_law_1494 : decode code 1494 = .ok (.ifCond .eq 74, 3) := by decide +kernel
theorem dL_law_1497 : decode code 1497 = .ok (.iconst 0, 1) := by decide +kernel
theorem dL_law_1498 : decode code 1498 = .ok (.ireturn, 1) := by decide +kernel
theorem dL_law_1499 : decode code 1499 = .ok (.aload_n 1, 1) := by decide +kernel
theorem dL_law_1500 : decode code 1500 = .ok (.aload_n 0, 1) := by decide +kernel
theorem dL_law_1501 : decode code 1501 = .ok (.iload_n 3, 1) := by decide +kernel
theorem dL_law_1502 : decode code 1502 = .ok (.iconst 1, 1) := by decide +kernel
theorem dL_law_1503 : decode code 1503 = .ok (.iadd, 1) := by decide +kernel
theorem dL_law_1504 : decode code 1504 = .ok (.iaload, 1) := by decide +kernel
theorem dL_law_1505 : decode code 1505 = .ok (.invokevirtual 150, 3) := by decide +kernel
theorem dL_law_1508 : decode code 1508 = .ok (.aload_n 2, 1) := by decide +kernel
theorem dL_law_1509 : decode code 1509 = .ok (.aload_n 0, 1) := by decide +kernel
theorem dL_law_1510 : decode code 1510 = .ok (.iload_n 3, 1) := by decide +kernel
theorem dL_law_1511 : decode code 1511 = .ok (.iconst 1, 1) := by decide +kernel
theorem dL_law_1512 : decode code 1512 = .ok (.iadd, 1) := by decide +kernel
theorem dL_law_1513 : decode code 1513 = .ok (.iaload, 1) := by decide +kernel
theorem dL_law_1514 : decode code 1514 = .ok (.invokevirtual 153, 3) := by decide +kernel
theorem dL_law_1517 : decode code 1517 = .ok (.if_icmp .eq 51, 3) := by decide +kernel
theorem dL_law_1520 : decode code 1520 = .ok (.iconst 0, 1) := by decide +kernel
theorem dL_law_1521 : decode code 1521 = .ok (.ireturn, 1) := by decide +kernel
theorem dL_law_1522 : decode code 1522 = .ok (.aload_n 1, 1) := by decide +kernel
theorem dL_law_1523 : decode code 1523 = .ok (.aload_n 0, 1) := by decide +kernel
theorem dL_law_1524 : decode code 1524 = .ok (.iload_n 3, 1) := by decide +kernel
theorem dL_law_1525 : decode code 1525 = .ok (.iconst 1, 1) := by decide +kernel
theorem dL_law_1526 : decode code 1526 = .ok (.iadd, 1) := by decide +kernel
theorem dL_law_1527 : decode code 1527 = .ok (.iaload, 1) := by decide +kernel
theorem dL_law_1528 : decode code 1528 = .ok (.invokevirtual 154, 3) := by decide +kernel
theorem dL_law_1531 : decode code 1531 = .ok (.aload_n 2, 1) := by decide +kernel
theorem dL_law_1532 : decode code 1532 = .ok (.aload_n 0, 1) := by decide +kernel
theorem dL_law_1533 : decode code 1533 = .ok (.iload_n 3, 1) := by decide +kernel
theorem dL_law_1534 : decode code 1534 = .ok (.iconst 1, 1) := by decide +kernel
theorem dL_law_1535 : decode code 1535 = .ok (.iadd, 1) := by decide +kernel
theorem dL_law_1536 : decode code 1536 = .ok (.iaload, 1) := by decide +kernel
theorem dL_law_1537 : decode code 1537 = .ok (.invokevirtual 158, 3) := by decide +kernel
theorem dL_law_1540 : decode code 1540 = .ok (.if_icmp .eq 28, 3) := by decide +kernel
theorem dL_law_1543 : decode code 1543 = .ok (.iconst 0, 1) := by decide +kernel
theorem dL_law_1544 : decode code 1544 = .ok (.ireturn, 1) := by decide +kernel
theorem dL_law_1545 : decode code 1545 = .ok (.aload_n 1, 1) := by decide +kernel
theorem dL_law_1546 : decode code 1546 = .ok (.aload_n 0, 1) := by decide +kernel
theorem dL_law_1547 : decode code 1547 = .ok (.iload_n 3, 1) := by decide +kernel
theorem dL_law_1548 : decode code 1548 = .ok (.iconst 1, 1) := by decide +kernel
theorem dL_law_1549 : decode code 1549 = .ok (.iadd, 1) := by decide +kernel
theorem dL_law_1550 : decode code 1550 = .ok (.iaload, 1) := by decide +kernel
theorem dL_law_1551 : decode code 1551 = .ok (.invokevirtual 159, 3) := by decide +kernel
theorem dL_law_1554 : decode code 1554 = .ok (.aload_n 2, 1) := by decide +kernel
theorem dL_law_1555 : decode code 1555 = .ok (.aload_n 0, 1) := by decide +kernel
theorem dL_law_1556 : decode code 1556 = .ok (.iload_n 3, 1) := by decide +kernel
theorem dL_law_1557 : decode code 1557 = .ok (.iconst 1, 1) := by decide +kernel
theorem dL_law_1558 : decode code 1558 = .ok (.iadd, 1) := by decide +kernel
theorem dL_law_1559 : decode code 1559 = .ok (.iaload, 1) := by decide +kernel
theorem dL_law_1560 : decode code 1560 = .ok (.invokevirtual 162, 3) := by decide +kernel
theorem dL_law_1563 : decode code 1563 = .ok (.if_icmp .eq 5, 3) := by decide +kernel
theorem dL_law_1566 : decode code 1566 = .ok (.iconst 0, 1) := by decide +kernel
theorem dL_law_1567 : decode code 1567 = .ok (.ireturn, 1) := by decide +kernel
theorem dL_law_1568 : decode code 1568 = .ok (.iinc 3 7, 3) := by decide +kernel
theorem dL_law_1571 : decode code 1571 = .ok (.goto (-1553), 3) := by decide +kernel
theorem dL_law_1574 : decode code 1574 = .ok (.iconst 1, 1) := by decide +kernel
theorem dL_law_1575 : decode code 1575 = .ok (.ireturn, 1) := by decide +kernel
