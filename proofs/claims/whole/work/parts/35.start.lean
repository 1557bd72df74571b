/-! the law from its entry: what the Statement gives, the two objects made -/
theorem an1 {a b : Cond} {A : Array Value} {s : State} (h : (Cond.and a b).before A s = true) : a.before A s = true := by rw [Cond.before_and, Bool.and_eq_true] at h; exact h.1
theorem an2 {a b : Cond} {A : Array Value} {s : State} (h : (Cond.and a b).before A s = true) : b.before A s = true := by rw [Cond.before_and, Bool.and_eq_true] at h; exact h.2
section NV
variable {A : Array Value} {s : State}
set_option maxRecDepth 100000 in
theorem nv0 (h : (Jvm.Cond.and given_1 narrow_1).before A s = true) : (Jvm.Cond.arrayOf (Jvm.Term.arg (0 : Nat)) Jvm.ClassFile.FieldType.int).before A s = true := an1 (an1 (an1 (an1 (an1 (an1 (an1 (an1 (an2 h))))))))
set_option maxRecDepth 100000 in
theorem nv1 (h : (Jvm.Cond.and given_1 narrow_1).before A s = true) : (Jvm.Cond.le (Jvm.Term.length (Jvm.Term.arg (0 : Nat))) (Jvm.Term.int (3584 : Int32))).before A s = true := an2 (an1 (an1 (an1 (an1 (an1 (an1 (an1 (an2 h))))))))
set_option maxRecDepth 100000 in
theorem nv2 (h : (Jvm.Cond.and given_1 narrow_1).before A s = true) : (Jvm.Cond.eq (Jvm.Term.static "java/lang/String" "COMPACT_STRINGS" "Z") (Jvm.Term.int (1 : Int32))).before A s = true := an1 (an2 (an1 (an1 (an1 (an1 (an1 (an1 (an2 h))))))))
set_option maxRecDepth 100000 in
theorem nv3 (h : (Jvm.Cond.and given_1 narrow_1).before A s = true) : (Jvm.Cond.isRef (Jvm.Term.static "jdk/internal/util/Preconditions" "SIOOBE_FORMATTER" "Ljava/util/function/BiFunction;")).before A s = true := an2 (an2 (an1 (an1 (an1 (an1 (an1 (an1 (an2 h))))))))
set_option maxRecDepth 100000 in
theorem nv4 (h : (Jvm.Cond.and given_1 narrow_1).before A s = true) : (Jvm.Cond.eq (Jvm.Term.static "java/lang/StringUTF16" "$assertionsDisabled" "Z") (Jvm.Term.int (1 : Int32))).before A s = true := an1 (an1 (an2 (an1 (an1 (an1 (an1 (an1 (an2 h))))))))
set_option maxRecDepth 100000 in
theorem nv5 (h : (Jvm.Cond.and given_1 narrow_1).before A s = true) : (Jvm.Cond.eq (Jvm.Term.static "java/lang/StringUTF16" "HI_BYTE_SHIFT" "I") (Jvm.Term.int (0 : Int32))).before A s = true := an2 (an1 (an2 (an1 (an1 (an1 (an1 (an1 (an2 h))))))))
set_option maxRecDepth 100000 in
theorem nv6 (h : (Jvm.Cond.and given_1 narrow_1).before A s = true) : (Jvm.Cond.eq (Jvm.Term.static "java/lang/StringUTF16" "LO_BYTE_SHIFT" "I") (Jvm.Term.int (8 : Int32))).before A s = true := an1 (an2 (an2 (an1 (an1 (an1 (an1 (an1 (an2 h))))))))
set_option maxRecDepth 100000 in
theorem nv51 (h : (Jvm.Cond.and given_1 narrow_1).before A s = true) : (Jvm.Cond.exactly (Jvm.Term.string "PavementWalk$PassageText" (46 : Nat)) "java/lang/String").before A s = true := an2 (an2 (an2 (an1 (an2 (an1 (an2 (an1 (an1 (an2 h)))))))))
set_option maxRecDepth 100000 in
theorem nv52 (h : (Jvm.Cond.and given_1 narrow_1).before A s = true) : (Jvm.Cond.eq (Jvm.Term.field (Jvm.Term.string "PavementWalk$PassageText" (46 : Nat)) "java/lang/String" "coder" "B") (Jvm.Term.int (0 : Int32))).before A s = true := an1 (an1 (an2 (an2 (an1 (an2 (an1 (an1 (an2 h))))))))
set_option maxRecDepth 100000 in
theorem nv53 (h : (Jvm.Cond.and given_1 narrow_1).before A s = true) : (Jvm.Cond.arrayOf (Jvm.Term.field (Jvm.Term.string "PavementWalk$PassageText" (46 : Nat)) "java/lang/String" "value" "[B") Jvm.ClassFile.FieldType.byte).before A s = true := an2 (an1 (an2 (an2 (an1 (an2 (an1 (an1 (an2 h))))))))
set_option maxRecDepth 100000 in
theorem nv54 (h : (Jvm.Cond.and given_1 narrow_1).before A s = true) : (Jvm.Cond.eq (Jvm.Term.length (Jvm.Term.field (Jvm.Term.string "PavementWalk$PassageText" (46 : Nat)) "java/lang/String" "value" "[B")) (Jvm.Term.int (4 : Int32))).before A s = true := an1 (an2 (an2 (an2 (an1 (an2 (an1 (an1 (an2 h))))))))
set_option maxRecDepth 100000 in
theorem nv55 (h : (Jvm.Cond.and given_1 narrow_1).before A s = true) : (Jvm.Cond.eq (Jvm.Term.elem (Jvm.Term.field (Jvm.Term.string "PavementWalk$PassageText" (46 : Nat)) "java/lang/String" "value" "[B") (Jvm.Term.int (0 : Int32))) (Jvm.Term.int (115 : Int32))).before A s = true := an1 (an2 (an2 (an2 (an2 (an1 (an2 (an1 (an1 (an2 h)))))))))
set_option maxRecDepth 100000 in
theorem nv56 (h : (Jvm.Cond.and given_1 narrow_1).before A s = true) : (Jvm.Cond.eq (Jvm.Term.elem (Jvm.Term.field (Jvm.Term.string "PavementWalk$PassageText" (46 : Nat)) "java/lang/String" "value" "[B") (Jvm.Term.int (1 : Int32))) (Jvm.Term.int (105 : Int32))).before A s = true := an2 (an2 (an2 (an2 (an2 (an1 (an2 (an1 (an1 (an2 h)))))))))
set_option maxRecDepth 100000 in
theorem nv57 (h : (Jvm.Cond.and given_1 narrow_1).before A s = true) : (Jvm.Cond.eq (Jvm.Term.elem (Jvm.Term.field (Jvm.Term.string "PavementWalk$PassageText" (46 : Nat)) "java/lang/String" "value" "[B") (Jvm.Term.int (2 : Int32))) (Jvm.Term.int (122 : Int32))).before A s = true := an1 (an1 (an1 (an1 (an2 (an2 (an1 (an1 (an2 h))))))))
set_option maxRecDepth 100000 in
theorem nv58 (h : (Jvm.Cond.and given_1 narrow_1).before A s = true) : (Jvm.Cond.eq (Jvm.Term.elem (Jvm.Term.field (Jvm.Term.string "PavementWalk$PassageText" (46 : Nat)) "java/lang/String" "value" "[B") (Jvm.Term.int (3 : Int32))) (Jvm.Term.int (101 : Int32))).before A s = true := an2 (an1 (an1 (an1 (an2 (an2 (an1 (an1 (an2 h))))))))
set_option maxRecDepth 100000 in
theorem nv59 (h : (Jvm.Cond.and given_1 narrow_1).before A s = true) : (Jvm.Cond.exactly (Jvm.Term.string "PavementWalk$PassageText" (65 : Nat)) "java/lang/String").before A s = true := an1 (an2 (an1 (an1 (an2 (an2 (an1 (an1 (an2 h))))))))
set_option maxRecDepth 100000 in
theorem nv60 (h : (Jvm.Cond.and given_1 narrow_1).before A s = true) : (Jvm.Cond.eq (Jvm.Term.field (Jvm.Term.string "PavementWalk$PassageText" (65 : Nat)) "java/lang/String" "coder" "B") (Jvm.Term.int (0 : Int32))).before A s = true := an1 (an2 (an2 (an1 (an1 (an2 (an2 (an1 (an1 (an2 h)))))))))
set_option maxRecDepth 100000 in
theorem nv61 (h : (Jvm.Cond.and given_1 narrow_1).before A s = true) : (Jvm.Cond.arrayOf (Jvm.Term.field (Jvm.Term.string "PavementWalk$PassageText" (65 : Nat)) "java/lang/String" "value" "[B") Jvm.ClassFile.FieldType.byte).before A s = true := an2 (an2 (an2 (an1 (an1 (an2 (an2 (an1 (an1 (an2 h)))))))))
set_option maxRecDepth 100000 in
theorem nv62 (h : (Jvm.Cond.and given_1 narrow_1).before A s = true) : (Jvm.Cond.eq (Jvm.Term.length (Jvm.Term.field (Jvm.Term.string "PavementWalk$PassageText" (65 : Nat)) "java/lang/String" "value" "[B")) (Jvm.Term.int (4 : Int32))).before A s = true := an1 (an1 (an2 (an1 (an2 (an2 (an1 (an1 (an2 h))))))))
set_option maxRecDepth 100000 in
theorem nv63 (h : (Jvm.Cond.and given_1 narrow_1).before A s = true) : (Jvm.Cond.eq (Jvm.Term.elem (Jvm.Term.field (Jvm.Term.string "PavementWalk$PassageText" (65 : Nat)) "java/lang/String" "value" "[B") (Jvm.Term.int (0 : Int32))) (Jvm.Term.int (119 : Int32))).before A s = true := an2 (an1 (an2 (an1 (an2 (an2 (an1 (an1 (an2 h))))))))
set_option maxRecDepth 100000 in
theorem nv64 (h : (Jvm.Cond.and given_1 narrow_1).before A s = true) : (Jvm.Cond.eq (Jvm.Term.elem (Jvm.Term.field (Jvm.Term.string "PavementWalk$PassageText" (65 : Nat)) "java/lang/String" "value" "[B") (Jvm.Term.int (1 : Int32))) (Jvm.Term.int (97 : Int32))).before A s = true := an1 (an2 (an2 (an1 (an2 (an2 (an1 (an1 (an2 h))))))))
set_option maxRecDepth 100000 in
theorem nv65 (h : (Jvm.Cond.and given_1 narrow_1).before A s = true) : (Jvm.Cond.eq (Jvm.Term.elem (Jvm.Term.field (Jvm.Term.string "PavementWalk$PassageText" (65 : Nat)) "java/lang/String" "value" "[B") (Jvm.Term.int (2 : Int32))) (Jvm.Term.int (108 : Int32))).before A s = true := an1 (an2 (an2 (an2 (an1 (an2 (an2 (an1 (an1 (an2 h)))))))))
set_option maxRecDepth 100000 in
theorem nv66 (h : (Jvm.Cond.and given_1 narrow_1).before A s = true) : (Jvm.Cond.eq (Jvm.Term.elem (Jvm.Term.field (Jvm.Term.string "PavementWalk$PassageText" (65 : Nat)) "java/lang/String" "value" "[B") (Jvm.Term.int (3 : Int32))) (Jvm.Term.int (108 : Int32))).before A s = true := an2 (an2 (an2 (an2 (an1 (an2 (an2 (an1 (an1 (an2 h)))))))))
set_option maxRecDepth 100000 in
theorem nv67 (h : (Jvm.Cond.and given_1 narrow_1).before A s = true) : (Jvm.Cond.exactly (Jvm.Term.string "PavementWalk$PassageText" (74 : Nat)) "java/lang/String").before A s = true := an1 (an1 (an1 (an2 (an2 (an2 (an1 (an1 (an2 h))))))))
set_option maxRecDepth 100000 in
theorem nv68 (h : (Jvm.Cond.and given_1 narrow_1).before A s = true) : (Jvm.Cond.eq (Jvm.Term.field (Jvm.Term.string "PavementWalk$PassageText" (74 : Nat)) "java/lang/String" "coder" "B") (Jvm.Term.int (0 : Int32))).before A s = true := an2 (an1 (an1 (an2 (an2 (an2 (an1 (an1 (an2 h))))))))
set_option maxRecDepth 100000 in
theorem nv69 (h : (Jvm.Cond.and given_1 narrow_1).before A s = true) : (Jvm.Cond.arrayOf (Jvm.Term.field (Jvm.Term.string "PavementWalk$PassageText" (74 : Nat)) "java/lang/String" "value" "[B") Jvm.ClassFile.FieldType.byte).before A s = true := an1 (an2 (an1 (an2 (an2 (an2 (an1 (an1 (an2 h))))))))
set_option maxRecDepth 100000 in
theorem nv70 (h : (Jvm.Cond.and given_1 narrow_1).before A s = true) : (Jvm.Cond.eq (Jvm.Term.length (Jvm.Term.field (Jvm.Term.string "PavementWalk$PassageText" (74 : Nat)) "java/lang/String" "value" "[B")) (Jvm.Term.int (6 : Int32))).before A s = true := an1 (an2 (an2 (an1 (an2 (an2 (an2 (an1 (an1 (an2 h)))))))))
set_option maxRecDepth 100000 in
theorem nv71 (h : (Jvm.Cond.and given_1 narrow_1).before A s = true) : (Jvm.Cond.eq (Jvm.Term.elem (Jvm.Term.field (Jvm.Term.string "PavementWalk$PassageText" (74 : Nat)) "java/lang/String" "value" "[B") (Jvm.Term.int (0 : Int32))) (Jvm.Term.int (119 : Int32))).before A s = true := an2 (an2 (an2 (an1 (an2 (an2 (an2 (an1 (an1 (an2 h)))))))))
set_option maxRecDepth 100000 in
theorem nv72 (h : (Jvm.Cond.and given_1 narrow_1).before A s = true) : (Jvm.Cond.eq (Jvm.Term.elem (Jvm.Term.field (Jvm.Term.string "PavementWalk$PassageText" (74 : Nat)) "java/lang/String" "value" "[B") (Jvm.Term.int (1 : Int32))) (Jvm.Term.int (97 : Int32))).before A s = true := an1 (an1 (an2 (an2 (an2 (an2 (an1 (an1 (an2 h))))))))
set_option maxRecDepth 100000 in
theorem nv73 (h : (Jvm.Cond.and given_1 narrow_1).before A s = true) : (Jvm.Cond.eq (Jvm.Term.elem (Jvm.Term.field (Jvm.Term.string "PavementWalk$PassageText" (74 : Nat)) "java/lang/String" "value" "[B") (Jvm.Term.int (2 : Int32))) (Jvm.Term.int (108 : Int32))).before A s = true := an2 (an1 (an2 (an2 (an2 (an2 (an1 (an1 (an2 h))))))))
set_option maxRecDepth 100000 in
theorem nv74 (h : (Jvm.Cond.and given_1 narrow_1).before A s = true) : (Jvm.Cond.eq (Jvm.Term.elem (Jvm.Term.field (Jvm.Term.string "PavementWalk$PassageText" (74 : Nat)) "java/lang/String" "value" "[B") (Jvm.Term.int (3 : Int32))) (Jvm.Term.int (107 : Int32))).before A s = true := an1 (an2 (an2 (an2 (an2 (an2 (an1 (an1 (an2 h))))))))
set_option maxRecDepth 100000 in
theorem nv75 (h : (Jvm.Cond.and given_1 narrow_1).before A s = true) : (Jvm.Cond.eq (Jvm.Term.elem (Jvm.Term.field (Jvm.Term.string "PavementWalk$PassageText" (74 : Nat)) "java/lang/String" "value" "[B") (Jvm.Term.int (4 : Int32))) (Jvm.Term.int (101 : Int32))).before A s = true := an1 (an2 (an2 (an2 (an2 (an2 (an2 (an1 (an1 (an2 h)))))))))
set_option maxRecDepth 100000 in
theorem nv76 (h : (Jvm.Cond.and given_1 narrow_1).before A s = true) : (Jvm.Cond.eq (Jvm.Term.elem (Jvm.Term.field (Jvm.Term.string "PavementWalk$PassageText" (74 : Nat)) "java/lang/String" "value" "[B") (Jvm.Term.int (5 : Int32))) (Jvm.Term.int (114 : Int32))).before A s = true := an2 (an2 (an2 (an2 (an2 (an2 (an2 (an1 (an1 (an2 h)))))))))
set_option maxRecDepth 100000 in
theorem nv77 (h : (Jvm.Cond.and given_1 narrow_1).before A s = true) : (Jvm.Cond.exactly (Jvm.Term.string "PavementWalk$PassageText" (126 : Nat)) "java/lang/String").before A s = true := an1 (an1 (an1 (an1 (an1 (an1 (an2 (an1 (an2 h))))))))
set_option maxRecDepth 100000 in
theorem nv78 (h : (Jvm.Cond.and given_1 narrow_1).before A s = true) : (Jvm.Cond.eq (Jvm.Term.field (Jvm.Term.string "PavementWalk$PassageText" (126 : Nat)) "java/lang/String" "coder" "B") (Jvm.Term.int (0 : Int32))).before A s = true := an2 (an1 (an1 (an1 (an1 (an1 (an2 (an1 (an2 h))))))))
set_option maxRecDepth 100000 in
theorem nv79 (h : (Jvm.Cond.and given_1 narrow_1).before A s = true) : (Jvm.Cond.arrayOf (Jvm.Term.field (Jvm.Term.string "PavementWalk$PassageText" (126 : Nat)) "java/lang/String" "value" "[B") Jvm.ClassFile.FieldType.byte).before A s = true := an1 (an2 (an1 (an1 (an1 (an1 (an2 (an1 (an2 h))))))))
set_option maxRecDepth 100000 in
theorem nv80 (h : (Jvm.Cond.and given_1 narrow_1).before A s = true) : (Jvm.Cond.eq (Jvm.Term.length (Jvm.Term.field (Jvm.Term.string "PavementWalk$PassageText" (126 : Nat)) "java/lang/String" "value" "[B")) (Jvm.Term.int (4 : Int32))).before A s = true := an2 (an2 (an1 (an1 (an1 (an1 (an2 (an1 (an2 h))))))))
set_option maxRecDepth 100000 in
theorem nv81 (h : (Jvm.Cond.and given_1 narrow_1).before A s = true) : (Jvm.Cond.eq (Jvm.Term.elem (Jvm.Term.field (Jvm.Term.string "PavementWalk$PassageText" (126 : Nat)) "java/lang/String" "value" "[B") (Jvm.Term.int (0 : Int32))) (Jvm.Term.int (101 : Int32))).before A s = true := an1 (an1 (an2 (an1 (an1 (an1 (an2 (an1 (an2 h))))))))
set_option maxRecDepth 100000 in
theorem nv82 (h : (Jvm.Cond.and given_1 narrow_1).before A s = true) : (Jvm.Cond.eq (Jvm.Term.elem (Jvm.Term.field (Jvm.Term.string "PavementWalk$PassageText" (126 : Nat)) "java/lang/String" "value" "[B") (Jvm.Term.int (1 : Int32))) (Jvm.Term.int (97 : Int32))).before A s = true := an2 (an1 (an2 (an1 (an1 (an1 (an2 (an1 (an2 h))))))))
set_option maxRecDepth 100000 in
theorem nv83 (h : (Jvm.Cond.and given_1 narrow_1).before A s = true) : (Jvm.Cond.eq (Jvm.Term.elem (Jvm.Term.field (Jvm.Term.string "PavementWalk$PassageText" (126 : Nat)) "java/lang/String" "value" "[B") (Jvm.Term.int (2 : Int32))) (Jvm.Term.int (115 : Int32))).before A s = true := an1 (an2 (an2 (an1 (an1 (an1 (an2 (an1 (an2 h))))))))
set_option maxRecDepth 100000 in
theorem nv84 (h : (Jvm.Cond.and given_1 narrow_1).before A s = true) : (Jvm.Cond.eq (Jvm.Term.elem (Jvm.Term.field (Jvm.Term.string "PavementWalk$PassageText" (126 : Nat)) "java/lang/String" "value" "[B") (Jvm.Term.int (3 : Int32))) (Jvm.Term.int (116 : Int32))).before A s = true := an1 (an2 (an2 (an2 (an1 (an1 (an1 (an2 (an1 (an2 h)))))))))
set_option maxRecDepth 100000 in
theorem nv85 (h : (Jvm.Cond.and given_1 narrow_1).before A s = true) : (Jvm.Cond.exactly (Jvm.Term.string "PavementWalk$PassageText" (128 : Nat)) "java/lang/String").before A s = true := an2 (an2 (an2 (an2 (an1 (an1 (an1 (an2 (an1 (an2 h)))))))))
set_option maxRecDepth 100000 in
theorem nv86 (h : (Jvm.Cond.and given_1 narrow_1).before A s = true) : (Jvm.Cond.eq (Jvm.Term.field (Jvm.Term.string "PavementWalk$PassageText" (128 : Nat)) "java/lang/String" "coder" "B") (Jvm.Term.int (0 : Int32))).before A s = true := an1 (an1 (an1 (an2 (an1 (an1 (an2 (an1 (an2 h))))))))
set_option maxRecDepth 100000 in
theorem nv87 (h : (Jvm.Cond.and given_1 narrow_1).before A s = true) : (Jvm.Cond.arrayOf (Jvm.Term.field (Jvm.Term.string "PavementWalk$PassageText" (128 : Nat)) "java/lang/String" "value" "[B") Jvm.ClassFile.FieldType.byte).before A s = true := an2 (an1 (an1 (an2 (an1 (an1 (an2 (an1 (an2 h))))))))
set_option maxRecDepth 100000 in
theorem nv88 (h : (Jvm.Cond.and given_1 narrow_1).before A s = true) : (Jvm.Cond.eq (Jvm.Term.length (Jvm.Term.field (Jvm.Term.string "PavementWalk$PassageText" (128 : Nat)) "java/lang/String" "value" "[B")) (Jvm.Term.int (4 : Int32))).before A s = true := an1 (an2 (an1 (an2 (an1 (an1 (an2 (an1 (an2 h))))))))
set_option maxRecDepth 100000 in
theorem nv89 (h : (Jvm.Cond.and given_1 narrow_1).before A s = true) : (Jvm.Cond.eq (Jvm.Term.elem (Jvm.Term.field (Jvm.Term.string "PavementWalk$PassageText" (128 : Nat)) "java/lang/String" "value" "[B") (Jvm.Term.int (0 : Int32))) (Jvm.Term.int (119 : Int32))).before A s = true := an1 (an2 (an2 (an1 (an2 (an1 (an1 (an2 (an1 (an2 h)))))))))
set_option maxRecDepth 100000 in
theorem nv90 (h : (Jvm.Cond.and given_1 narrow_1).before A s = true) : (Jvm.Cond.eq (Jvm.Term.elem (Jvm.Term.field (Jvm.Term.string "PavementWalk$PassageText" (128 : Nat)) "java/lang/String" "value" "[B") (Jvm.Term.int (1 : Int32))) (Jvm.Term.int (101 : Int32))).before A s = true := an2 (an2 (an2 (an1 (an2 (an1 (an1 (an2 (an1 (an2 h)))))))))
set_option maxRecDepth 100000 in
theorem nv91 (h : (Jvm.Cond.and given_1 narrow_1).before A s = true) : (Jvm.Cond.eq (Jvm.Term.elem (Jvm.Term.field (Jvm.Term.string "PavementWalk$PassageText" (128 : Nat)) "java/lang/String" "value" "[B") (Jvm.Term.int (2 : Int32))) (Jvm.Term.int (115 : Int32))).before A s = true := an1 (an1 (an2 (an2 (an1 (an1 (an2 (an1 (an2 h))))))))
set_option maxRecDepth 100000 in
theorem nv92 (h : (Jvm.Cond.and given_1 narrow_1).before A s = true) : (Jvm.Cond.eq (Jvm.Term.elem (Jvm.Term.field (Jvm.Term.string "PavementWalk$PassageText" (128 : Nat)) "java/lang/String" "value" "[B") (Jvm.Term.int (3 : Int32))) (Jvm.Term.int (116 : Int32))).before A s = true := an2 (an1 (an2 (an2 (an1 (an1 (an2 (an1 (an2 h))))))))
set_option maxRecDepth 100000 in
theorem nv93 (h : (Jvm.Cond.and given_1 narrow_1).before A s = true) : (Jvm.Cond.exactly (Jvm.Term.string "PavementWalk$PassageText" (79 : Nat)) "java/lang/String").before A s = true := an1 (an2 (an2 (an2 (an1 (an1 (an2 (an1 (an2 h))))))))
set_option maxRecDepth 100000 in
theorem nv94 (h : (Jvm.Cond.and given_1 narrow_1).before A s = true) : (Jvm.Cond.eq (Jvm.Term.field (Jvm.Term.string "PavementWalk$PassageText" (79 : Nat)) "java/lang/String" "coder" "B") (Jvm.Term.int (0 : Int32))).before A s = true := an1 (an2 (an2 (an2 (an2 (an1 (an1 (an2 (an1 (an2 h)))))))))
set_option maxRecDepth 100000 in
theorem nv95 (h : (Jvm.Cond.and given_1 narrow_1).before A s = true) : (Jvm.Cond.arrayOf (Jvm.Term.field (Jvm.Term.string "PavementWalk$PassageText" (79 : Nat)) "java/lang/String" "value" "[B") Jvm.ClassFile.FieldType.byte).before A s = true := an2 (an2 (an2 (an2 (an2 (an1 (an1 (an2 (an1 (an2 h)))))))))
set_option maxRecDepth 100000 in
theorem nv96 (h : (Jvm.Cond.and given_1 narrow_1).before A s = true) : (Jvm.Cond.eq (Jvm.Term.length (Jvm.Term.field (Jvm.Term.string "PavementWalk$PassageText" (79 : Nat)) "java/lang/String" "value" "[B")) (Jvm.Term.int (4 : Int32))).before A s = true := an1 (an1 (an1 (an1 (an2 (an1 (an2 (an1 (an2 h))))))))
set_option maxRecDepth 100000 in
theorem nv97 (h : (Jvm.Cond.and given_1 narrow_1).before A s = true) : (Jvm.Cond.eq (Jvm.Term.elem (Jvm.Term.field (Jvm.Term.string "PavementWalk$PassageText" (79 : Nat)) "java/lang/String" "value" "[B") (Jvm.Term.int (0 : Int32))) (Jvm.Term.int (112 : Int32))).before A s = true := an2 (an1 (an1 (an1 (an2 (an1 (an2 (an1 (an2 h))))))))
set_option maxRecDepth 100000 in
theorem nv98 (h : (Jvm.Cond.and given_1 narrow_1).before A s = true) : (Jvm.Cond.eq (Jvm.Term.elem (Jvm.Term.field (Jvm.Term.string "PavementWalk$PassageText" (79 : Nat)) "java/lang/String" "value" "[B") (Jvm.Term.int (1 : Int32))) (Jvm.Term.int (97 : Int32))).before A s = true := an1 (an2 (an1 (an1 (an2 (an1 (an2 (an1 (an2 h))))))))
set_option maxRecDepth 100000 in
theorem nv99 (h : (Jvm.Cond.and given_1 narrow_1).before A s = true) : (Jvm.Cond.eq (Jvm.Term.elem (Jvm.Term.field (Jvm.Term.string "PavementWalk$PassageText" (79 : Nat)) "java/lang/String" "value" "[B") (Jvm.Term.int (2 : Int32))) (Jvm.Term.int (99 : Int32))).before A s = true := an2 (an2 (an1 (an1 (an2 (an1 (an2 (an1 (an2 h))))))))
set_option maxRecDepth 100000 in
theorem nv100 (h : (Jvm.Cond.and given_1 narrow_1).before A s = true) : (Jvm.Cond.eq (Jvm.Term.elem (Jvm.Term.field (Jvm.Term.string "PavementWalk$PassageText" (79 : Nat)) "java/lang/String" "value" "[B") (Jvm.Term.int (3 : Int32))) (Jvm.Term.int (101 : Int32))).before A s = true := an1 (an1 (an2 (an1 (an2 (an1 (an2 (an1 (an2 h))))))))
set_option maxRecDepth 100000 in
theorem nv101 (h : (Jvm.Cond.and given_1 narrow_1).before A s = true) : (Jvm.Cond.exactly (Jvm.Term.string "PavementWalk$PassageText" (88 : Nat)) "java/lang/String").before A s = true := an2 (an1 (an2 (an1 (an2 (an1 (an2 (an1 (an2 h))))))))
set_option maxRecDepth 100000 in
theorem nv102 (h : (Jvm.Cond.and given_1 narrow_1).before A s = true) : (Jvm.Cond.eq (Jvm.Term.field (Jvm.Term.string "PavementWalk$PassageText" (88 : Nat)) "java/lang/String" "coder" "B") (Jvm.Term.int (0 : Int32))).before A s = true := an1 (an2 (an2 (an1 (an2 (an1 (an2 (an1 (an2 h))))))))
set_option maxRecDepth 100000 in
theorem nv103 (h : (Jvm.Cond.and given_1 narrow_1).before A s = true) : (Jvm.Cond.arrayOf (Jvm.Term.field (Jvm.Term.string "PavementWalk$PassageText" (88 : Nat)) "java/lang/String" "value" "[B") Jvm.ClassFile.FieldType.byte).before A s = true := an1 (an2 (an2 (an2 (an1 (an2 (an1 (an2 (an1 (an2 h)))))))))
set_option maxRecDepth 100000 in
theorem nv104 (h : (Jvm.Cond.and given_1 narrow_1).before A s = true) : (Jvm.Cond.eq (Jvm.Term.length (Jvm.Term.field (Jvm.Term.string "PavementWalk$PassageText" (88 : Nat)) "java/lang/String" "value" "[B")) (Jvm.Term.int (4 : Int32))).before A s = true := an2 (an2 (an2 (an2 (an1 (an2 (an1 (an2 (an1 (an2 h)))))))))
set_option maxRecDepth 100000 in
theorem nv105 (h : (Jvm.Cond.and given_1 narrow_1).before A s = true) : (Jvm.Cond.eq (Jvm.Term.elem (Jvm.Term.field (Jvm.Term.string "PavementWalk$PassageText" (88 : Nat)) "java/lang/String" "value" "[B") (Jvm.Term.int (0 : Int32))) (Jvm.Term.int (108 : Int32))).before A s = true := an1 (an1 (an1 (an2 (an2 (an1 (an2 (an1 (an2 h))))))))
set_option maxRecDepth 100000 in
theorem nv106 (h : (Jvm.Cond.and given_1 narrow_1).before A s = true) : (Jvm.Cond.eq (Jvm.Term.elem (Jvm.Term.field (Jvm.Term.string "PavementWalk$PassageText" (88 : Nat)) "java/lang/String" "value" "[B") (Jvm.Term.int (1 : Int32))) (Jvm.Term.int (97 : Int32))).before A s = true := an2 (an1 (an1 (an2 (an2 (an1 (an2 (an1 (an2 h))))))))
set_option maxRecDepth 100000 in
theorem nv107 (h : (Jvm.Cond.and given_1 narrow_1).before A s = true) : (Jvm.Cond.eq (Jvm.Term.elem (Jvm.Term.field (Jvm.Term.string "PavementWalk$PassageText" (88 : Nat)) "java/lang/String" "value" "[B") (Jvm.Term.int (2 : Int32))) (Jvm.Term.int (116 : Int32))).before A s = true := an1 (an2 (an1 (an2 (an2 (an1 (an2 (an1 (an2 h))))))))
set_option maxRecDepth 100000 in
theorem nv108 (h : (Jvm.Cond.and given_1 narrow_1).before A s = true) : (Jvm.Cond.eq (Jvm.Term.elem (Jvm.Term.field (Jvm.Term.string "PavementWalk$PassageText" (88 : Nat)) "java/lang/String" "value" "[B") (Jvm.Term.int (3 : Int32))) (Jvm.Term.int (101 : Int32))).before A s = true := an1 (an2 (an2 (an1 (an2 (an2 (an1 (an2 (an1 (an2 h)))))))))
set_option maxRecDepth 100000 in
theorem nv109 (h : (Jvm.Cond.and given_1 narrow_1).before A s = true) : (Jvm.Cond.exactly (Jvm.Term.string "PavementWalk$PassageText" (92 : Nat)) "java/lang/String").before A s = true := an2 (an2 (an2 (an1 (an2 (an2 (an1 (an2 (an1 (an2 h)))))))))
set_option maxRecDepth 100000 in
theorem nv110 (h : (Jvm.Cond.and given_1 narrow_1).before A s = true) : (Jvm.Cond.eq (Jvm.Term.field (Jvm.Term.string "PavementWalk$PassageText" (92 : Nat)) "java/lang/String" "coder" "B") (Jvm.Term.int (0 : Int32))).before A s = true := an1 (an1 (an2 (an2 (an2 (an1 (an2 (an1 (an2 h))))))))
set_option maxRecDepth 100000 in
theorem nv111 (h : (Jvm.Cond.and given_1 narrow_1).before A s = true) : (Jvm.Cond.arrayOf (Jvm.Term.field (Jvm.Term.string "PavementWalk$PassageText" (92 : Nat)) "java/lang/String" "value" "[B") Jvm.ClassFile.FieldType.byte).before A s = true := an2 (an1 (an2 (an2 (an2 (an1 (an2 (an1 (an2 h))))))))
set_option maxRecDepth 100000 in
theorem nv112 (h : (Jvm.Cond.and given_1 narrow_1).before A s = true) : (Jvm.Cond.eq (Jvm.Term.length (Jvm.Term.field (Jvm.Term.string "PavementWalk$PassageText" (92 : Nat)) "java/lang/String" "value" "[B")) (Jvm.Term.int (5 : Int32))).before A s = true := an1 (an2 (an2 (an2 (an2 (an1 (an2 (an1 (an2 h))))))))
set_option maxRecDepth 100000 in
theorem nv113 (h : (Jvm.Cond.and given_1 narrow_1).before A s = true) : (Jvm.Cond.eq (Jvm.Term.elem (Jvm.Term.field (Jvm.Term.string "PavementWalk$PassageText" (92 : Nat)) "java/lang/String" "value" "[B") (Jvm.Term.int (0 : Int32))) (Jvm.Term.int (104 : Int32))).before A s = true := an1 (an2 (an2 (an2 (an2 (an2 (an1 (an2 (an1 (an2 h)))))))))
set_option maxRecDepth 100000 in
theorem nv114 (h : (Jvm.Cond.and given_1 narrow_1).before A s = true) : (Jvm.Cond.eq (Jvm.Term.elem (Jvm.Term.field (Jvm.Term.string "PavementWalk$PassageText" (92 : Nat)) "java/lang/String" "value" "[B") (Jvm.Term.int (1 : Int32))) (Jvm.Term.int (97 : Int32))).before A s = true := an2 (an2 (an2 (an2 (an2 (an2 (an1 (an2 (an1 (an2 h)))))))))
set_option maxRecDepth 100000 in
theorem nv115 (h : (Jvm.Cond.and given_1 narrow_1).before A s = true) : (Jvm.Cond.eq (Jvm.Term.elem (Jvm.Term.field (Jvm.Term.string "PavementWalk$PassageText" (92 : Nat)) "java/lang/String" "value" "[B") (Jvm.Term.int (2 : Int32))) (Jvm.Term.int (115 : Int32))).before A s = true := an1 (an1 (an1 (an1 (an1 (an2 (an2 (an1 (an2 h))))))))
set_option maxRecDepth 100000 in
theorem nv116 (h : (Jvm.Cond.and given_1 narrow_1).before A s = true) : (Jvm.Cond.eq (Jvm.Term.elem (Jvm.Term.field (Jvm.Term.string "PavementWalk$PassageText" (92 : Nat)) "java/lang/String" "value" "[B") (Jvm.Term.int (3 : Int32))) (Jvm.Term.int (116 : Int32))).before A s = true := an2 (an1 (an1 (an1 (an1 (an2 (an2 (an1 (an2 h))))))))
set_option maxRecDepth 100000 in
theorem nv117 (h : (Jvm.Cond.and given_1 narrow_1).before A s = true) : (Jvm.Cond.eq (Jvm.Term.elem (Jvm.Term.field (Jvm.Term.string "PavementWalk$PassageText" (92 : Nat)) "java/lang/String" "value" "[B") (Jvm.Term.int (4 : Int32))) (Jvm.Term.int (101 : Int32))).before A s = true := an1 (an2 (an1 (an1 (an1 (an2 (an2 (an1 (an2 h))))))))
set_option maxRecDepth 100000 in
theorem nv118 (h : (Jvm.Cond.and given_1 narrow_1).before A s = true) : (Jvm.Cond.exactly (Jvm.Term.string "PavementWalk$PassageText" (96 : Nat)) "java/lang/String").before A s = true := an2 (an2 (an1 (an1 (an1 (an2 (an2 (an1 (an2 h))))))))
set_option maxRecDepth 100000 in
theorem nv119 (h : (Jvm.Cond.and given_1 narrow_1).before A s = true) : (Jvm.Cond.eq (Jvm.Term.field (Jvm.Term.string "PavementWalk$PassageText" (96 : Nat)) "java/lang/String" "coder" "B") (Jvm.Term.int (0 : Int32))).before A s = true := an1 (an1 (an2 (an1 (an1 (an2 (an2 (an1 (an2 h))))))))
set_option maxRecDepth 100000 in
theorem nv120 (h : (Jvm.Cond.and given_1 narrow_1).before A s = true) : (Jvm.Cond.arrayOf (Jvm.Term.field (Jvm.Term.string "PavementWalk$PassageText" (96 : Nat)) "java/lang/String" "value" "[B") Jvm.ClassFile.FieldType.byte).before A s = true := an2 (an1 (an2 (an1 (an1 (an2 (an2 (an1 (an2 h))))))))
set_option maxRecDepth 100000 in
theorem nv121 (h : (Jvm.Cond.and given_1 narrow_1).before A s = true) : (Jvm.Cond.eq (Jvm.Term.length (Jvm.Term.field (Jvm.Term.string "PavementWalk$PassageText" (96 : Nat)) "java/lang/String" "value" "[B")) (Jvm.Term.int (4 : Int32))).before A s = true := an1 (an2 (an2 (an1 (an1 (an2 (an2 (an1 (an2 h))))))))
set_option maxRecDepth 100000 in
theorem nv122 (h : (Jvm.Cond.and given_1 narrow_1).before A s = true) : (Jvm.Cond.eq (Jvm.Term.elem (Jvm.Term.field (Jvm.Term.string "PavementWalk$PassageText" (96 : Nat)) "java/lang/String" "value" "[B") (Jvm.Term.int (0 : Int32))) (Jvm.Term.int (104 : Int32))).before A s = true := an1 (an2 (an2 (an2 (an1 (an1 (an2 (an2 (an1 (an2 h)))))))))
set_option maxRecDepth 100000 in
theorem nv123 (h : (Jvm.Cond.and given_1 narrow_1).before A s = true) : (Jvm.Cond.eq (Jvm.Term.elem (Jvm.Term.field (Jvm.Term.string "PavementWalk$PassageText" (96 : Nat)) "java/lang/String" "value" "[B") (Jvm.Term.int (1 : Int32))) (Jvm.Term.int (97 : Int32))).before A s = true := an2 (an2 (an2 (an2 (an1 (an1 (an2 (an2 (an1 (an2 h)))))))))
set_option maxRecDepth 100000 in
theorem nv124 (h : (Jvm.Cond.and given_1 narrow_1).before A s = true) : (Jvm.Cond.eq (Jvm.Term.elem (Jvm.Term.field (Jvm.Term.string "PavementWalk$PassageText" (96 : Nat)) "java/lang/String" "value" "[B") (Jvm.Term.int (2 : Int32))) (Jvm.Term.int (110 : Int32))).before A s = true := an1 (an1 (an1 (an2 (an1 (an2 (an2 (an1 (an2 h))))))))
set_option maxRecDepth 100000 in
theorem nv125 (h : (Jvm.Cond.and given_1 narrow_1).before A s = true) : (Jvm.Cond.eq (Jvm.Term.elem (Jvm.Term.field (Jvm.Term.string "PavementWalk$PassageText" (96 : Nat)) "java/lang/String" "value" "[B") (Jvm.Term.int (3 : Int32))) (Jvm.Term.int (100 : Int32))).before A s = true := an2 (an1 (an1 (an2 (an1 (an2 (an2 (an1 (an2 h))))))))
set_option maxRecDepth 100000 in
theorem nv126 (h : (Jvm.Cond.and given_1 narrow_1).before A s = true) : (Jvm.Cond.exactly (Jvm.Term.string "PavementWalk$PassageText" (138 : Nat)) "java/lang/String").before A s = true := an1 (an2 (an1 (an2 (an1 (an2 (an2 (an1 (an2 h))))))))
set_option maxRecDepth 100000 in
theorem nv127 (h : (Jvm.Cond.and given_1 narrow_1).before A s = true) : (Jvm.Cond.eq (Jvm.Term.field (Jvm.Term.string "PavementWalk$PassageText" (138 : Nat)) "java/lang/String" "coder" "B") (Jvm.Term.int (0 : Int32))).before A s = true := an1 (an2 (an2 (an1 (an2 (an1 (an2 (an2 (an1 (an2 h)))))))))
set_option maxRecDepth 100000 in
theorem nv128 (h : (Jvm.Cond.and given_1 narrow_1).before A s = true) : (Jvm.Cond.arrayOf (Jvm.Term.field (Jvm.Term.string "PavementWalk$PassageText" (138 : Nat)) "java/lang/String" "value" "[B") Jvm.ClassFile.FieldType.byte).before A s = true := an2 (an2 (an2 (an1 (an2 (an1 (an2 (an2 (an1 (an2 h)))))))))
set_option maxRecDepth 100000 in
theorem nv129 (h : (Jvm.Cond.and given_1 narrow_1).before A s = true) : (Jvm.Cond.eq (Jvm.Term.length (Jvm.Term.field (Jvm.Term.string "PavementWalk$PassageText" (138 : Nat)) "java/lang/String" "value" "[B")) (Jvm.Term.int (5 : Int32))).before A s = true := an1 (an1 (an2 (an2 (an1 (an2 (an2 (an1 (an2 h))))))))
set_option maxRecDepth 100000 in
theorem nv130 (h : (Jvm.Cond.and given_1 narrow_1).before A s = true) : (Jvm.Cond.eq (Jvm.Term.elem (Jvm.Term.field (Jvm.Term.string "PavementWalk$PassageText" (138 : Nat)) "java/lang/String" "value" "[B") (Jvm.Term.int (0 : Int32))) (Jvm.Term.int (114 : Int32))).before A s = true := an2 (an1 (an2 (an2 (an1 (an2 (an2 (an1 (an2 h))))))))
set_option maxRecDepth 100000 in
theorem nv131 (h : (Jvm.Cond.and given_1 narrow_1).before A s = true) : (Jvm.Cond.eq (Jvm.Term.elem (Jvm.Term.field (Jvm.Term.string "PavementWalk$PassageText" (138 : Nat)) "java/lang/String" "value" "[B") (Jvm.Term.int (1 : Int32))) (Jvm.Term.int (105 : Int32))).before A s = true := an1 (an2 (an2 (an2 (an1 (an2 (an2 (an1 (an2 h))))))))
set_option maxRecDepth 100000 in
theorem nv132 (h : (Jvm.Cond.and given_1 narrow_1).before A s = true) : (Jvm.Cond.eq (Jvm.Term.elem (Jvm.Term.field (Jvm.Term.string "PavementWalk$PassageText" (138 : Nat)) "java/lang/String" "value" "[B") (Jvm.Term.int (2 : Int32))) (Jvm.Term.int (103 : Int32))).before A s = true := an1 (an2 (an2 (an2 (an2 (an1 (an2 (an2 (an1 (an2 h)))))))))
set_option maxRecDepth 100000 in
theorem nv133 (h : (Jvm.Cond.and given_1 narrow_1).before A s = true) : (Jvm.Cond.eq (Jvm.Term.elem (Jvm.Term.field (Jvm.Term.string "PavementWalk$PassageText" (138 : Nat)) "java/lang/String" "value" "[B") (Jvm.Term.int (3 : Int32))) (Jvm.Term.int (104 : Int32))).before A s = true := an2 (an2 (an2 (an2 (an2 (an1 (an2 (an2 (an1 (an2 h)))))))))
set_option maxRecDepth 100000 in
theorem nv134 (h : (Jvm.Cond.and given_1 narrow_1).before A s = true) : (Jvm.Cond.eq (Jvm.Term.elem (Jvm.Term.field (Jvm.Term.string "PavementWalk$PassageText" (138 : Nat)) "java/lang/String" "value" "[B") (Jvm.Term.int (4 : Int32))) (Jvm.Term.int (116 : Int32))).before A s = true := an1 (an1 (an1 (an1 (an2 (an2 (an2 (an1 (an2 h))))))))
set_option maxRecDepth 100000 in
theorem nv135 (h : (Jvm.Cond.and given_1 narrow_1).before A s = true) : (Jvm.Cond.exactly (Jvm.Term.string "PavementWalk$PassageText" (140 : Nat)) "java/lang/String").before A s = true := an2 (an1 (an1 (an1 (an2 (an2 (an2 (an1 (an2 h))))))))
set_option maxRecDepth 100000 in
theorem nv136 (h : (Jvm.Cond.and given_1 narrow_1).before A s = true) : (Jvm.Cond.eq (Jvm.Term.field (Jvm.Term.string "PavementWalk$PassageText" (140 : Nat)) "java/lang/String" "coder" "B") (Jvm.Term.int (0 : Int32))).before A s = true := an1 (an2 (an1 (an1 (an2 (an2 (an2 (an1 (an2 h))))))))
set_option maxRecDepth 100000 in
theorem nv137 (h : (Jvm.Cond.and given_1 narrow_1).before A s = true) : (Jvm.Cond.arrayOf (Jvm.Term.field (Jvm.Term.string "PavementWalk$PassageText" (140 : Nat)) "java/lang/String" "value" "[B") Jvm.ClassFile.FieldType.byte).before A s = true := an1 (an2 (an2 (an1 (an1 (an2 (an2 (an2 (an1 (an2 h)))))))))
set_option maxRecDepth 100000 in
theorem nv138 (h : (Jvm.Cond.and given_1 narrow_1).before A s = true) : (Jvm.Cond.eq (Jvm.Term.length (Jvm.Term.field (Jvm.Term.string "PavementWalk$PassageText" (140 : Nat)) "java/lang/String" "value" "[B")) (Jvm.Term.int (4 : Int32))).before A s = true := an2 (an2 (an2 (an1 (an1 (an2 (an2 (an2 (an1 (an2 h)))))))))
set_option maxRecDepth 100000 in
theorem nv139 (h : (Jvm.Cond.and given_1 narrow_1).before A s = true) : (Jvm.Cond.eq (Jvm.Term.elem (Jvm.Term.field (Jvm.Term.string "PavementWalk$PassageText" (140 : Nat)) "java/lang/String" "value" "[B") (Jvm.Term.int (0 : Int32))) (Jvm.Term.int (108 : Int32))).before A s = true := an1 (an1 (an2 (an1 (an2 (an2 (an2 (an1 (an2 h))))))))
set_option maxRecDepth 100000 in
theorem nv140 (h : (Jvm.Cond.and given_1 narrow_1).before A s = true) : (Jvm.Cond.eq (Jvm.Term.elem (Jvm.Term.field (Jvm.Term.string "PavementWalk$PassageText" (140 : Nat)) "java/lang/String" "value" "[B") (Jvm.Term.int (1 : Int32))) (Jvm.Term.int (101 : Int32))).before A s = true := an2 (an1 (an2 (an1 (an2 (an2 (an2 (an1 (an2 h))))))))
set_option maxRecDepth 100000 in
theorem nv141 (h : (Jvm.Cond.and given_1 narrow_1).before A s = true) : (Jvm.Cond.eq (Jvm.Term.elem (Jvm.Term.field (Jvm.Term.string "PavementWalk$PassageText" (140 : Nat)) "java/lang/String" "value" "[B") (Jvm.Term.int (2 : Int32))) (Jvm.Term.int (102 : Int32))).before A s = true := an1 (an2 (an2 (an1 (an2 (an2 (an2 (an1 (an2 h))))))))
set_option maxRecDepth 100000 in
theorem nv142 (h : (Jvm.Cond.and given_1 narrow_1).before A s = true) : (Jvm.Cond.eq (Jvm.Term.elem (Jvm.Term.field (Jvm.Term.string "PavementWalk$PassageText" (140 : Nat)) "java/lang/String" "value" "[B") (Jvm.Term.int (3 : Int32))) (Jvm.Term.int (116 : Int32))).before A s = true := an1 (an2 (an2 (an2 (an1 (an2 (an2 (an2 (an1 (an2 h)))))))))
set_option maxRecDepth 100000 in
theorem nv143 (h : (Jvm.Cond.and given_1 narrow_1).before A s = true) : (Jvm.Cond.exactly (Jvm.Term.string "PavementWalk$PassageText" (101 : Nat)) "java/lang/String").before A s = true := an2 (an2 (an2 (an2 (an1 (an2 (an2 (an2 (an1 (an2 h)))))))))
set_option maxRecDepth 100000 in
theorem nv144 (h : (Jvm.Cond.and given_1 narrow_1).before A s = true) : (Jvm.Cond.eq (Jvm.Term.field (Jvm.Term.string "PavementWalk$PassageText" (101 : Nat)) "java/lang/String" "coder" "B") (Jvm.Term.int (0 : Int32))).before A s = true := an1 (an1 (an1 (an2 (an2 (an2 (an2 (an1 (an2 h))))))))
set_option maxRecDepth 100000 in
theorem nv145 (h : (Jvm.Cond.and given_1 narrow_1).before A s = true) : (Jvm.Cond.arrayOf (Jvm.Term.field (Jvm.Term.string "PavementWalk$PassageText" (101 : Nat)) "java/lang/String" "value" "[B") Jvm.ClassFile.FieldType.byte).before A s = true := an2 (an1 (an1 (an2 (an2 (an2 (an2 (an1 (an2 h))))))))
set_option maxRecDepth 100000 in
theorem nv146 (h : (Jvm.Cond.and given_1 narrow_1).before A s = true) : (Jvm.Cond.eq (Jvm.Term.length (Jvm.Term.field (Jvm.Term.string "PavementWalk$PassageText" (101 : Nat)) "java/lang/String" "value" "[B")) (Jvm.Term.int (7 : Int32))).before A s = true := an1 (an2 (an1 (an2 (an2 (an2 (an2 (an1 (an2 h))))))))
set_option maxRecDepth 100000 in
theorem nv147 (h : (Jvm.Cond.and given_1 narrow_1).before A s = true) : (Jvm.Cond.eq (Jvm.Term.elem (Jvm.Term.field (Jvm.Term.string "PavementWalk$PassageText" (101 : Nat)) "java/lang/String" "value" "[B") (Jvm.Term.int (0 : Int32))) (Jvm.Term.int (102 : Int32))).before A s = true := an1 (an2 (an2 (an1 (an2 (an2 (an2 (an2 (an1 (an2 h)))))))))
set_option maxRecDepth 100000 in
theorem nv148 (h : (Jvm.Cond.and given_1 narrow_1).before A s = true) : (Jvm.Cond.eq (Jvm.Term.elem (Jvm.Term.field (Jvm.Term.string "PavementWalk$PassageText" (101 : Nat)) "java/lang/String" "value" "[B") (Jvm.Term.int (1 : Int32))) (Jvm.Term.int (114 : Int32))).before A s = true := an2 (an2 (an2 (an1 (an2 (an2 (an2 (an2 (an1 (an2 h)))))))))
set_option maxRecDepth 100000 in
theorem nv149 (h : (Jvm.Cond.and given_1 narrow_1).before A s = true) : (Jvm.Cond.eq (Jvm.Term.elem (Jvm.Term.field (Jvm.Term.string "PavementWalk$PassageText" (101 : Nat)) "java/lang/String" "value" "[B") (Jvm.Term.int (2 : Int32))) (Jvm.Term.int (105 : Int32))).before A s = true := an1 (an1 (an2 (an2 (an2 (an2 (an2 (an1 (an2 h))))))))
set_option maxRecDepth 100000 in
theorem nv150 (h : (Jvm.Cond.and given_1 narrow_1).before A s = true) : (Jvm.Cond.eq (Jvm.Term.elem (Jvm.Term.field (Jvm.Term.string "PavementWalk$PassageText" (101 : Nat)) "java/lang/String" "value" "[B") (Jvm.Term.int (3 : Int32))) (Jvm.Term.int (101 : Int32))).before A s = true := an2 (an1 (an2 (an2 (an2 (an2 (an2 (an1 (an2 h))))))))
set_option maxRecDepth 100000 in
theorem nv151 (h : (Jvm.Cond.and given_1 narrow_1).before A s = true) : (Jvm.Cond.eq (Jvm.Term.elem (Jvm.Term.field (Jvm.Term.string "PavementWalk$PassageText" (101 : Nat)) "java/lang/String" "value" "[B") (Jvm.Term.int (4 : Int32))) (Jvm.Term.int (110 : Int32))).before A s = true := an1 (an2 (an2 (an2 (an2 (an2 (an2 (an1 (an2 h))))))))
set_option maxRecDepth 100000 in
theorem nv152 (h : (Jvm.Cond.and given_1 narrow_1).before A s = true) : (Jvm.Cond.eq (Jvm.Term.elem (Jvm.Term.field (Jvm.Term.string "PavementWalk$PassageText" (101 : Nat)) "java/lang/String" "value" "[B") (Jvm.Term.int (5 : Int32))) (Jvm.Term.int (100 : Int32))).before A s = true := an1 (an2 (an2 (an2 (an2 (an2 (an2 (an2 (an1 (an2 h)))))))))
set_option maxRecDepth 100000 in
theorem nv153 (h : (Jvm.Cond.and given_1 narrow_1).before A s = true) : (Jvm.Cond.eq (Jvm.Term.elem (Jvm.Term.field (Jvm.Term.string "PavementWalk$PassageText" (101 : Nat)) "java/lang/String" "value" "[B") (Jvm.Term.int (6 : Int32))) (Jvm.Term.int (115 : Int32))).before A s = true := an2 (an2 (an2 (an2 (an2 (an2 (an2 (an2 (an1 (an2 h)))))))))
set_option maxRecDepth 100000 in
theorem nv154 (h : (Jvm.Cond.and given_1 narrow_1).before A s = true) : (Jvm.Cond.exactly (Jvm.Term.string "PavementWalk$LawText" (48 : Nat)) "java/lang/String").before A s = true := an1 (an1 (an1 (an1 (an1 (an1 (an1 (an2 (an2 h))))))))
set_option maxRecDepth 100000 in
theorem nv155 (h : (Jvm.Cond.and given_1 narrow_1).before A s = true) : (Jvm.Cond.eq (Jvm.Term.field (Jvm.Term.string "PavementWalk$LawText" (48 : Nat)) "java/lang/String" "coder" "B") (Jvm.Term.int (0 : Int32))).before A s = true := an2 (an1 (an1 (an1 (an1 (an1 (an1 (an2 (an2 h))))))))
set_option maxRecDepth 100000 in
theorem nv156 (h : (Jvm.Cond.and given_1 narrow_1).before A s = true) : (Jvm.Cond.arrayOf (Jvm.Term.field (Jvm.Term.string "PavementWalk$LawText" (48 : Nat)) "java/lang/String" "value" "[B") Jvm.ClassFile.FieldType.byte).before A s = true := an1 (an2 (an1 (an1 (an1 (an1 (an1 (an2 (an2 h))))))))
set_option maxRecDepth 100000 in
theorem nv157 (h : (Jvm.Cond.and given_1 narrow_1).before A s = true) : (Jvm.Cond.eq (Jvm.Term.length (Jvm.Term.field (Jvm.Term.string "PavementWalk$LawText" (48 : Nat)) "java/lang/String" "value" "[B")) (Jvm.Term.int (2 : Int32))).before A s = true := an2 (an2 (an1 (an1 (an1 (an1 (an1 (an2 (an2 h))))))))
set_option maxRecDepth 100000 in
theorem nv158 (h : (Jvm.Cond.and given_1 narrow_1).before A s = true) : (Jvm.Cond.eq (Jvm.Term.elem (Jvm.Term.field (Jvm.Term.string "PavementWalk$LawText" (48 : Nat)) "java/lang/String" "value" "[B") (Jvm.Term.int (0 : Int32))) (Jvm.Term.int (105 : Int32))).before A s = true := an1 (an1 (an2 (an1 (an1 (an1 (an1 (an2 (an2 h))))))))
set_option maxRecDepth 100000 in
theorem nv159 (h : (Jvm.Cond.and given_1 narrow_1).before A s = true) : (Jvm.Cond.eq (Jvm.Term.elem (Jvm.Term.field (Jvm.Term.string "PavementWalk$LawText" (48 : Nat)) "java/lang/String" "value" "[B") (Jvm.Term.int (1 : Int32))) (Jvm.Term.int (102 : Int32))).before A s = true := an2 (an1 (an2 (an1 (an1 (an1 (an1 (an2 (an2 h))))))))
set_option maxRecDepth 100000 in
theorem nv160 (h : (Jvm.Cond.and given_1 narrow_1).before A s = true) : (Jvm.Cond.exactly (Jvm.Term.string "PavementWalk$LawText" (70 : Nat)) "java/lang/String").before A s = true := an1 (an2 (an2 (an1 (an1 (an1 (an1 (an2 (an2 h))))))))
set_option maxRecDepth 100000 in
theorem nv161 (h : (Jvm.Cond.and given_1 narrow_1).before A s = true) : (Jvm.Cond.eq (Jvm.Term.field (Jvm.Term.string "PavementWalk$LawText" (70 : Nat)) "java/lang/String" "coder" "B") (Jvm.Term.int (0 : Int32))).before A s = true := an1 (an2 (an2 (an2 (an1 (an1 (an1 (an1 (an2 (an2 h)))))))))
set_option maxRecDepth 100000 in
theorem nv162 (h : (Jvm.Cond.and given_1 narrow_1).before A s = true) : (Jvm.Cond.arrayOf (Jvm.Term.field (Jvm.Term.string "PavementWalk$LawText" (70 : Nat)) "java/lang/String" "value" "[B") Jvm.ClassFile.FieldType.byte).before A s = true := an2 (an2 (an2 (an2 (an1 (an1 (an1 (an1 (an2 (an2 h)))))))))
set_option maxRecDepth 100000 in
theorem nv163 (h : (Jvm.Cond.and given_1 narrow_1).before A s = true) : (Jvm.Cond.eq (Jvm.Term.length (Jvm.Term.field (Jvm.Term.string "PavementWalk$LawText" (70 : Nat)) "java/lang/String" "value" "[B")) (Jvm.Term.int (3 : Int32))).before A s = true := an1 (an1 (an1 (an2 (an1 (an1 (an1 (an2 (an2 h))))))))
set_option maxRecDepth 100000 in
theorem nv164 (h : (Jvm.Cond.and given_1 narrow_1).before A s = true) : (Jvm.Cond.eq (Jvm.Term.elem (Jvm.Term.field (Jvm.Term.string "PavementWalk$LawText" (70 : Nat)) "java/lang/String" "value" "[B") (Jvm.Term.int (0 : Int32))) (Jvm.Term.int (110 : Int32))).before A s = true := an2 (an1 (an1 (an2 (an1 (an1 (an1 (an2 (an2 h))))))))
set_option maxRecDepth 100000 in
theorem nv165 (h : (Jvm.Cond.and given_1 narrow_1).before A s = true) : (Jvm.Cond.eq (Jvm.Term.elem (Jvm.Term.field (Jvm.Term.string "PavementWalk$LawText" (70 : Nat)) "java/lang/String" "value" "[B") (Jvm.Term.int (1 : Int32))) (Jvm.Term.int (111 : Int32))).before A s = true := an1 (an2 (an1 (an2 (an1 (an1 (an1 (an2 (an2 h))))))))
set_option maxRecDepth 100000 in
theorem nv166 (h : (Jvm.Cond.and given_1 narrow_1).before A s = true) : (Jvm.Cond.eq (Jvm.Term.elem (Jvm.Term.field (Jvm.Term.string "PavementWalk$LawText" (70 : Nat)) "java/lang/String" "value" "[B") (Jvm.Term.int (2 : Int32))) (Jvm.Term.int (116 : Int32))).before A s = true := an1 (an2 (an2 (an1 (an2 (an1 (an1 (an1 (an2 (an2 h)))))))))
set_option maxRecDepth 100000 in
theorem nv167 (h : (Jvm.Cond.and given_1 narrow_1).before A s = true) : (Jvm.Cond.exactly (Jvm.Term.string "PavementWalk$LawText" (102 : Nat)) "java/lang/String").before A s = true := an2 (an2 (an2 (an1 (an2 (an1 (an1 (an1 (an2 (an2 h)))))))))
set_option maxRecDepth 100000 in
theorem nv168 (h : (Jvm.Cond.and given_1 narrow_1).before A s = true) : (Jvm.Cond.eq (Jvm.Term.field (Jvm.Term.string "PavementWalk$LawText" (102 : Nat)) "java/lang/String" "coder" "B") (Jvm.Term.int (0 : Int32))).before A s = true := an1 (an1 (an2 (an2 (an1 (an1 (an1 (an2 (an2 h))))))))
set_option maxRecDepth 100000 in
theorem nv169 (h : (Jvm.Cond.and given_1 narrow_1).before A s = true) : (Jvm.Cond.arrayOf (Jvm.Term.field (Jvm.Term.string "PavementWalk$LawText" (102 : Nat)) "java/lang/String" "value" "[B") Jvm.ClassFile.FieldType.byte).before A s = true := an2 (an1 (an2 (an2 (an1 (an1 (an1 (an2 (an2 h))))))))
set_option maxRecDepth 100000 in
theorem nv170 (h : (Jvm.Cond.and given_1 narrow_1).before A s = true) : (Jvm.Cond.eq (Jvm.Term.length (Jvm.Term.field (Jvm.Term.string "PavementWalk$LawText" (102 : Nat)) "java/lang/String" "value" "[B")) (Jvm.Term.int (5 : Int32))).before A s = true := an1 (an2 (an2 (an2 (an1 (an1 (an1 (an2 (an2 h))))))))
set_option maxRecDepth 100000 in
theorem nv171 (h : (Jvm.Cond.and given_1 narrow_1).before A s = true) : (Jvm.Cond.eq (Jvm.Term.elem (Jvm.Term.field (Jvm.Term.string "PavementWalk$LawText" (102 : Nat)) "java/lang/String" "value" "[B") (Jvm.Term.int (0 : Int32))) (Jvm.Term.int (97 : Int32))).before A s = true := an1 (an2 (an2 (an2 (an2 (an1 (an1 (an1 (an2 (an2 h)))))))))
set_option maxRecDepth 100000 in
theorem nv172 (h : (Jvm.Cond.and given_1 narrow_1).before A s = true) : (Jvm.Cond.eq (Jvm.Term.elem (Jvm.Term.field (Jvm.Term.string "PavementWalk$LawText" (102 : Nat)) "java/lang/String" "value" "[B") (Jvm.Term.int (1 : Int32))) (Jvm.Term.int (104 : Int32))).before A s = true := an2 (an2 (an2 (an2 (an2 (an1 (an1 (an1 (an2 (an2 h)))))))))
set_option maxRecDepth 100000 in
theorem nv173 (h : (Jvm.Cond.and given_1 narrow_1).before A s = true) : (Jvm.Cond.eq (Jvm.Term.elem (Jvm.Term.field (Jvm.Term.string "PavementWalk$LawText" (102 : Nat)) "java/lang/String" "value" "[B") (Jvm.Term.int (2 : Int32))) (Jvm.Term.int (101 : Int32))).before A s = true := an1 (an1 (an1 (an1 (an2 (an1 (an1 (an2 (an2 h))))))))
set_option maxRecDepth 100000 in
theorem nv174 (h : (Jvm.Cond.and given_1 narrow_1).before A s = true) : (Jvm.Cond.eq (Jvm.Term.elem (Jvm.Term.field (Jvm.Term.string "PavementWalk$LawText" (102 : Nat)) "java/lang/String" "value" "[B") (Jvm.Term.int (3 : Int32))) (Jvm.Term.int (97 : Int32))).before A s = true := an2 (an1 (an1 (an1 (an2 (an1 (an1 (an2 (an2 h))))))))
set_option maxRecDepth 100000 in
theorem nv175 (h : (Jvm.Cond.and given_1 narrow_1).before A s = true) : (Jvm.Cond.eq (Jvm.Term.elem (Jvm.Term.field (Jvm.Term.string "PavementWalk$LawText" (102 : Nat)) "java/lang/String" "value" "[B") (Jvm.Term.int (4 : Int32))) (Jvm.Term.int (100 : Int32))).before A s = true := an1 (an2 (an1 (an1 (an2 (an1 (an1 (an2 (an2 h))))))))
set_option maxRecDepth 100000 in
theorem nv176 (h : (Jvm.Cond.and given_1 narrow_1).before A s = true) : (Jvm.Cond.exactly (Jvm.Term.string "PavementWalk$LawText" (104 : Nat)) "java/lang/String").before A s = true := an2 (an2 (an1 (an1 (an2 (an1 (an1 (an2 (an2 h))))))))
set_option maxRecDepth 100000 in
theorem nv177 (h : (Jvm.Cond.and given_1 narrow_1).before A s = true) : (Jvm.Cond.eq (Jvm.Term.field (Jvm.Term.string "PavementWalk$LawText" (104 : Nat)) "java/lang/String" "coder" "B") (Jvm.Term.int (0 : Int32))).before A s = true := an1 (an1 (an2 (an1 (an2 (an1 (an1 (an2 (an2 h))))))))
set_option maxRecDepth 100000 in
theorem nv178 (h : (Jvm.Cond.and given_1 narrow_1).before A s = true) : (Jvm.Cond.arrayOf (Jvm.Term.field (Jvm.Term.string "PavementWalk$LawText" (104 : Nat)) "java/lang/String" "value" "[B") Jvm.ClassFile.FieldType.byte).before A s = true := an2 (an1 (an2 (an1 (an2 (an1 (an1 (an2 (an2 h))))))))
set_option maxRecDepth 100000 in
theorem nv179 (h : (Jvm.Cond.and given_1 narrow_1).before A s = true) : (Jvm.Cond.eq (Jvm.Term.length (Jvm.Term.field (Jvm.Term.string "PavementWalk$LawText" (104 : Nat)) "java/lang/String" "value" "[B")) (Jvm.Term.int (4 : Int32))).before A s = true := an1 (an2 (an2 (an1 (an2 (an1 (an1 (an2 (an2 h))))))))
set_option maxRecDepth 100000 in
theorem nv180 (h : (Jvm.Cond.and given_1 narrow_1).before A s = true) : (Jvm.Cond.eq (Jvm.Term.elem (Jvm.Term.field (Jvm.Term.string "PavementWalk$LawText" (104 : Nat)) "java/lang/String" "value" "[B") (Jvm.Term.int (0 : Int32))) (Jvm.Term.int (115 : Int32))).before A s = true := an1 (an2 (an2 (an2 (an1 (an2 (an1 (an1 (an2 (an2 h)))))))))
set_option maxRecDepth 100000 in
theorem nv181 (h : (Jvm.Cond.and given_1 narrow_1).before A s = true) : (Jvm.Cond.eq (Jvm.Term.elem (Jvm.Term.field (Jvm.Term.string "PavementWalk$LawText" (104 : Nat)) "java/lang/String" "value" "[B") (Jvm.Term.int (1 : Int32))) (Jvm.Term.int (111 : Int32))).before A s = true := an2 (an2 (an2 (an2 (an1 (an2 (an1 (an1 (an2 (an2 h)))))))))
set_option maxRecDepth 100000 in
theorem nv182 (h : (Jvm.Cond.and given_1 narrow_1).before A s = true) : (Jvm.Cond.eq (Jvm.Term.elem (Jvm.Term.field (Jvm.Term.string "PavementWalk$LawText" (104 : Nat)) "java/lang/String" "value" "[B") (Jvm.Term.int (2 : Int32))) (Jvm.Term.int (111 : Int32))).before A s = true := an1 (an1 (an1 (an2 (an2 (an1 (an1 (an2 (an2 h))))))))
set_option maxRecDepth 100000 in
theorem nv183 (h : (Jvm.Cond.and given_1 narrow_1).before A s = true) : (Jvm.Cond.eq (Jvm.Term.elem (Jvm.Term.field (Jvm.Term.string "PavementWalk$LawText" (104 : Nat)) "java/lang/String" "value" "[B") (Jvm.Term.int (3 : Int32))) (Jvm.Term.int (110 : Int32))).before A s = true := an2 (an1 (an1 (an2 (an2 (an1 (an1 (an2 (an2 h))))))))
set_option maxRecDepth 100000 in
theorem nv184 (h : (Jvm.Cond.and given_1 narrow_1).before A s = true) : (Jvm.Cond.exactly (Jvm.Term.string "PavementWalk$LawText" (106 : Nat)) "java/lang/String").before A s = true := an1 (an2 (an1 (an2 (an2 (an1 (an1 (an2 (an2 h))))))))
set_option maxRecDepth 100000 in
theorem nv185 (h : (Jvm.Cond.and given_1 narrow_1).before A s = true) : (Jvm.Cond.eq (Jvm.Term.field (Jvm.Term.string "PavementWalk$LawText" (106 : Nat)) "java/lang/String" "coder" "B") (Jvm.Term.int (0 : Int32))).before A s = true := an1 (an2 (an2 (an1 (an2 (an2 (an1 (an1 (an2 (an2 h)))))))))
set_option maxRecDepth 100000 in
theorem nv186 (h : (Jvm.Cond.and given_1 narrow_1).before A s = true) : (Jvm.Cond.arrayOf (Jvm.Term.field (Jvm.Term.string "PavementWalk$LawText" (106 : Nat)) "java/lang/String" "value" "[B") Jvm.ClassFile.FieldType.byte).before A s = true := an2 (an2 (an2 (an1 (an2 (an2 (an1 (an1 (an2 (an2 h)))))))))
set_option maxRecDepth 100000 in
theorem nv187 (h : (Jvm.Cond.and given_1 narrow_1).before A s = true) : (Jvm.Cond.eq (Jvm.Term.length (Jvm.Term.field (Jvm.Term.string "PavementWalk$LawText" (106 : Nat)) "java/lang/String" "value" "[B")) (Jvm.Term.int (4 : Int32))).before A s = true := an1 (an1 (an2 (an2 (an2 (an1 (an1 (an2 (an2 h))))))))
set_option maxRecDepth 100000 in
theorem nv188 (h : (Jvm.Cond.and given_1 narrow_1).before A s = true) : (Jvm.Cond.eq (Jvm.Term.elem (Jvm.Term.field (Jvm.Term.string "PavementWalk$LawText" (106 : Nat)) "java/lang/String" "value" "[B") (Jvm.Term.int (0 : Int32))) (Jvm.Term.int (110 : Int32))).before A s = true := an2 (an1 (an2 (an2 (an2 (an1 (an1 (an2 (an2 h))))))))
set_option maxRecDepth 100000 in
theorem nv189 (h : (Jvm.Cond.and given_1 narrow_1).before A s = true) : (Jvm.Cond.eq (Jvm.Term.elem (Jvm.Term.field (Jvm.Term.string "PavementWalk$LawText" (106 : Nat)) "java/lang/String" "value" "[B") (Jvm.Term.int (1 : Int32))) (Jvm.Term.int (101 : Int32))).before A s = true := an1 (an2 (an2 (an2 (an2 (an1 (an1 (an2 (an2 h))))))))
set_option maxRecDepth 100000 in
theorem nv190 (h : (Jvm.Cond.and given_1 narrow_1).before A s = true) : (Jvm.Cond.eq (Jvm.Term.elem (Jvm.Term.field (Jvm.Term.string "PavementWalk$LawText" (106 : Nat)) "java/lang/String" "value" "[B") (Jvm.Term.int (2 : Int32))) (Jvm.Term.int (97 : Int32))).before A s = true := an1 (an2 (an2 (an2 (an2 (an2 (an1 (an1 (an2 (an2 h)))))))))
set_option maxRecDepth 100000 in
theorem nv191 (h : (Jvm.Cond.and given_1 narrow_1).before A s = true) : (Jvm.Cond.eq (Jvm.Term.elem (Jvm.Term.field (Jvm.Term.string "PavementWalk$LawText" (106 : Nat)) "java/lang/String" "value" "[B") (Jvm.Term.int (3 : Int32))) (Jvm.Term.int (114 : Int32))).before A s = true := an2 (an2 (an2 (an2 (an2 (an2 (an1 (an1 (an2 (an2 h)))))))))
set_option maxRecDepth 100000 in
theorem nv192 (h : (Jvm.Cond.and given_1 narrow_1).before A s = true) : (Jvm.Cond.exactly (Jvm.Term.string "PavementWalk$LawText" (108 : Nat)) "java/lang/String").before A s = true := an1 (an1 (an1 (an1 (an1 (an2 (an1 (an2 (an2 h))))))))
set_option maxRecDepth 100000 in
theorem nv193 (h : (Jvm.Cond.and given_1 narrow_1).before A s = true) : (Jvm.Cond.eq (Jvm.Term.field (Jvm.Term.string "PavementWalk$LawText" (108 : Nat)) "java/lang/String" "coder" "B") (Jvm.Term.int (0 : Int32))).before A s = true := an2 (an1 (an1 (an1 (an1 (an2 (an1 (an2 (an2 h))))))))
set_option maxRecDepth 100000 in
theorem nv194 (h : (Jvm.Cond.and given_1 narrow_1).before A s = true) : (Jvm.Cond.arrayOf (Jvm.Term.field (Jvm.Term.string "PavementWalk$LawText" (108 : Nat)) "java/lang/String" "value" "[B") Jvm.ClassFile.FieldType.byte).before A s = true := an1 (an2 (an1 (an1 (an1 (an2 (an1 (an2 (an2 h))))))))
set_option maxRecDepth 100000 in
theorem nv195 (h : (Jvm.Cond.and given_1 narrow_1).before A s = true) : (Jvm.Cond.eq (Jvm.Term.length (Jvm.Term.field (Jvm.Term.string "PavementWalk$LawText" (108 : Nat)) "java/lang/String" "value" "[B")) (Jvm.Term.int (5 : Int32))).before A s = true := an2 (an2 (an1 (an1 (an1 (an2 (an1 (an2 (an2 h))))))))
set_option maxRecDepth 100000 in
theorem nv196 (h : (Jvm.Cond.and given_1 narrow_1).before A s = true) : (Jvm.Cond.eq (Jvm.Term.elem (Jvm.Term.field (Jvm.Term.string "PavementWalk$LawText" (108 : Nat)) "java/lang/String" "value" "[B") (Jvm.Term.int (0 : Int32))) (Jvm.Term.int (114 : Int32))).before A s = true := an1 (an1 (an2 (an1 (an1 (an2 (an1 (an2 (an2 h))))))))
set_option maxRecDepth 100000 in
theorem nv197 (h : (Jvm.Cond.and given_1 narrow_1).before A s = true) : (Jvm.Cond.eq (Jvm.Term.elem (Jvm.Term.field (Jvm.Term.string "PavementWalk$LawText" (108 : Nat)) "java/lang/String" "value" "[B") (Jvm.Term.int (1 : Int32))) (Jvm.Term.int (105 : Int32))).before A s = true := an2 (an1 (an2 (an1 (an1 (an2 (an1 (an2 (an2 h))))))))
set_option maxRecDepth 100000 in
theorem nv198 (h : (Jvm.Cond.and given_1 narrow_1).before A s = true) : (Jvm.Cond.eq (Jvm.Term.elem (Jvm.Term.field (Jvm.Term.string "PavementWalk$LawText" (108 : Nat)) "java/lang/String" "value" "[B") (Jvm.Term.int (2 : Int32))) (Jvm.Term.int (103 : Int32))).before A s = true := an1 (an2 (an2 (an1 (an1 (an2 (an1 (an2 (an2 h))))))))
set_option maxRecDepth 100000 in
theorem nv199 (h : (Jvm.Cond.and given_1 narrow_1).before A s = true) : (Jvm.Cond.eq (Jvm.Term.elem (Jvm.Term.field (Jvm.Term.string "PavementWalk$LawText" (108 : Nat)) "java/lang/String" "value" "[B") (Jvm.Term.int (3 : Int32))) (Jvm.Term.int (104 : Int32))).before A s = true := an1 (an2 (an2 (an2 (an1 (an1 (an2 (an1 (an2 (an2 h)))))))))
set_option maxRecDepth 100000 in
theorem nv200 (h : (Jvm.Cond.and given_1 narrow_1).before A s = true) : (Jvm.Cond.eq (Jvm.Term.elem (Jvm.Term.field (Jvm.Term.string "PavementWalk$LawText" (108 : Nat)) "java/lang/String" "value" "[B") (Jvm.Term.int (4 : Int32))) (Jvm.Term.int (116 : Int32))).before A s = true := an2 (an2 (an2 (an2 (an1 (an1 (an2 (an1 (an2 (an2 h)))))))))
set_option maxRecDepth 100000 in
theorem nv201 (h : (Jvm.Cond.and given_1 narrow_1).before A s = true) : (Jvm.Cond.eq (Jvm.Term.string "PavementWalk$PassageText" (138 : Nat)) (Jvm.Term.string "PavementWalk$LawText" (108 : Nat))).before A s = true := an1 (an1 (an1 (an2 (an1 (an2 (an1 (an2 (an2 h))))))))
set_option maxRecDepth 100000 in
theorem nv202 (h : (Jvm.Cond.and given_1 narrow_1).before A s = true) : (Jvm.Cond.exactly (Jvm.Term.string "PavementWalk$LawText" (110 : Nat)) "java/lang/String").before A s = true := an2 (an1 (an1 (an2 (an1 (an2 (an1 (an2 (an2 h))))))))
set_option maxRecDepth 100000 in
theorem nv203 (h : (Jvm.Cond.and given_1 narrow_1).before A s = true) : (Jvm.Cond.eq (Jvm.Term.field (Jvm.Term.string "PavementWalk$LawText" (110 : Nat)) "java/lang/String" "coder" "B") (Jvm.Term.int (0 : Int32))).before A s = true := an1 (an2 (an1 (an2 (an1 (an2 (an1 (an2 (an2 h))))))))
set_option maxRecDepth 100000 in
theorem nv204 (h : (Jvm.Cond.and given_1 narrow_1).before A s = true) : (Jvm.Cond.arrayOf (Jvm.Term.field (Jvm.Term.string "PavementWalk$LawText" (110 : Nat)) "java/lang/String" "value" "[B") Jvm.ClassFile.FieldType.byte).before A s = true := an1 (an2 (an2 (an1 (an2 (an1 (an2 (an1 (an2 (an2 h)))))))))
set_option maxRecDepth 100000 in
theorem nv205 (h : (Jvm.Cond.and given_1 narrow_1).before A s = true) : (Jvm.Cond.eq (Jvm.Term.length (Jvm.Term.field (Jvm.Term.string "PavementWalk$LawText" (110 : Nat)) "java/lang/String" "value" "[B")) (Jvm.Term.int (4 : Int32))).before A s = true := an2 (an2 (an2 (an1 (an2 (an1 (an2 (an1 (an2 (an2 h)))))))))
set_option maxRecDepth 100000 in
theorem nv206 (h : (Jvm.Cond.and given_1 narrow_1).before A s = true) : (Jvm.Cond.eq (Jvm.Term.elem (Jvm.Term.field (Jvm.Term.string "PavementWalk$LawText" (110 : Nat)) "java/lang/String" "value" "[B") (Jvm.Term.int (0 : Int32))) (Jvm.Term.int (108 : Int32))).before A s = true := an1 (an1 (an2 (an2 (an1 (an2 (an1 (an2 (an2 h))))))))
set_option maxRecDepth 100000 in
theorem nv207 (h : (Jvm.Cond.and given_1 narrow_1).before A s = true) : (Jvm.Cond.eq (Jvm.Term.elem (Jvm.Term.field (Jvm.Term.string "PavementWalk$LawText" (110 : Nat)) "java/lang/String" "value" "[B") (Jvm.Term.int (1 : Int32))) (Jvm.Term.int (101 : Int32))).before A s = true := an2 (an1 (an2 (an2 (an1 (an2 (an1 (an2 (an2 h))))))))
set_option maxRecDepth 100000 in
theorem nv208 (h : (Jvm.Cond.and given_1 narrow_1).before A s = true) : (Jvm.Cond.eq (Jvm.Term.elem (Jvm.Term.field (Jvm.Term.string "PavementWalk$LawText" (110 : Nat)) "java/lang/String" "value" "[B") (Jvm.Term.int (2 : Int32))) (Jvm.Term.int (102 : Int32))).before A s = true := an1 (an2 (an2 (an2 (an1 (an2 (an1 (an2 (an2 h))))))))
set_option maxRecDepth 100000 in
theorem nv209 (h : (Jvm.Cond.and given_1 narrow_1).before A s = true) : (Jvm.Cond.eq (Jvm.Term.elem (Jvm.Term.field (Jvm.Term.string "PavementWalk$LawText" (110 : Nat)) "java/lang/String" "value" "[B") (Jvm.Term.int (3 : Int32))) (Jvm.Term.int (116 : Int32))).before A s = true := an1 (an2 (an2 (an2 (an2 (an1 (an2 (an1 (an2 (an2 h)))))))))
set_option maxRecDepth 100000 in
theorem nv210 (h : (Jvm.Cond.and given_1 narrow_1).before A s = true) : (Jvm.Cond.eq (Jvm.Term.string "PavementWalk$PassageText" (140 : Nat)) (Jvm.Term.string "PavementWalk$LawText" (110 : Nat))).before A s = true := an2 (an2 (an2 (an2 (an2 (an1 (an2 (an1 (an2 (an2 h)))))))))
set_option maxRecDepth 100000 in
theorem nv211 (h : (Jvm.Cond.and given_1 narrow_1).before A s = true) : (Jvm.Cond.exactly (Jvm.Term.string "PavementWalk$LawText" (112 : Nat)) "java/lang/String").before A s = true := an1 (an1 (an1 (an1 (an2 (an2 (an1 (an2 (an2 h))))))))
set_option maxRecDepth 100000 in
theorem nv212 (h : (Jvm.Cond.and given_1 narrow_1).before A s = true) : (Jvm.Cond.eq (Jvm.Term.field (Jvm.Term.string "PavementWalk$LawText" (112 : Nat)) "java/lang/String" "coder" "B") (Jvm.Term.int (0 : Int32))).before A s = true := an2 (an1 (an1 (an1 (an2 (an2 (an1 (an2 (an2 h))))))))
set_option maxRecDepth 100000 in
theorem nv213 (h : (Jvm.Cond.and given_1 narrow_1).before A s = true) : (Jvm.Cond.arrayOf (Jvm.Term.field (Jvm.Term.string "PavementWalk$LawText" (112 : Nat)) "java/lang/String" "value" "[B") Jvm.ClassFile.FieldType.byte).before A s = true := an1 (an2 (an1 (an1 (an2 (an2 (an1 (an2 (an2 h))))))))
set_option maxRecDepth 100000 in
theorem nv214 (h : (Jvm.Cond.and given_1 narrow_1).before A s = true) : (Jvm.Cond.eq (Jvm.Term.length (Jvm.Term.field (Jvm.Term.string "PavementWalk$LawText" (112 : Nat)) "java/lang/String" "value" "[B")) (Jvm.Term.int (6 : Int32))).before A s = true := an1 (an2 (an2 (an1 (an1 (an2 (an2 (an1 (an2 (an2 h)))))))))
set_option maxRecDepth 100000 in
theorem nv215 (h : (Jvm.Cond.and given_1 narrow_1).before A s = true) : (Jvm.Cond.eq (Jvm.Term.elem (Jvm.Term.field (Jvm.Term.string "PavementWalk$LawText" (112 : Nat)) "java/lang/String" "value" "[B") (Jvm.Term.int (0 : Int32))) (Jvm.Term.int (119 : Int32))).before A s = true := an2 (an2 (an2 (an1 (an1 (an2 (an2 (an1 (an2 (an2 h)))))))))
set_option maxRecDepth 100000 in
theorem nv216 (h : (Jvm.Cond.and given_1 narrow_1).before A s = true) : (Jvm.Cond.eq (Jvm.Term.elem (Jvm.Term.field (Jvm.Term.string "PavementWalk$LawText" (112 : Nat)) "java/lang/String" "value" "[B") (Jvm.Term.int (1 : Int32))) (Jvm.Term.int (97 : Int32))).before A s = true := an1 (an1 (an2 (an1 (an2 (an2 (an1 (an2 (an2 h))))))))
set_option maxRecDepth 100000 in
theorem nv217 (h : (Jvm.Cond.and given_1 narrow_1).before A s = true) : (Jvm.Cond.eq (Jvm.Term.elem (Jvm.Term.field (Jvm.Term.string "PavementWalk$LawText" (112 : Nat)) "java/lang/String" "value" "[B") (Jvm.Term.int (2 : Int32))) (Jvm.Term.int (105 : Int32))).before A s = true := an2 (an1 (an2 (an1 (an2 (an2 (an1 (an2 (an2 h))))))))
set_option maxRecDepth 100000 in
theorem nv218 (h : (Jvm.Cond.and given_1 narrow_1).before A s = true) : (Jvm.Cond.eq (Jvm.Term.elem (Jvm.Term.field (Jvm.Term.string "PavementWalk$LawText" (112 : Nat)) "java/lang/String" "value" "[B") (Jvm.Term.int (3 : Int32))) (Jvm.Term.int (116 : Int32))).before A s = true := an1 (an2 (an2 (an1 (an2 (an2 (an1 (an2 (an2 h))))))))
set_option maxRecDepth 100000 in
theorem nv219 (h : (Jvm.Cond.and given_1 narrow_1).before A s = true) : (Jvm.Cond.eq (Jvm.Term.elem (Jvm.Term.field (Jvm.Term.string "PavementWalk$LawText" (112 : Nat)) "java/lang/String" "value" "[B") (Jvm.Term.int (4 : Int32))) (Jvm.Term.int (101 : Int32))).before A s = true := an1 (an2 (an2 (an2 (an1 (an2 (an2 (an1 (an2 (an2 h)))))))))
set_option maxRecDepth 100000 in
theorem nv220 (h : (Jvm.Cond.and given_1 narrow_1).before A s = true) : (Jvm.Cond.eq (Jvm.Term.elem (Jvm.Term.field (Jvm.Term.string "PavementWalk$LawText" (112 : Nat)) "java/lang/String" "value" "[B") (Jvm.Term.int (5 : Int32))) (Jvm.Term.int (100 : Int32))).before A s = true := an2 (an2 (an2 (an2 (an1 (an2 (an2 (an1 (an2 (an2 h)))))))))
set_option maxRecDepth 100000 in
theorem nv221 (h : (Jvm.Cond.and given_1 narrow_1).before A s = true) : (Jvm.Cond.exactly (Jvm.Term.string "PavementWalk$LawText" (114 : Nat)) "java/lang/String").before A s = true := an1 (an1 (an1 (an2 (an2 (an2 (an1 (an2 (an2 h))))))))
set_option maxRecDepth 100000 in
theorem nv222 (h : (Jvm.Cond.and given_1 narrow_1).before A s = true) : (Jvm.Cond.eq (Jvm.Term.field (Jvm.Term.string "PavementWalk$LawText" (114 : Nat)) "java/lang/String" "coder" "B") (Jvm.Term.int (0 : Int32))).before A s = true := an2 (an1 (an1 (an2 (an2 (an2 (an1 (an2 (an2 h))))))))
set_option maxRecDepth 100000 in
theorem nv223 (h : (Jvm.Cond.and given_1 narrow_1).before A s = true) : (Jvm.Cond.arrayOf (Jvm.Term.field (Jvm.Term.string "PavementWalk$LawText" (114 : Nat)) "java/lang/String" "value" "[B") Jvm.ClassFile.FieldType.byte).before A s = true := an1 (an2 (an1 (an2 (an2 (an2 (an1 (an2 (an2 h))))))))
set_option maxRecDepth 100000 in
theorem nv224 (h : (Jvm.Cond.and given_1 narrow_1).before A s = true) : (Jvm.Cond.eq (Jvm.Term.length (Jvm.Term.field (Jvm.Term.string "PavementWalk$LawText" (114 : Nat)) "java/lang/String" "value" "[B")) (Jvm.Term.int (5 : Int32))).before A s = true := an1 (an2 (an2 (an1 (an2 (an2 (an2 (an1 (an2 (an2 h)))))))))
set_option maxRecDepth 100000 in
theorem nv225 (h : (Jvm.Cond.and given_1 narrow_1).before A s = true) : (Jvm.Cond.eq (Jvm.Term.elem (Jvm.Term.field (Jvm.Term.string "PavementWalk$LawText" (114 : Nat)) "java/lang/String" "value" "[B") (Jvm.Term.int (0 : Int32))) (Jvm.Term.int (104 : Int32))).before A s = true := an2 (an2 (an2 (an1 (an2 (an2 (an2 (an1 (an2 (an2 h)))))))))
set_option maxRecDepth 100000 in
theorem nv226 (h : (Jvm.Cond.and given_1 narrow_1).before A s = true) : (Jvm.Cond.eq (Jvm.Term.elem (Jvm.Term.field (Jvm.Term.string "PavementWalk$LawText" (114 : Nat)) "java/lang/String" "value" "[B") (Jvm.Term.int (1 : Int32))) (Jvm.Term.int (97 : Int32))).before A s = true := an1 (an1 (an2 (an2 (an2 (an2 (an1 (an2 (an2 h))))))))
set_option maxRecDepth 100000 in
theorem nv227 (h : (Jvm.Cond.and given_1 narrow_1).before A s = true) : (Jvm.Cond.eq (Jvm.Term.elem (Jvm.Term.field (Jvm.Term.string "PavementWalk$LawText" (114 : Nat)) "java/lang/String" "value" "[B") (Jvm.Term.int (2 : Int32))) (Jvm.Term.int (115 : Int32))).before A s = true := an2 (an1 (an2 (an2 (an2 (an2 (an1 (an2 (an2 h))))))))
set_option maxRecDepth 100000 in
theorem nv228 (h : (Jvm.Cond.and given_1 narrow_1).before A s = true) : (Jvm.Cond.eq (Jvm.Term.elem (Jvm.Term.field (Jvm.Term.string "PavementWalk$LawText" (114 : Nat)) "java/lang/String" "value" "[B") (Jvm.Term.int (3 : Int32))) (Jvm.Term.int (116 : Int32))).before A s = true := an1 (an2 (an2 (an2 (an2 (an2 (an1 (an2 (an2 h))))))))
set_option maxRecDepth 100000 in
theorem nv229 (h : (Jvm.Cond.and given_1 narrow_1).before A s = true) : (Jvm.Cond.eq (Jvm.Term.elem (Jvm.Term.field (Jvm.Term.string "PavementWalk$LawText" (114 : Nat)) "java/lang/String" "value" "[B") (Jvm.Term.int (4 : Int32))) (Jvm.Term.int (101 : Int32))).before A s = true := an1 (an2 (an2 (an2 (an2 (an2 (an2 (an1 (an2 (an2 h)))))))))
set_option maxRecDepth 100000 in
theorem nv230 (h : (Jvm.Cond.and given_1 narrow_1).before A s = true) : (Jvm.Cond.eq (Jvm.Term.string "PavementWalk$PassageText" (92 : Nat)) (Jvm.Term.string "PavementWalk$LawText" (114 : Nat))).before A s = true := an2 (an2 (an2 (an2 (an2 (an2 (an2 (an1 (an2 (an2 h)))))))))
set_option maxRecDepth 100000 in
theorem nv231 (h : (Jvm.Cond.and given_1 narrow_1).before A s = true) : (Jvm.Cond.exactly (Jvm.Term.string "PavementWalk$LawText" (116 : Nat)) "java/lang/String").before A s = true := an1 (an1 (an1 (an1 (an1 (an1 (an2 (an2 (an2 h))))))))
set_option maxRecDepth 100000 in
theorem nv232 (h : (Jvm.Cond.and given_1 narrow_1).before A s = true) : (Jvm.Cond.eq (Jvm.Term.field (Jvm.Term.string "PavementWalk$LawText" (116 : Nat)) "java/lang/String" "coder" "B") (Jvm.Term.int (0 : Int32))).before A s = true := an2 (an1 (an1 (an1 (an1 (an1 (an2 (an2 (an2 h))))))))
set_option maxRecDepth 100000 in
theorem nv233 (h : (Jvm.Cond.and given_1 narrow_1).before A s = true) : (Jvm.Cond.arrayOf (Jvm.Term.field (Jvm.Term.string "PavementWalk$LawText" (116 : Nat)) "java/lang/String" "value" "[B") Jvm.ClassFile.FieldType.byte).before A s = true := an1 (an2 (an1 (an1 (an1 (an1 (an2 (an2 (an2 h))))))))
set_option maxRecDepth 100000 in
theorem nv234 (h : (Jvm.Cond.and given_1 narrow_1).before A s = true) : (Jvm.Cond.eq (Jvm.Term.length (Jvm.Term.field (Jvm.Term.string "PavementWalk$LawText" (116 : Nat)) "java/lang/String" "value" "[B")) (Jvm.Term.int (5 : Int32))).before A s = true := an2 (an2 (an1 (an1 (an1 (an1 (an2 (an2 (an2 h))))))))
set_option maxRecDepth 100000 in
theorem nv235 (h : (Jvm.Cond.and given_1 narrow_1).before A s = true) : (Jvm.Cond.eq (Jvm.Term.elem (Jvm.Term.field (Jvm.Term.string "PavementWalk$LawText" (116 : Nat)) "java/lang/String" "value" "[B") (Jvm.Term.int (0 : Int32))) (Jvm.Term.int (99 : Int32))).before A s = true := an1 (an1 (an2 (an1 (an1 (an1 (an2 (an2 (an2 h))))))))
set_option maxRecDepth 100000 in
theorem nv236 (h : (Jvm.Cond.and given_1 narrow_1).before A s = true) : (Jvm.Cond.eq (Jvm.Term.elem (Jvm.Term.field (Jvm.Term.string "PavementWalk$LawText" (116 : Nat)) "java/lang/String" "value" "[B") (Jvm.Term.int (1 : Int32))) (Jvm.Term.int (114 : Int32))).before A s = true := an2 (an1 (an2 (an1 (an1 (an1 (an2 (an2 (an2 h))))))))
set_option maxRecDepth 100000 in
theorem nv237 (h : (Jvm.Cond.and given_1 narrow_1).before A s = true) : (Jvm.Cond.eq (Jvm.Term.elem (Jvm.Term.field (Jvm.Term.string "PavementWalk$LawText" (116 : Nat)) "java/lang/String" "value" "[B") (Jvm.Term.int (2 : Int32))) (Jvm.Term.int (111 : Int32))).before A s = true := an1 (an2 (an2 (an1 (an1 (an1 (an2 (an2 (an2 h))))))))
set_option maxRecDepth 100000 in
theorem nv238 (h : (Jvm.Cond.and given_1 narrow_1).before A s = true) : (Jvm.Cond.eq (Jvm.Term.elem (Jvm.Term.field (Jvm.Term.string "PavementWalk$LawText" (116 : Nat)) "java/lang/String" "value" "[B") (Jvm.Term.int (3 : Int32))) (Jvm.Term.int (119 : Int32))).before A s = true := an1 (an2 (an2 (an2 (an1 (an1 (an1 (an2 (an2 (an2 h)))))))))
set_option maxRecDepth 100000 in
theorem nv239 (h : (Jvm.Cond.and given_1 narrow_1).before A s = true) : (Jvm.Cond.eq (Jvm.Term.elem (Jvm.Term.field (Jvm.Term.string "PavementWalk$LawText" (116 : Nat)) "java/lang/String" "value" "[B") (Jvm.Term.int (4 : Int32))) (Jvm.Term.int (100 : Int32))).before A s = true := an2 (an2 (an2 (an2 (an1 (an1 (an1 (an2 (an2 (an2 h)))))))))
set_option maxRecDepth 100000 in
theorem nv240 (h : (Jvm.Cond.and given_1 narrow_1).before A s = true) : (Jvm.Cond.exactly (Jvm.Term.string "PavementWalk$LawText" (118 : Nat)) "java/lang/String").before A s = true := an1 (an1 (an1 (an2 (an1 (an1 (an2 (an2 (an2 h))))))))
set_option maxRecDepth 100000 in
theorem nv241 (h : (Jvm.Cond.and given_1 narrow_1).before A s = true) : (Jvm.Cond.eq (Jvm.Term.field (Jvm.Term.string "PavementWalk$LawText" (118 : Nat)) "java/lang/String" "coder" "B") (Jvm.Term.int (0 : Int32))).before A s = true := an2 (an1 (an1 (an2 (an1 (an1 (an2 (an2 (an2 h))))))))
set_option maxRecDepth 100000 in
theorem nv242 (h : (Jvm.Cond.and given_1 narrow_1).before A s = true) : (Jvm.Cond.arrayOf (Jvm.Term.field (Jvm.Term.string "PavementWalk$LawText" (118 : Nat)) "java/lang/String" "value" "[B") Jvm.ClassFile.FieldType.byte).before A s = true := an1 (an2 (an1 (an2 (an1 (an1 (an2 (an2 (an2 h))))))))
set_option maxRecDepth 100000 in
theorem nv243 (h : (Jvm.Cond.and given_1 narrow_1).before A s = true) : (Jvm.Cond.eq (Jvm.Term.length (Jvm.Term.field (Jvm.Term.string "PavementWalk$LawText" (118 : Nat)) "java/lang/String" "value" "[B")) (Jvm.Term.int (7 : Int32))).before A s = true := an1 (an2 (an2 (an1 (an2 (an1 (an1 (an2 (an2 (an2 h)))))))))
set_option maxRecDepth 100000 in
theorem nv244 (h : (Jvm.Cond.and given_1 narrow_1).before A s = true) : (Jvm.Cond.eq (Jvm.Term.elem (Jvm.Term.field (Jvm.Term.string "PavementWalk$LawText" (118 : Nat)) "java/lang/String" "value" "[B") (Jvm.Term.int (0 : Int32))) (Jvm.Term.int (98 : Int32))).before A s = true := an2 (an2 (an2 (an1 (an2 (an1 (an1 (an2 (an2 (an2 h)))))))))
set_option maxRecDepth 100000 in
theorem nv245 (h : (Jvm.Cond.and given_1 narrow_1).before A s = true) : (Jvm.Cond.eq (Jvm.Term.elem (Jvm.Term.field (Jvm.Term.string "PavementWalk$LawText" (118 : Nat)) "java/lang/String" "value" "[B") (Jvm.Term.int (1 : Int32))) (Jvm.Term.int (108 : Int32))).before A s = true := an1 (an1 (an2 (an2 (an1 (an1 (an2 (an2 (an2 h))))))))
set_option maxRecDepth 100000 in
theorem nv246 (h : (Jvm.Cond.and given_1 narrow_1).before A s = true) : (Jvm.Cond.eq (Jvm.Term.elem (Jvm.Term.field (Jvm.Term.string "PavementWalk$LawText" (118 : Nat)) "java/lang/String" "value" "[B") (Jvm.Term.int (2 : Int32))) (Jvm.Term.int (111 : Int32))).before A s = true := an2 (an1 (an2 (an2 (an1 (an1 (an2 (an2 (an2 h))))))))
set_option maxRecDepth 100000 in
theorem nv247 (h : (Jvm.Cond.and given_1 narrow_1).before A s = true) : (Jvm.Cond.eq (Jvm.Term.elem (Jvm.Term.field (Jvm.Term.string "PavementWalk$LawText" (118 : Nat)) "java/lang/String" "value" "[B") (Jvm.Term.int (3 : Int32))) (Jvm.Term.int (99 : Int32))).before A s = true := an1 (an2 (an2 (an2 (an1 (an1 (an2 (an2 (an2 h))))))))
set_option maxRecDepth 100000 in
theorem nv248 (h : (Jvm.Cond.and given_1 narrow_1).before A s = true) : (Jvm.Cond.eq (Jvm.Term.elem (Jvm.Term.field (Jvm.Term.string "PavementWalk$LawText" (118 : Nat)) "java/lang/String" "value" "[B") (Jvm.Term.int (4 : Int32))) (Jvm.Term.int (107 : Int32))).before A s = true := an1 (an2 (an2 (an2 (an2 (an1 (an1 (an2 (an2 (an2 h)))))))))
set_option maxRecDepth 100000 in
theorem nv249 (h : (Jvm.Cond.and given_1 narrow_1).before A s = true) : (Jvm.Cond.eq (Jvm.Term.elem (Jvm.Term.field (Jvm.Term.string "PavementWalk$LawText" (118 : Nat)) "java/lang/String" "value" "[B") (Jvm.Term.int (5 : Int32))) (Jvm.Term.int (101 : Int32))).before A s = true := an2 (an2 (an2 (an2 (an2 (an1 (an1 (an2 (an2 (an2 h)))))))))
set_option maxRecDepth 100000 in
theorem nv250 (h : (Jvm.Cond.and given_1 narrow_1).before A s = true) : (Jvm.Cond.eq (Jvm.Term.elem (Jvm.Term.field (Jvm.Term.string "PavementWalk$LawText" (118 : Nat)) "java/lang/String" "value" "[B") (Jvm.Term.int (6 : Int32))) (Jvm.Term.int (100 : Int32))).before A s = true := an1 (an1 (an1 (an1 (an2 (an1 (an2 (an2 (an2 h))))))))
set_option maxRecDepth 100000 in
theorem nv251 (h : (Jvm.Cond.and given_1 narrow_1).before A s = true) : (Jvm.Cond.exactly (Jvm.Term.string "PavementWalk$LawText" (120 : Nat)) "java/lang/String").before A s = true := an2 (an1 (an1 (an1 (an2 (an1 (an2 (an2 (an2 h))))))))
set_option maxRecDepth 100000 in
theorem nv252 (h : (Jvm.Cond.and given_1 narrow_1).before A s = true) : (Jvm.Cond.eq (Jvm.Term.field (Jvm.Term.string "PavementWalk$LawText" (120 : Nat)) "java/lang/String" "coder" "B") (Jvm.Term.int (0 : Int32))).before A s = true := an1 (an2 (an1 (an1 (an2 (an1 (an2 (an2 (an2 h))))))))
set_option maxRecDepth 100000 in
theorem nv253 (h : (Jvm.Cond.and given_1 narrow_1).before A s = true) : (Jvm.Cond.arrayOf (Jvm.Term.field (Jvm.Term.string "PavementWalk$LawText" (120 : Nat)) "java/lang/String" "value" "[B") Jvm.ClassFile.FieldType.byte).before A s = true := an2 (an2 (an1 (an1 (an2 (an1 (an2 (an2 (an2 h))))))))
set_option maxRecDepth 100000 in
theorem nv254 (h : (Jvm.Cond.and given_1 narrow_1).before A s = true) : (Jvm.Cond.eq (Jvm.Term.length (Jvm.Term.field (Jvm.Term.string "PavementWalk$LawText" (120 : Nat)) "java/lang/String" "value" "[B")) (Jvm.Term.int (6 : Int32))).before A s = true := an1 (an1 (an2 (an1 (an2 (an1 (an2 (an2 (an2 h))))))))
set_option maxRecDepth 100000 in
theorem nv255 (h : (Jvm.Cond.and given_1 narrow_1).before A s = true) : (Jvm.Cond.eq (Jvm.Term.elem (Jvm.Term.field (Jvm.Term.string "PavementWalk$LawText" (120 : Nat)) "java/lang/String" "value" "[B") (Jvm.Term.int (0 : Int32))) (Jvm.Term.int (102 : Int32))).before A s = true := an2 (an1 (an2 (an1 (an2 (an1 (an2 (an2 (an2 h))))))))
set_option maxRecDepth 100000 in
theorem nv256 (h : (Jvm.Cond.and given_1 narrow_1).before A s = true) : (Jvm.Cond.eq (Jvm.Term.elem (Jvm.Term.field (Jvm.Term.string "PavementWalk$LawText" (120 : Nat)) "java/lang/String" "value" "[B") (Jvm.Term.int (1 : Int32))) (Jvm.Term.int (97 : Int32))).before A s = true := an1 (an2 (an2 (an1 (an2 (an1 (an2 (an2 (an2 h))))))))
set_option maxRecDepth 100000 in
theorem nv257 (h : (Jvm.Cond.and given_1 narrow_1).before A s = true) : (Jvm.Cond.eq (Jvm.Term.elem (Jvm.Term.field (Jvm.Term.string "PavementWalk$LawText" (120 : Nat)) "java/lang/String" "value" "[B") (Jvm.Term.int (2 : Int32))) (Jvm.Term.int (99 : Int32))).before A s = true := an1 (an2 (an2 (an2 (an1 (an2 (an1 (an2 (an2 (an2 h)))))))))
set_option maxRecDepth 100000 in
theorem nv258 (h : (Jvm.Cond.and given_1 narrow_1).before A s = true) : (Jvm.Cond.eq (Jvm.Term.elem (Jvm.Term.field (Jvm.Term.string "PavementWalk$LawText" (120 : Nat)) "java/lang/String" "value" "[B") (Jvm.Term.int (3 : Int32))) (Jvm.Term.int (105 : Int32))).before A s = true := an2 (an2 (an2 (an2 (an1 (an2 (an1 (an2 (an2 (an2 h)))))))))
set_option maxRecDepth 100000 in
theorem nv259 (h : (Jvm.Cond.and given_1 narrow_1).before A s = true) : (Jvm.Cond.eq (Jvm.Term.elem (Jvm.Term.field (Jvm.Term.string "PavementWalk$LawText" (120 : Nat)) "java/lang/String" "value" "[B") (Jvm.Term.int (4 : Int32))) (Jvm.Term.int (110 : Int32))).before A s = true := an1 (an1 (an1 (an2 (an2 (an1 (an2 (an2 (an2 h))))))))
set_option maxRecDepth 100000 in
theorem nv260 (h : (Jvm.Cond.and given_1 narrow_1).before A s = true) : (Jvm.Cond.eq (Jvm.Term.elem (Jvm.Term.field (Jvm.Term.string "PavementWalk$LawText" (120 : Nat)) "java/lang/String" "value" "[B") (Jvm.Term.int (5 : Int32))) (Jvm.Term.int (103 : Int32))).before A s = true := an2 (an1 (an1 (an2 (an2 (an1 (an2 (an2 (an2 h))))))))
set_option maxRecDepth 100000 in
theorem nv261 (h : (Jvm.Cond.and given_1 narrow_1).before A s = true) : (Jvm.Cond.exactly (Jvm.Term.string "PavementWalk$LawText" (122 : Nat)) "java/lang/String").before A s = true := an1 (an2 (an1 (an2 (an2 (an1 (an2 (an2 (an2 h))))))))
set_option maxRecDepth 100000 in
theorem nv262 (h : (Jvm.Cond.and given_1 narrow_1).before A s = true) : (Jvm.Cond.eq (Jvm.Term.field (Jvm.Term.string "PavementWalk$LawText" (122 : Nat)) "java/lang/String" "coder" "B") (Jvm.Term.int (0 : Int32))).before A s = true := an1 (an2 (an2 (an1 (an2 (an2 (an1 (an2 (an2 (an2 h)))))))))
set_option maxRecDepth 100000 in
theorem nv263 (h : (Jvm.Cond.and given_1 narrow_1).before A s = true) : (Jvm.Cond.arrayOf (Jvm.Term.field (Jvm.Term.string "PavementWalk$LawText" (122 : Nat)) "java/lang/String" "value" "[B") Jvm.ClassFile.FieldType.byte).before A s = true := an2 (an2 (an2 (an1 (an2 (an2 (an1 (an2 (an2 (an2 h)))))))))
set_option maxRecDepth 100000 in
theorem nv264 (h : (Jvm.Cond.and given_1 narrow_1).before A s = true) : (Jvm.Cond.eq (Jvm.Term.length (Jvm.Term.field (Jvm.Term.string "PavementWalk$LawText" (122 : Nat)) "java/lang/String" "value" "[B")) (Jvm.Term.int (6 : Int32))).before A s = true := an1 (an1 (an2 (an2 (an2 (an1 (an2 (an2 (an2 h))))))))
set_option maxRecDepth 100000 in
theorem nv265 (h : (Jvm.Cond.and given_1 narrow_1).before A s = true) : (Jvm.Cond.eq (Jvm.Term.elem (Jvm.Term.field (Jvm.Term.string "PavementWalk$LawText" (122 : Nat)) "java/lang/String" "value" "[B") (Jvm.Term.int (0 : Int32))) (Jvm.Term.int (112 : Int32))).before A s = true := an2 (an1 (an2 (an2 (an2 (an1 (an2 (an2 (an2 h))))))))
set_option maxRecDepth 100000 in
theorem nv266 (h : (Jvm.Cond.and given_1 narrow_1).before A s = true) : (Jvm.Cond.eq (Jvm.Term.elem (Jvm.Term.field (Jvm.Term.string "PavementWalk$LawText" (122 : Nat)) "java/lang/String" "value" "[B") (Jvm.Term.int (1 : Int32))) (Jvm.Term.int (97 : Int32))).before A s = true := an1 (an2 (an2 (an2 (an2 (an1 (an2 (an2 (an2 h))))))))
set_option maxRecDepth 100000 in
theorem nv267 (h : (Jvm.Cond.and given_1 narrow_1).before A s = true) : (Jvm.Cond.eq (Jvm.Term.elem (Jvm.Term.field (Jvm.Term.string "PavementWalk$LawText" (122 : Nat)) "java/lang/String" "value" "[B") (Jvm.Term.int (2 : Int32))) (Jvm.Term.int (114 : Int32))).before A s = true := an1 (an2 (an2 (an2 (an2 (an2 (an1 (an2 (an2 (an2 h)))))))))
set_option maxRecDepth 100000 in
theorem nv268 (h : (Jvm.Cond.and given_1 narrow_1).before A s = true) : (Jvm.Cond.eq (Jvm.Term.elem (Jvm.Term.field (Jvm.Term.string "PavementWalk$LawText" (122 : Nat)) "java/lang/String" "value" "[B") (Jvm.Term.int (3 : Int32))) (Jvm.Term.int (116 : Int32))).before A s = true := an2 (an2 (an2 (an2 (an2 (an2 (an1 (an2 (an2 (an2 h)))))))))
set_option maxRecDepth 100000 in
theorem nv269 (h : (Jvm.Cond.and given_1 narrow_1).before A s = true) : (Jvm.Cond.eq (Jvm.Term.elem (Jvm.Term.field (Jvm.Term.string "PavementWalk$LawText" (122 : Nat)) "java/lang/String" "value" "[B") (Jvm.Term.int (4 : Int32))) (Jvm.Term.int (101 : Int32))).before A s = true := an1 (an1 (an1 (an1 (an1 (an2 (an2 (an2 (an2 h))))))))
set_option maxRecDepth 100000 in
theorem nv270 (h : (Jvm.Cond.and given_1 narrow_1).before A s = true) : (Jvm.Cond.eq (Jvm.Term.elem (Jvm.Term.field (Jvm.Term.string "PavementWalk$LawText" (122 : Nat)) "java/lang/String" "value" "[B") (Jvm.Term.int (5 : Int32))) (Jvm.Term.int (100 : Int32))).before A s = true := an2 (an1 (an1 (an1 (an1 (an2 (an2 (an2 (an2 h))))))))
set_option maxRecDepth 100000 in
theorem nv271 (h : (Jvm.Cond.and given_1 narrow_1).before A s = true) : (Jvm.Cond.exactly (Jvm.Term.string "PavementWalk$LawText" (57 : Nat)) "java/lang/String").before A s = true := an1 (an2 (an1 (an1 (an1 (an2 (an2 (an2 (an2 h))))))))
set_option maxRecDepth 100000 in
theorem nv272 (h : (Jvm.Cond.and given_1 narrow_1).before A s = true) : (Jvm.Cond.eq (Jvm.Term.field (Jvm.Term.string "PavementWalk$LawText" (57 : Nat)) "java/lang/String" "coder" "B") (Jvm.Term.int (0 : Int32))).before A s = true := an2 (an2 (an1 (an1 (an1 (an2 (an2 (an2 (an2 h))))))))
set_option maxRecDepth 100000 in
theorem nv273 (h : (Jvm.Cond.and given_1 narrow_1).before A s = true) : (Jvm.Cond.arrayOf (Jvm.Term.field (Jvm.Term.string "PavementWalk$LawText" (57 : Nat)) "java/lang/String" "value" "[B") Jvm.ClassFile.FieldType.byte).before A s = true := an1 (an1 (an2 (an1 (an1 (an2 (an2 (an2 (an2 h))))))))
set_option maxRecDepth 100000 in
theorem nv274 (h : (Jvm.Cond.and given_1 narrow_1).before A s = true) : (Jvm.Cond.eq (Jvm.Term.length (Jvm.Term.field (Jvm.Term.string "PavementWalk$LawText" (57 : Nat)) "java/lang/String" "value" "[B")) (Jvm.Term.int (3 : Int32))).before A s = true := an2 (an1 (an2 (an1 (an1 (an2 (an2 (an2 (an2 h))))))))
set_option maxRecDepth 100000 in
theorem nv275 (h : (Jvm.Cond.and given_1 narrow_1).before A s = true) : (Jvm.Cond.eq (Jvm.Term.elem (Jvm.Term.field (Jvm.Term.string "PavementWalk$LawText" (57 : Nat)) "java/lang/String" "value" "[B") (Jvm.Term.int (0 : Int32))) (Jvm.Term.int (97 : Int32))).before A s = true := an1 (an2 (an2 (an1 (an1 (an2 (an2 (an2 (an2 h))))))))
set_option maxRecDepth 100000 in
theorem nv276 (h : (Jvm.Cond.and given_1 narrow_1).before A s = true) : (Jvm.Cond.eq (Jvm.Term.elem (Jvm.Term.field (Jvm.Term.string "PavementWalk$LawText" (57 : Nat)) "java/lang/String" "value" "[B") (Jvm.Term.int (1 : Int32))) (Jvm.Term.int (110 : Int32))).before A s = true := an1 (an2 (an2 (an2 (an1 (an1 (an2 (an2 (an2 (an2 h)))))))))
set_option maxRecDepth 100000 in
theorem nv277 (h : (Jvm.Cond.and given_1 narrow_1).before A s = true) : (Jvm.Cond.eq (Jvm.Term.elem (Jvm.Term.field (Jvm.Term.string "PavementWalk$LawText" (57 : Nat)) "java/lang/String" "value" "[B") (Jvm.Term.int (2 : Int32))) (Jvm.Term.int (100 : Int32))).before A s = true := an2 (an2 (an2 (an2 (an1 (an1 (an2 (an2 (an2 (an2 h)))))))))
set_option maxRecDepth 100000 in
theorem nv278 (h : (Jvm.Cond.and given_1 narrow_1).before A s = true) : (Jvm.Cond.exactly (Jvm.Term.string "PavementWalk$LawText" (124 : Nat)) "java/lang/String").before A s = true := an1 (an1 (an1 (an2 (an1 (an2 (an2 (an2 (an2 h))))))))
set_option maxRecDepth 100000 in
theorem nv279 (h : (Jvm.Cond.and given_1 narrow_1).before A s = true) : (Jvm.Cond.eq (Jvm.Term.field (Jvm.Term.string "PavementWalk$LawText" (124 : Nat)) "java/lang/String" "coder" "B") (Jvm.Term.int (0 : Int32))).before A s = true := an2 (an1 (an1 (an2 (an1 (an2 (an2 (an2 (an2 h))))))))
set_option maxRecDepth 100000 in
theorem nv280 (h : (Jvm.Cond.and given_1 narrow_1).before A s = true) : (Jvm.Cond.arrayOf (Jvm.Term.field (Jvm.Term.string "PavementWalk$LawText" (124 : Nat)) "java/lang/String" "value" "[B") Jvm.ClassFile.FieldType.byte).before A s = true := an1 (an2 (an1 (an2 (an1 (an2 (an2 (an2 (an2 h))))))))
set_option maxRecDepth 100000 in
theorem nv281 (h : (Jvm.Cond.and given_1 narrow_1).before A s = true) : (Jvm.Cond.eq (Jvm.Term.length (Jvm.Term.field (Jvm.Term.string "PavementWalk$LawText" (124 : Nat)) "java/lang/String" "value" "[B")) (Jvm.Term.int (2 : Int32))).before A s = true := an1 (an2 (an2 (an1 (an2 (an1 (an2 (an2 (an2 (an2 h)))))))))
set_option maxRecDepth 100000 in
theorem nv282 (h : (Jvm.Cond.and given_1 narrow_1).before A s = true) : (Jvm.Cond.eq (Jvm.Term.elem (Jvm.Term.field (Jvm.Term.string "PavementWalk$LawText" (124 : Nat)) "java/lang/String" "value" "[B") (Jvm.Term.int (0 : Int32))) (Jvm.Term.int (103 : Int32))).before A s = true := an2 (an2 (an2 (an1 (an2 (an1 (an2 (an2 (an2 (an2 h)))))))))
set_option maxRecDepth 100000 in
theorem nv283 (h : (Jvm.Cond.and given_1 narrow_1).before A s = true) : (Jvm.Cond.eq (Jvm.Term.elem (Jvm.Term.field (Jvm.Term.string "PavementWalk$LawText" (124 : Nat)) "java/lang/String" "value" "[B") (Jvm.Term.int (1 : Int32))) (Jvm.Term.int (111 : Int32))).before A s = true := an1 (an1 (an2 (an2 (an1 (an2 (an2 (an2 (an2 h))))))))
set_option maxRecDepth 100000 in
theorem nv284 (h : (Jvm.Cond.and given_1 narrow_1).before A s = true) : (Jvm.Cond.exactly (Jvm.Term.string "PavementWalk$LawText" (126 : Nat)) "java/lang/String").before A s = true := an2 (an1 (an2 (an2 (an1 (an2 (an2 (an2 (an2 h))))))))
set_option maxRecDepth 100000 in
theorem nv285 (h : (Jvm.Cond.and given_1 narrow_1).before A s = true) : (Jvm.Cond.eq (Jvm.Term.field (Jvm.Term.string "PavementWalk$LawText" (126 : Nat)) "java/lang/String" "coder" "B") (Jvm.Term.int (0 : Int32))).before A s = true := an1 (an2 (an2 (an2 (an1 (an2 (an2 (an2 (an2 h))))))))
set_option maxRecDepth 100000 in
theorem nv286 (h : (Jvm.Cond.and given_1 narrow_1).before A s = true) : (Jvm.Cond.arrayOf (Jvm.Term.field (Jvm.Term.string "PavementWalk$LawText" (126 : Nat)) "java/lang/String" "value" "[B") Jvm.ClassFile.FieldType.byte).before A s = true := an1 (an2 (an2 (an2 (an2 (an1 (an2 (an2 (an2 (an2 h)))))))))
set_option maxRecDepth 100000 in
theorem nv287 (h : (Jvm.Cond.and given_1 narrow_1).before A s = true) : (Jvm.Cond.eq (Jvm.Term.length (Jvm.Term.field (Jvm.Term.string "PavementWalk$LawText" (126 : Nat)) "java/lang/String" "value" "[B")) (Jvm.Term.int (4 : Int32))).before A s = true := an2 (an2 (an2 (an2 (an2 (an1 (an2 (an2 (an2 (an2 h)))))))))
set_option maxRecDepth 100000 in
theorem nv288 (h : (Jvm.Cond.and given_1 narrow_1).before A s = true) : (Jvm.Cond.eq (Jvm.Term.elem (Jvm.Term.field (Jvm.Term.string "PavementWalk$LawText" (126 : Nat)) "java/lang/String" "value" "[B") (Jvm.Term.int (0 : Int32))) (Jvm.Term.int (104 : Int32))).before A s = true := an1 (an1 (an1 (an1 (an2 (an2 (an2 (an2 (an2 h))))))))
set_option maxRecDepth 100000 in
theorem nv289 (h : (Jvm.Cond.and given_1 narrow_1).before A s = true) : (Jvm.Cond.eq (Jvm.Term.elem (Jvm.Term.field (Jvm.Term.string "PavementWalk$LawText" (126 : Nat)) "java/lang/String" "value" "[B") (Jvm.Term.int (1 : Int32))) (Jvm.Term.int (97 : Int32))).before A s = true := an2 (an1 (an1 (an1 (an2 (an2 (an2 (an2 (an2 h))))))))
set_option maxRecDepth 100000 in
theorem nv290 (h : (Jvm.Cond.and given_1 narrow_1).before A s = true) : (Jvm.Cond.eq (Jvm.Term.elem (Jvm.Term.field (Jvm.Term.string "PavementWalk$LawText" (126 : Nat)) "java/lang/String" "value" "[B") (Jvm.Term.int (2 : Int32))) (Jvm.Term.int (110 : Int32))).before A s = true := an1 (an2 (an1 (an1 (an2 (an2 (an2 (an2 (an2 h))))))))
set_option maxRecDepth 100000 in
theorem nv291 (h : (Jvm.Cond.and given_1 narrow_1).before A s = true) : (Jvm.Cond.eq (Jvm.Term.elem (Jvm.Term.field (Jvm.Term.string "PavementWalk$LawText" (126 : Nat)) "java/lang/String" "value" "[B") (Jvm.Term.int (3 : Int32))) (Jvm.Term.int (100 : Int32))).before A s = true := an1 (an2 (an2 (an1 (an1 (an2 (an2 (an2 (an2 (an2 h)))))))))
set_option maxRecDepth 100000 in
theorem nv292 (h : (Jvm.Cond.and given_1 narrow_1).before A s = true) : (Jvm.Cond.eq (Jvm.Term.string "PavementWalk$PassageText" (96 : Nat)) (Jvm.Term.string "PavementWalk$LawText" (126 : Nat))).before A s = true := an2 (an2 (an2 (an1 (an1 (an2 (an2 (an2 (an2 (an2 h)))))))))
set_option maxRecDepth 100000 in
theorem nv293 (h : (Jvm.Cond.and given_1 narrow_1).before A s = true) : (Jvm.Cond.exactly (Jvm.Term.string "PavementWalk$LawText" (128 : Nat)) "java/lang/String").before A s = true := an1 (an1 (an2 (an1 (an2 (an2 (an2 (an2 (an2 h))))))))
set_option maxRecDepth 100000 in
theorem nv294 (h : (Jvm.Cond.and given_1 narrow_1).before A s = true) : (Jvm.Cond.eq (Jvm.Term.field (Jvm.Term.string "PavementWalk$LawText" (128 : Nat)) "java/lang/String" "coder" "B") (Jvm.Term.int (0 : Int32))).before A s = true := an2 (an1 (an2 (an1 (an2 (an2 (an2 (an2 (an2 h))))))))
set_option maxRecDepth 100000 in
theorem nv295 (h : (Jvm.Cond.and given_1 narrow_1).before A s = true) : (Jvm.Cond.arrayOf (Jvm.Term.field (Jvm.Term.string "PavementWalk$LawText" (128 : Nat)) "java/lang/String" "value" "[B") Jvm.ClassFile.FieldType.byte).before A s = true := an1 (an2 (an2 (an1 (an2 (an2 (an2 (an2 (an2 h))))))))
set_option maxRecDepth 100000 in
theorem nv296 (h : (Jvm.Cond.and given_1 narrow_1).before A s = true) : (Jvm.Cond.eq (Jvm.Term.length (Jvm.Term.field (Jvm.Term.string "PavementWalk$LawText" (128 : Nat)) "java/lang/String" "value" "[B")) (Jvm.Term.int (3 : Int32))).before A s = true := an1 (an2 (an2 (an2 (an1 (an2 (an2 (an2 (an2 (an2 h)))))))))
set_option maxRecDepth 100000 in
theorem nv297 (h : (Jvm.Cond.and given_1 narrow_1).before A s = true) : (Jvm.Cond.eq (Jvm.Term.elem (Jvm.Term.field (Jvm.Term.string "PavementWalk$LawText" (128 : Nat)) "java/lang/String" "value" "[B") (Jvm.Term.int (0 : Int32))) (Jvm.Term.int (108 : Int32))).before A s = true := an2 (an2 (an2 (an2 (an1 (an2 (an2 (an2 (an2 (an2 h)))))))))
set_option maxRecDepth 100000 in
theorem nv298 (h : (Jvm.Cond.and given_1 narrow_1).before A s = true) : (Jvm.Cond.eq (Jvm.Term.elem (Jvm.Term.field (Jvm.Term.string "PavementWalk$LawText" (128 : Nat)) "java/lang/String" "value" "[B") (Jvm.Term.int (1 : Int32))) (Jvm.Term.int (111 : Int32))).before A s = true := an1 (an1 (an1 (an2 (an2 (an2 (an2 (an2 (an2 h))))))))
set_option maxRecDepth 100000 in
theorem nv299 (h : (Jvm.Cond.and given_1 narrow_1).before A s = true) : (Jvm.Cond.eq (Jvm.Term.elem (Jvm.Term.field (Jvm.Term.string "PavementWalk$LawText" (128 : Nat)) "java/lang/String" "value" "[B") (Jvm.Term.int (2 : Int32))) (Jvm.Term.int (116 : Int32))).before A s = true := an2 (an1 (an1 (an2 (an2 (an2 (an2 (an2 (an2 h))))))))
set_option maxRecDepth 100000 in
theorem nv300 (h : (Jvm.Cond.and given_1 narrow_1).before A s = true) : (Jvm.Cond.exactly (Jvm.Term.string "PavementWalk$LawText" (130 : Nat)) "java/lang/String").before A s = true := an1 (an2 (an1 (an2 (an2 (an2 (an2 (an2 (an2 h))))))))
set_option maxRecDepth 100000 in
theorem nv301 (h : (Jvm.Cond.and given_1 narrow_1).before A s = true) : (Jvm.Cond.eq (Jvm.Term.field (Jvm.Term.string "PavementWalk$LawText" (130 : Nat)) "java/lang/String" "coder" "B") (Jvm.Term.int (0 : Int32))).before A s = true := an1 (an2 (an2 (an1 (an2 (an2 (an2 (an2 (an2 (an2 h)))))))))
set_option maxRecDepth 100000 in
theorem nv302 (h : (Jvm.Cond.and given_1 narrow_1).before A s = true) : (Jvm.Cond.arrayOf (Jvm.Term.field (Jvm.Term.string "PavementWalk$LawText" (130 : Nat)) "java/lang/String" "value" "[B") Jvm.ClassFile.FieldType.byte).before A s = true := an2 (an2 (an2 (an1 (an2 (an2 (an2 (an2 (an2 (an2 h)))))))))
set_option maxRecDepth 100000 in
theorem nv303 (h : (Jvm.Cond.and given_1 narrow_1).before A s = true) : (Jvm.Cond.eq (Jvm.Term.length (Jvm.Term.field (Jvm.Term.string "PavementWalk$LawText" (130 : Nat)) "java/lang/String" "value" "[B")) (Jvm.Term.int (4 : Int32))).before A s = true := an1 (an1 (an2 (an2 (an2 (an2 (an2 (an2 (an2 h))))))))
set_option maxRecDepth 100000 in
theorem nv304 (h : (Jvm.Cond.and given_1 narrow_1).before A s = true) : (Jvm.Cond.eq (Jvm.Term.elem (Jvm.Term.field (Jvm.Term.string "PavementWalk$LawText" (130 : Nat)) "java/lang/String" "value" "[B") (Jvm.Term.int (0 : Int32))) (Jvm.Term.int (119 : Int32))).before A s = true := an2 (an1 (an2 (an2 (an2 (an2 (an2 (an2 (an2 h))))))))
set_option maxRecDepth 100000 in
theorem nv305 (h : (Jvm.Cond.and given_1 narrow_1).before A s = true) : (Jvm.Cond.eq (Jvm.Term.elem (Jvm.Term.field (Jvm.Term.string "PavementWalk$LawText" (130 : Nat)) "java/lang/String" "value" "[B") (Jvm.Term.int (1 : Int32))) (Jvm.Term.int (97 : Int32))).before A s = true := an1 (an2 (an2 (an2 (an2 (an2 (an2 (an2 (an2 h))))))))
set_option maxRecDepth 100000 in
theorem nv306 (h : (Jvm.Cond.and given_1 narrow_1).before A s = true) : (Jvm.Cond.eq (Jvm.Term.elem (Jvm.Term.field (Jvm.Term.string "PavementWalk$LawText" (130 : Nat)) "java/lang/String" "value" "[B") (Jvm.Term.int (2 : Int32))) (Jvm.Term.int (105 : Int32))).before A s = true := an1 (an2 (an2 (an2 (an2 (an2 (an2 (an2 (an2 (an2 h)))))))))
set_option maxRecDepth 100000 in
theorem nv307 (h : (Jvm.Cond.and given_1 narrow_1).before A s = true) : (Jvm.Cond.eq (Jvm.Term.elem (Jvm.Term.field (Jvm.Term.string "PavementWalk$LawText" (130 : Nat)) "java/lang/String" "value" "[B") (Jvm.Term.int (3 : Int32))) (Jvm.Term.int (116 : Int32))).before A s = true := an2 (an2 (an2 (an2 (an2 (an2 (an2 (an2 (an2 (an2 h)))))))))
def stX (s : State) (own tx : String) (k n : Nat) (bs : List Int32) : Prop := ∃ q : Nat × Nat, (va_O "java/lang/String" q.1 (fun x => s.heap.size ≤ x) s s.heap ∧ va_OF "java/lang/String" "coder" "B" (.int 0) q.1 (fun x => s.heap.size ≤ x) s s.heap ∧ va_OF "java/lang/String" "value" "[B" (.ref q.2) q.1 (fun x => s.heap.size ≤ x) s s.heap ∧ va_T .byte q.2 n (fun j => .int (bs.getD j 0)) (fun x => s.heap.size ≤ x) s s.heap) ∧ vk_R own k tx q.1 s
theorem st_of {own tx : String} {k n : Nat} {bs : List Int32} (hn : n < 2 ^ 31) (hex : (Cond.exactly (.string own k) "java/lang/String").before A s = true) (hco : (Cond.eq (.field (.string own k) "java/lang/String" "coder" "B") (.int 0)).before A s = true) (har : (Cond.arrayOf (.field (.string own k) "java/lang/String" "value" "[B") .byte).before A s = true) (hle : (Cond.eq (.length (.field (.string own k) "java/lang/String" "value" "[B")) (.int (Int32.ofNat n))).before A s = true) (hel : ∀ j : Nat, j < n → (Cond.eq (.elem (.field (.string own k) "java/lang/String" "value" "[B") (.int (Int32.ofNat j))) (.int (bs.getD j 0))).before A s = true) (hsr : (Cond.stringRef own k tx).before A s = true) :
    stX s own tx k n bs := by
  have hA : ∀ a : Nat, a < s.heap.size → ¬ (fun x : Nat => s.heap.size ≤ x) a := fun a h1 h2 => absurd h1 (Nat.not_lt.mpr h2)
  obtain ⟨a, c, cA, kA, q1, q2, q3, q4, q5, q6, -⟩ := Cond.exactly_spec (args := A) (first := s) (o := none) (s := s) (idx := []) (t := .string own k) (cls := "java/lang/String") hex
  obtain ⟨t, ht, hT⟩ := va_Tof (f := fun j => .int (bs.getD j 0)) (A := fun x => s.heap.size ≤ x) hn har (va_eqt hle) (fun j hj => va_eqt (hel j hj)) hA
  exact ⟨(a, t), ⟨⟨cA, q3, q5, by rw [q6]; exact q2, hA a (Array.getElem?_eq_some_iff.mp q3).1⟩, vk_OFof q1 (va_eqt hco) hA, vk_OFof q1 ht hA, hT⟩, vk_R.of hsr q1⟩
theorem sx0 (h : (Jvm.Cond.and given_1 narrow_1).before A s = true) (hts : ∀ w ∈ lw_tbl, w.before A s = true) : stX s "PavementWalk$PassageText" "size" 46 4 (sByt.getD 0 []) := st_of (own := "PavementWalk$PassageText") (k := 46) (tx := "size") (n := 4) (bs := sByt.getD 0 []) (by decide) (nv51 h) (nv52 h) (nv53 h) (nv54 h) (fun j hj => match j, hj with | 0, _ => nv55 h | 1, _ => nv56 h | 2, _ => nv57 h | 3, _ => nv58 h | k + 4, hj => absurd hj (by omega)) (hts _ (tn_3_1 _ (List.mem_of_getElem? (i := 3) rfl)))
theorem sx1 (h : (Jvm.Cond.and given_1 narrow_1).before A s = true) (hts : ∀ w ∈ lw_tbl, w.before A s = true) : stX s "PavementWalk$PassageText" "wall" 65 4 (sByt.getD 1 []) := st_of (own := "PavementWalk$PassageText") (k := 65) (tx := "wall") (n := 4) (bs := sByt.getD 1 []) (by decide) (nv59 h) (nv60 h) (nv61 h) (nv62 h) (fun j hj => match j, hj with | 0, _ => nv63 h | 1, _ => nv64 h | 2, _ => nv65 h | 3, _ => nv66 h | k + 4, hj => absurd hj (by omega)) (hts _ (tn_3_7 _ (List.mem_of_getElem? (i := 7) rfl)))
theorem sx2 (h : (Jvm.Cond.and given_1 narrow_1).before A s = true) (hts : ∀ w ∈ lw_tbl, w.before A s = true) : stX s "PavementWalk$PassageText" "walker" 74 6 (sByt.getD 2 []) := st_of (own := "PavementWalk$PassageText") (k := 74) (tx := "walker") (n := 6) (bs := sByt.getD 2 []) (by decide) (nv67 h) (nv68 h) (nv69 h) (nv70 h) (fun j hj => match j, hj with | 0, _ => nv71 h | 1, _ => nv72 h | 2, _ => nv73 h | 3, _ => nv74 h | 4, _ => nv75 h | 5, _ => nv76 h | k + 6, hj => absurd hj (by omega)) (hts _ (tn_3_9 _ (List.mem_of_getElem? (i := 5) rfl)))
theorem sx3 (h : (Jvm.Cond.and given_1 narrow_1).before A s = true) (hts : ∀ w ∈ lw_tbl, w.before A s = true) : stX s "PavementWalk$PassageText" "east" 126 4 (sByt.getD 3 []) := st_of (own := "PavementWalk$PassageText") (k := 126) (tx := "east") (n := 4) (bs := sByt.getD 3 []) (by decide) (nv77 h) (nv78 h) (nv79 h) (nv80 h) (fun j hj => match j, hj with | 0, _ => nv81 h | 1, _ => nv82 h | 2, _ => nv83 h | 3, _ => nv84 h | k + 4, hj => absurd hj (by omega)) (hts _ (tn_3_9 _ (List.mem_of_getElem? (i := 10) rfl)))
theorem sx4 (h : (Jvm.Cond.and given_1 narrow_1).before A s = true) (hts : ∀ w ∈ lw_tbl, w.before A s = true) : stX s "PavementWalk$PassageText" "west" 128 4 (sByt.getD 4 []) := st_of (own := "PavementWalk$PassageText") (k := 128) (tx := "west") (n := 4) (bs := sByt.getD 4 []) (by decide) (nv85 h) (nv86 h) (nv87 h) (nv88 h) (fun j hj => match j, hj with | 0, _ => nv89 h | 1, _ => nv90 h | 2, _ => nv91 h | 3, _ => nv92 h | k + 4, hj => absurd hj (by omega)) (hts _ (tn_3_9 _ (List.mem_of_getElem? (i := 11) rfl)))
theorem sx5 (h : (Jvm.Cond.and given_1 narrow_1).before A s = true) (hts : ∀ w ∈ lw_tbl, w.before A s = true) : stX s "PavementWalk$PassageText" "pace" 79 4 (sByt.getD 5 []) := st_of (own := "PavementWalk$PassageText") (k := 79) (tx := "pace") (n := 4) (bs := sByt.getD 5 []) (by decide) (nv93 h) (nv94 h) (nv95 h) (nv96 h) (fun j hj => match j, hj with | 0, _ => nv97 h | 1, _ => nv98 h | 2, _ => nv99 h | 3, _ => nv100 h | k + 4, hj => absurd hj (by omega)) (hts _ (tn_3_10 _ (List.mem_of_getElem? (i := 0) rfl)))
theorem sx6 (h : (Jvm.Cond.and given_1 narrow_1).before A s = true) (hts : ∀ w ∈ lw_tbl, w.before A s = true) : stX s "PavementWalk$PassageText" "late" 88 4 (sByt.getD 6 []) := st_of (own := "PavementWalk$PassageText") (k := 88) (tx := "late") (n := 4) (bs := sByt.getD 6 []) (by decide) (nv101 h) (nv102 h) (nv103 h) (nv104 h) (fun j hj => match j, hj with | 0, _ => nv105 h | 1, _ => nv106 h | 2, _ => nv107 h | 3, _ => nv108 h | k + 4, hj => absurd hj (by omega)) (hts _ (tn_3_10 _ (List.mem_of_getElem? (i := 5) rfl)))
theorem sx7 (h : (Jvm.Cond.and given_1 narrow_1).before A s = true) (hts : ∀ w ∈ lw_tbl, w.before A s = true) : stX s "PavementWalk$PassageText" "haste" 92 5 (sByt.getD 7 []) := st_of (own := "PavementWalk$PassageText") (k := 92) (tx := "haste") (n := 5) (bs := sByt.getD 7 []) (by decide) (nv109 h) (nv110 h) (nv111 h) (nv112 h) (fun j hj => match j, hj with | 0, _ => nv113 h | 1, _ => nv114 h | 2, _ => nv115 h | 3, _ => nv116 h | 4, _ => nv117 h | k + 5, hj => absurd hj (by omega)) (hts _ (tn_3_10 _ (List.mem_of_getElem? (i := 6) rfl)))
theorem sx8 (h : (Jvm.Cond.and given_1 narrow_1).before A s = true) (hts : ∀ w ∈ lw_tbl, w.before A s = true) : stX s "PavementWalk$PassageText" "hand" 96 4 (sByt.getD 8 []) := st_of (own := "PavementWalk$PassageText") (k := 96) (tx := "hand") (n := 4) (bs := sByt.getD 8 []) (by decide) (nv118 h) (nv119 h) (nv120 h) (nv121 h) (fun j hj => match j, hj with | 0, _ => nv122 h | 1, _ => nv123 h | 2, _ => nv124 h | 3, _ => nv125 h | k + 4, hj => absurd hj (by omega)) (hts _ (tn_3_10 _ (List.mem_of_getElem? (i := 7) rfl)))
theorem sx9 (h : (Jvm.Cond.and given_1 narrow_1).before A s = true) (hts : ∀ w ∈ lw_tbl, w.before A s = true) : stX s "PavementWalk$PassageText" "right" 138 5 (sByt.getD 9 []) := st_of (own := "PavementWalk$PassageText") (k := 138) (tx := "right") (n := 5) (bs := sByt.getD 9 []) (by decide) (nv126 h) (nv127 h) (nv128 h) (nv129 h) (fun j hj => match j, hj with | 0, _ => nv130 h | 1, _ => nv131 h | 2, _ => nv132 h | 3, _ => nv133 h | 4, _ => nv134 h | k + 5, hj => absurd hj (by omega)) (hts _ (tn_3_10 _ (List.mem_of_getElem? (i := 12) rfl)))
theorem sx10 (h : (Jvm.Cond.and given_1 narrow_1).before A s = true) (hts : ∀ w ∈ lw_tbl, w.before A s = true) : stX s "PavementWalk$PassageText" "left" 140 4 (sByt.getD 10 []) := st_of (own := "PavementWalk$PassageText") (k := 140) (tx := "left") (n := 4) (bs := sByt.getD 10 []) (by decide) (nv135 h) (nv136 h) (nv137 h) (nv138 h) (fun j hj => match j, hj with | 0, _ => nv139 h | 1, _ => nv140 h | 2, _ => nv141 h | 3, _ => nv142 h | k + 4, hj => absurd hj (by omega)) (hts _ (tn_3_10 _ (List.mem_of_getElem? (i := 13) rfl)))
theorem sx11 (h : (Jvm.Cond.and given_1 narrow_1).before A s = true) (hts : ∀ w ∈ lw_tbl, w.before A s = true) : stX s "PavementWalk$PassageText" "friends" 101 7 (sByt.getD 11 []) := st_of (own := "PavementWalk$PassageText") (k := 101) (tx := "friends") (n := 7) (bs := sByt.getD 11 []) (by decide) (nv143 h) (nv144 h) (nv145 h) (nv146 h) (fun j hj => match j, hj with | 0, _ => nv147 h | 1, _ => nv148 h | 2, _ => nv149 h | 3, _ => nv150 h | 4, _ => nv151 h | 5, _ => nv152 h | 6, _ => nv153 h | k + 7, hj => absurd hj (by omega)) (hts _ (tn_3_11 _ (List.mem_of_getElem? (i := 2) rfl)))
theorem sx12 (h : (Jvm.Cond.and given_1 narrow_1).before A s = true) (hts : ∀ w ∈ lw_tbl, w.before A s = true) : stX s "PavementWalk$LawText" "if" 48 2 (sByt.getD 12 []) := st_of (own := "PavementWalk$LawText") (k := 48) (tx := "if") (n := 2) (bs := sByt.getD 12 []) (by decide) (nv154 h) (nv155 h) (nv156 h) (nv157 h) (fun j hj => match j, hj with | 0, _ => nv158 h | 1, _ => nv159 h | k + 2, hj => absurd hj (by omega)) (hts _ (tn_3_13 _ (List.mem_of_getElem? (i := 12) rfl)))
theorem sx13 (h : (Jvm.Cond.and given_1 narrow_1).before A s = true) (hts : ∀ w ∈ lw_tbl, w.before A s = true) : stX s "PavementWalk$LawText" "not" 70 3 (sByt.getD 13 []) := st_of (own := "PavementWalk$LawText") (k := 70) (tx := "not") (n := 3) (bs := sByt.getD 13 []) (by decide) (nv160 h) (nv161 h) (nv162 h) (nv163 h) (fun j hj => match j, hj with | 0, _ => nv164 h | 1, _ => nv165 h | 2, _ => nv166 h | k + 3, hj => absurd hj (by omega)) (hts _ (tn_3_14 _ (List.mem_of_getElem? (i := 2) rfl)))
theorem sx14 (h : (Jvm.Cond.and given_1 narrow_1).before A s = true) (hts : ∀ w ∈ lw_tbl, w.before A s = true) : stX s "PavementWalk$LawText" "ahead" 102 5 (sByt.getD 14 []) := st_of (own := "PavementWalk$LawText") (k := 102) (tx := "ahead") (n := 5) (bs := sByt.getD 14 []) (by decide) (nv167 h) (nv168 h) (nv169 h) (nv170 h) (fun j hj => match j, hj with | 0, _ => nv171 h | 1, _ => nv172 h | 2, _ => nv173 h | 3, _ => nv174 h | 4, _ => nv175 h | k + 5, hj => absurd hj (by omega)) (hts _ (tn_3_14 _ (List.mem_of_getElem? (i := 10) rfl)))
theorem sx15 (h : (Jvm.Cond.and given_1 narrow_1).before A s = true) (hts : ∀ w ∈ lw_tbl, w.before A s = true) : stX s "PavementWalk$LawText" "soon" 104 4 (sByt.getD 15 []) := st_of (own := "PavementWalk$LawText") (k := 104) (tx := "soon") (n := 4) (bs := sByt.getD 15 []) (by decide) (nv176 h) (nv177 h) (nv178 h) (nv179 h) (fun j hj => match j, hj with | 0, _ => nv180 h | 1, _ => nv181 h | 2, _ => nv182 h | 3, _ => nv183 h | k + 4, hj => absurd hj (by omega)) (hts _ (tn_3_14 _ (List.mem_of_getElem? (i := 11) rfl)))
theorem sx16 (h : (Jvm.Cond.and given_1 narrow_1).before A s = true) (hts : ∀ w ∈ lw_tbl, w.before A s = true) : stX s "PavementWalk$LawText" "near" 106 4 (sByt.getD 16 []) := st_of (own := "PavementWalk$LawText") (k := 106) (tx := "near") (n := 4) (bs := sByt.getD 16 []) (by decide) (nv184 h) (nv185 h) (nv186 h) (nv187 h) (fun j hj => match j, hj with | 0, _ => nv188 h | 1, _ => nv189 h | 2, _ => nv190 h | 3, _ => nv191 h | k + 4, hj => absurd hj (by omega)) (hts _ (tn_3_14 _ (List.mem_of_getElem? (i := 12) rfl)))
theorem sx17 (h : (Jvm.Cond.and given_1 narrow_1).before A s = true) (hts : ∀ w ∈ lw_tbl, w.before A s = true) : stX s "PavementWalk$LawText" "right" 108 5 (sByt.getD 17 []) := st_of (own := "PavementWalk$LawText") (k := 108) (tx := "right") (n := 5) (bs := sByt.getD 17 []) (by decide) (nv192 h) (nv193 h) (nv194 h) (nv195 h) (fun j hj => match j, hj with | 0, _ => nv196 h | 1, _ => nv197 h | 2, _ => nv198 h | 3, _ => nv199 h | 4, _ => nv200 h | k + 5, hj => absurd hj (by omega)) (hts _ (tn_3_14 _ (List.mem_of_getElem? (i := 13) rfl)))
theorem sx18 (h : (Jvm.Cond.and given_1 narrow_1).before A s = true) (hts : ∀ w ∈ lw_tbl, w.before A s = true) : stX s "PavementWalk$LawText" "left" 110 4 (sByt.getD 18 []) := st_of (own := "PavementWalk$LawText") (k := 110) (tx := "left") (n := 4) (bs := sByt.getD 18 []) (by decide) (nv202 h) (nv203 h) (nv204 h) (nv205 h) (fun j hj => match j, hj with | 0, _ => nv206 h | 1, _ => nv207 h | 2, _ => nv208 h | 3, _ => nv209 h | k + 4, hj => absurd hj (by omega)) (hts _ (tn_3_14 _ (List.mem_of_getElem? (i := 14) rfl)))
theorem sx19 (h : (Jvm.Cond.and given_1 narrow_1).before A s = true) (hts : ∀ w ∈ lw_tbl, w.before A s = true) : stX s "PavementWalk$LawText" "waited" 112 6 (sByt.getD 19 []) := st_of (own := "PavementWalk$LawText") (k := 112) (tx := "waited") (n := 6) (bs := sByt.getD 19 []) (by decide) (nv211 h) (nv212 h) (nv213 h) (nv214 h) (fun j hj => match j, hj with | 0, _ => nv215 h | 1, _ => nv216 h | 2, _ => nv217 h | 3, _ => nv218 h | 4, _ => nv219 h | 5, _ => nv220 h | k + 6, hj => absurd hj (by omega)) (hts _ (tn_3_14 _ (List.mem_of_getElem? (i := 15) rfl)))
theorem sx20 (h : (Jvm.Cond.and given_1 narrow_1).before A s = true) (hts : ∀ w ∈ lw_tbl, w.before A s = true) : stX s "PavementWalk$LawText" "haste" 114 5 (sByt.getD 20 []) := st_of (own := "PavementWalk$LawText") (k := 114) (tx := "haste") (n := 5) (bs := sByt.getD 20 []) (by decide) (nv221 h) (nv222 h) (nv223 h) (nv224 h) (fun j hj => match j, hj with | 0, _ => nv225 h | 1, _ => nv226 h | 2, _ => nv227 h | 3, _ => nv228 h | 4, _ => nv229 h | k + 5, hj => absurd hj (by omega)) (hts _ (tn_4_0 _ (List.mem_of_getElem? (i := 0) rfl)))
theorem sx21 (h : (Jvm.Cond.and given_1 narrow_1).before A s = true) (hts : ∀ w ∈ lw_tbl, w.before A s = true) : stX s "PavementWalk$LawText" "crowd" 116 5 (sByt.getD 21 []) := st_of (own := "PavementWalk$LawText") (k := 116) (tx := "crowd") (n := 5) (bs := sByt.getD 21 []) (by decide) (nv231 h) (nv232 h) (nv233 h) (nv234 h) (fun j hj => match j, hj with | 0, _ => nv235 h | 1, _ => nv236 h | 2, _ => nv237 h | 3, _ => nv238 h | 4, _ => nv239 h | k + 5, hj => absurd hj (by omega)) (hts _ (tn_4_0 _ (List.mem_of_getElem? (i := 1) rfl)))
theorem sx22 (h : (Jvm.Cond.and given_1 narrow_1).before A s = true) (hts : ∀ w ∈ lw_tbl, w.before A s = true) : stX s "PavementWalk$LawText" "blocked" 118 7 (sByt.getD 22 []) := st_of (own := "PavementWalk$LawText") (k := 118) (tx := "blocked") (n := 7) (bs := sByt.getD 22 []) (by decide) (nv240 h) (nv241 h) (nv242 h) (nv243 h) (fun j hj => match j, hj with | 0, _ => nv244 h | 1, _ => nv245 h | 2, _ => nv246 h | 3, _ => nv247 h | 4, _ => nv248 h | 5, _ => nv249 h | 6, _ => nv250 h | k + 7, hj => absurd hj (by omega)) (hts _ (tn_4_0 _ (List.mem_of_getElem? (i := 2) rfl)))
theorem sx23 (h : (Jvm.Cond.and given_1 narrow_1).before A s = true) (hts : ∀ w ∈ lw_tbl, w.before A s = true) : stX s "PavementWalk$LawText" "facing" 120 6 (sByt.getD 23 []) := st_of (own := "PavementWalk$LawText") (k := 120) (tx := "facing") (n := 6) (bs := sByt.getD 23 []) (by decide) (nv251 h) (nv252 h) (nv253 h) (nv254 h) (fun j hj => match j, hj with | 0, _ => nv255 h | 1, _ => nv256 h | 2, _ => nv257 h | 3, _ => nv258 h | 4, _ => nv259 h | 5, _ => nv260 h | k + 6, hj => absurd hj (by omega)) (hts _ (tn_4_0 _ (List.mem_of_getElem? (i := 3) rfl)))
theorem sx24 (h : (Jvm.Cond.and given_1 narrow_1).before A s = true) (hts : ∀ w ∈ lw_tbl, w.before A s = true) : stX s "PavementWalk$LawText" "parted" 122 6 (sByt.getD 24 []) := st_of (own := "PavementWalk$LawText") (k := 122) (tx := "parted") (n := 6) (bs := sByt.getD 24 []) (by decide) (nv261 h) (nv262 h) (nv263 h) (nv264 h) (fun j hj => match j, hj with | 0, _ => nv265 h | 1, _ => nv266 h | 2, _ => nv267 h | 3, _ => nv268 h | 4, _ => nv269 h | 5, _ => nv270 h | k + 6, hj => absurd hj (by omega)) (hts _ (tn_4_0 _ (List.mem_of_getElem? (i := 4) rfl)))
theorem sx25 (h : (Jvm.Cond.and given_1 narrow_1).before A s = true) (hts : ∀ w ∈ lw_tbl, w.before A s = true) : stX s "PavementWalk$LawText" "and" 57 3 (sByt.getD 25 []) := st_of (own := "PavementWalk$LawText") (k := 57) (tx := "and") (n := 3) (bs := sByt.getD 25 []) (by decide) (nv271 h) (nv272 h) (nv273 h) (nv274 h) (fun j hj => match j, hj with | 0, _ => nv275 h | 1, _ => nv276 h | 2, _ => nv277 h | k + 3, hj => absurd hj (by omega)) (hts _ (tn_4_1 _ (List.mem_of_getElem? (i := 3) rfl)))
theorem sx26 (h : (Jvm.Cond.and given_1 narrow_1).before A s = true) (hts : ∀ w ∈ lw_tbl, w.before A s = true) : stX s "PavementWalk$LawText" "go" 124 2 (sByt.getD 26 []) := st_of (own := "PavementWalk$LawText") (k := 124) (tx := "go") (n := 2) (bs := sByt.getD 26 []) (by decide) (nv278 h) (nv279 h) (nv280 h) (nv281 h) (fun j hj => match j, hj with | 0, _ => nv282 h | 1, _ => nv283 h | k + 2, hj => absurd hj (by omega)) (hts _ (tn_4_1 _ (List.mem_of_getElem? (i := 11) rfl)))
theorem sx27 (h : (Jvm.Cond.and given_1 narrow_1).before A s = true) (hts : ∀ w ∈ lw_tbl, w.before A s = true) : stX s "PavementWalk$LawText" "hand" 126 4 (sByt.getD 27 []) := st_of (own := "PavementWalk$LawText") (k := 126) (tx := "hand") (n := 4) (bs := sByt.getD 27 []) (by decide) (nv284 h) (nv285 h) (nv286 h) (nv287 h) (fun j hj => match j, hj with | 0, _ => nv288 h | 1, _ => nv289 h | 2, _ => nv290 h | 3, _ => nv291 h | k + 4, hj => absurd hj (by omega)) (hts _ (tn_4_1 _ (List.mem_of_getElem? (i := 12) rfl)))
theorem sx28 (h : (Jvm.Cond.and given_1 narrow_1).before A s = true) (hts : ∀ w ∈ lw_tbl, w.before A s = true) : stX s "PavementWalk$LawText" "lot" 128 3 (sByt.getD 28 []) := st_of (own := "PavementWalk$LawText") (k := 128) (tx := "lot") (n := 3) (bs := sByt.getD 28 []) (by decide) (nv293 h) (nv294 h) (nv295 h) (nv296 h) (fun j hj => match j, hj with | 0, _ => nv297 h | 1, _ => nv298 h | 2, _ => nv299 h | k + 3, hj => absurd hj (by omega)) (hts _ (tn_4_1 _ (List.mem_of_getElem? (i := 13) rfl)))
theorem sx29 (h : (Jvm.Cond.and given_1 narrow_1).before A s = true) (hts : ∀ w ∈ lw_tbl, w.before A s = true) : stX s "PavementWalk$LawText" "wait" 130 4 (sByt.getD 29 []) := st_of (own := "PavementWalk$LawText") (k := 130) (tx := "wait") (n := 4) (bs := sByt.getD 29 []) (by decide) (nv300 h) (nv301 h) (nv302 h) (nv303 h) (fun j hj => match j, hj with | 0, _ => nv304 h | 1, _ => nv305 h | 2, _ => nv306 h | 3, _ => nv307 h | k + 4, hj => absurd hj (by omega)) (hts _ (tn_4_1 _ (List.mem_of_getElem? (i := 14) rfl)))
end NV
theorem strs {A : Array Value} {s : State} (h : (Jvm.Cond.and given_1 narrow_1).before A s = true) (hts : ∀ w ∈ lw_tbl, w.before A s = true) : ∃ adK adV : Nat → Nat, VS 30 sLen sByt adK adV (fun x => s.heap.size ≤ x) s s.heap ∧ ∀ (i : Nat) (q : String × Nat × String), sRef[i]? = some q → vk_R q.1 q.2.1 q.2.2 (adK i) s := by
  have h0 : ∀ i : Nat, ∃ q : Nat × Nat, i < 30 → (va_O "java/lang/String" q.1 (fun x => s.heap.size ≤ x) s s.heap ∧ va_OF "java/lang/String" "coder" "B" (.int 0) q.1 (fun x => s.heap.size ≤ x) s s.heap ∧ va_OF "java/lang/String" "value" "[B" (.ref q.2) q.1 (fun x => s.heap.size ≤ x) s s.heap ∧ va_T .byte q.2 (sLen.getD i 0) (fun j => .int ((sByt.getD i []).getD j 0)) (fun x => s.heap.size ≤ x) s s.heap) ∧ ∀ q2 : String × Nat × String, sRef[i]? = some q2 → vk_R q2.1 q2.2.1 q2.2.2 q.1 s := by
    intro i
    match i with
    | 0 => exact Exists.elim (sx0 h hts) (fun q hq => ⟨q, fun _ => ⟨hq.1, fun q2 e => by cases e; exact hq.2⟩⟩)
    | 1 => exact Exists.elim (sx1 h hts) (fun q hq => ⟨q, fun _ => ⟨hq.1, fun q2 e => by cases e; exact hq.2⟩⟩)
    | 2 => exact Exists.elim (sx2 h hts) (fun q hq => ⟨q, fun _ => ⟨hq.1, fun q2 e => by cases e; exact hq.2⟩⟩)
    | 3 => exact Exists.elim (sx3 h hts) (fun q hq => ⟨q, fun _ => ⟨hq.1, fun q2 e => by cases e; exact hq.2⟩⟩)
    | 4 => exact Exists.elim (sx4 h hts) (fun q hq => ⟨q, fun _ => ⟨hq.1, fun q2 e => by cases e; exact hq.2⟩⟩)
    | 5 => exact Exists.elim (sx5 h hts) (fun q hq => ⟨q, fun _ => ⟨hq.1, fun q2 e => by cases e; exact hq.2⟩⟩)
    | 6 => exact Exists.elim (sx6 h hts) (fun q hq => ⟨q, fun _ => ⟨hq.1, fun q2 e => by cases e; exact hq.2⟩⟩)
    | 7 => exact Exists.elim (sx7 h hts) (fun q hq => ⟨q, fun _ => ⟨hq.1, fun q2 e => by cases e; exact hq.2⟩⟩)
    | 8 => exact Exists.elim (sx8 h hts) (fun q hq => ⟨q, fun _ => ⟨hq.1, fun q2 e => by cases e; exact hq.2⟩⟩)
    | 9 => exact Exists.elim (sx9 h hts) (fun q hq => ⟨q, fun _ => ⟨hq.1, fun q2 e => by cases e; exact hq.2⟩⟩)
    | 10 => exact Exists.elim (sx10 h hts) (fun q hq => ⟨q, fun _ => ⟨hq.1, fun q2 e => by cases e; exact hq.2⟩⟩)
    | 11 => exact Exists.elim (sx11 h hts) (fun q hq => ⟨q, fun _ => ⟨hq.1, fun q2 e => by cases e; exact hq.2⟩⟩)
    | 12 => exact Exists.elim (sx12 h hts) (fun q hq => ⟨q, fun _ => ⟨hq.1, fun q2 e => by cases e; exact hq.2⟩⟩)
    | 13 => exact Exists.elim (sx13 h hts) (fun q hq => ⟨q, fun _ => ⟨hq.1, fun q2 e => by cases e; exact hq.2⟩⟩)
    | 14 => exact Exists.elim (sx14 h hts) (fun q hq => ⟨q, fun _ => ⟨hq.1, fun q2 e => by cases e; exact hq.2⟩⟩)
    | 15 => exact Exists.elim (sx15 h hts) (fun q hq => ⟨q, fun _ => ⟨hq.1, fun q2 e => by cases e; exact hq.2⟩⟩)
    | 16 => exact Exists.elim (sx16 h hts) (fun q hq => ⟨q, fun _ => ⟨hq.1, fun q2 e => by cases e; exact hq.2⟩⟩)
    | 17 => exact Exists.elim (sx17 h hts) (fun q hq => ⟨q, fun _ => ⟨hq.1, fun q2 e => by cases e; exact hq.2⟩⟩)
    | 18 => exact Exists.elim (sx18 h hts) (fun q hq => ⟨q, fun _ => ⟨hq.1, fun q2 e => by cases e; exact hq.2⟩⟩)
    | 19 => exact Exists.elim (sx19 h hts) (fun q hq => ⟨q, fun _ => ⟨hq.1, fun q2 e => by cases e; exact hq.2⟩⟩)
    | 20 => exact Exists.elim (sx20 h hts) (fun q hq => ⟨q, fun _ => ⟨hq.1, fun q2 e => by cases e; exact hq.2⟩⟩)
    | 21 => exact Exists.elim (sx21 h hts) (fun q hq => ⟨q, fun _ => ⟨hq.1, fun q2 e => by cases e; exact hq.2⟩⟩)
    | 22 => exact Exists.elim (sx22 h hts) (fun q hq => ⟨q, fun _ => ⟨hq.1, fun q2 e => by cases e; exact hq.2⟩⟩)
    | 23 => exact Exists.elim (sx23 h hts) (fun q hq => ⟨q, fun _ => ⟨hq.1, fun q2 e => by cases e; exact hq.2⟩⟩)
    | 24 => exact Exists.elim (sx24 h hts) (fun q hq => ⟨q, fun _ => ⟨hq.1, fun q2 e => by cases e; exact hq.2⟩⟩)
    | 25 => exact Exists.elim (sx25 h hts) (fun q hq => ⟨q, fun _ => ⟨hq.1, fun q2 e => by cases e; exact hq.2⟩⟩)
    | 26 => exact Exists.elim (sx26 h hts) (fun q hq => ⟨q, fun _ => ⟨hq.1, fun q2 e => by cases e; exact hq.2⟩⟩)
    | 27 => exact Exists.elim (sx27 h hts) (fun q hq => ⟨q, fun _ => ⟨hq.1, fun q2 e => by cases e; exact hq.2⟩⟩)
    | 28 => exact Exists.elim (sx28 h hts) (fun q hq => ⟨q, fun _ => ⟨hq.1, fun q2 e => by cases e; exact hq.2⟩⟩)
    | 29 => exact Exists.elim (sx29 h hts) (fun q hq => ⟨q, fun _ => ⟨hq.1, fun q2 e => by cases e; exact hq.2⟩⟩)
    | k + 30 => exact ⟨(0, 0), fun z => absurd z (by omega)⟩
  obtain ⟨ad, had⟩ := Classical.axiomOfChoice h0
  refine ⟨fun i => (ad i).1, fun i => (ad i).2, fun i hi => (had i hi).1, fun i q hq => (had i ?_).2 q hq⟩
  have := (List.getElem?_eq_some_iff.mp hq).1
  have e : sRef.length = 30 := rfl
  omega
theorem fx_start {A : Array Value} {s : State} {G : GG} (h : (Jvm.Cond.and given_1 narrow_1).before A s = true) (hts : ∀ w ∈ lw_tbl, w.before A s = true) (h1 : VS 30 sLen sByt G.2.2.1 G.2.2.2 (fun x => s.heap.size ≤ x) s s.heap) (h2 : ∀ (i : Nat) (q : String × Nat × String), sRef[i]? = some q → vk_R q.1 q.2.1 q.2.2 (G.2.2.1 i) s) : FX G (fun x => s.heap.size ≤ x) s s.heap := by
  have hA : ∀ a : Nat, a < s.heap.size → ¬ (fun x : Nat => s.heap.size ≤ x) a := fun a h1 h2 => absurd h1 (Nat.not_lt.mpr h2)
  exact ⟨h1, va_Zof (hts _ (tn_3_2 _ (List.mem_of_getElem? (i := 9) rfl))) (hts _ (tn_1_0 _ (List.mem_of_getElem? (i := 13) rfl))) (va_eqt (nv2 h)) hA, h2, List.forall_mem_cons.mpr ⟨va_Nw.of rfl (hts _ (tn_1_2 _ (List.mem_of_getElem? (i := 7) rfl))), List.forall_mem_cons.mpr ⟨va_Nw.of rfl (hts _ (tn_1_7 _ (List.mem_of_getElem? (i := 8) rfl))), List.forall_mem_cons.mpr ⟨va_Nw.of rfl (hts _ (tn_1_14 _ (List.mem_of_getElem? (i := 12) rfl))), List.forall_mem_cons.mpr ⟨va_Nw.of rfl (hts _ (tn_2_6 _ (List.mem_of_getElem? (i := 12) rfl))), List.forall_mem_cons.mpr ⟨va_Nw.of rfl (hts _ (tn_2_6 _ (List.mem_of_getElem? (i := 14) rfl))), fun _ h => absurd h List.not_mem_nil⟩⟩⟩⟩⟩, List.forall_mem_cons.mpr ⟨va_AO.of (hts _ (tn_2_7 _ (List.mem_of_getElem? (i := 8) rfl))), List.forall_mem_cons.mpr ⟨va_AO.of (hts _ (tn_2_4 _ (List.mem_of_getElem? (i := 7) rfl))), List.forall_mem_cons.mpr ⟨va_AO.of (hts _ (tn_1_2 _ (List.mem_of_getElem? (i := 3) rfl))), List.forall_mem_cons.mpr ⟨va_AO.of (hts _ (tn_1_2 _ (List.mem_of_getElem? (i := 5) rfl))), fun _ h => absurd h List.not_mem_nil⟩⟩⟩⟩, va_Zqof (hts _ (tn_3_3 _ (List.mem_of_getElem? (i := 9) rfl))) (hts _ (tn_1_0 _ (List.mem_of_getElem? (i := 15) rfl))) (nv3 h) hA⟩
theorem mw_lw : ∀ w ∈ mw, w ∈ lw_tbl := fun w h => (List.mem_filter.mp h).1
theorem cls_start {A : Array Value} {s : State} (hts : ∀ w ∈ lw_tbl, w.before A s = true) : ∃ D : va_G, ∀ (k : Nat) (q : vw_C), vwCl[k]? = some q → u_Kn s q.1 q.2.1 q.2.2 (D.1 k) (D.2 k) := by
  have h0 : ∀ k : Nat, ∃ d : ClassId × (Nat → Nat), ∀ q : vw_C, vwCl[k]? = some q → u_Kn s q.1 q.2.1 q.2.2 d.1 d.2 := by
    intro k
    match k with
    | 0 => exact (u_known (C := RX0) (T := TX0) (N := 9) (n := 9) hts (fun w hw => mw_lw w (inm0 w hw)) (hts _ (tn_2_7 _ (List.mem_of_getElem? (i := 2) rfl)))).elim (fun a ha => ha.elim (fun b hb => ⟨(a, b), fun q e => by cases e; exact hb⟩))
    | 1 => exact (u_known (C := RX1) (T := TX1) (N := 5) (n := 5) hts (fun w hw => mw_lw w (inm1 w hw)) (hts _ (tn_1_14 _ (List.mem_of_getElem? (i := 11) rfl)))).elim (fun a ha => ha.elim (fun b hb => ⟨(a, b), fun q e => by cases e; exact hb⟩))
    | 2 => exact (u_known (C := RX2) (T := TX2) (N := 7) (n := 7) hts (fun w hw => mw_lw w (inm2 w hw)) (hts _ (tn_1_7 _ (List.mem_of_getElem? (i := 7) rfl)))).elim (fun a ha => ha.elim (fun b hb => ⟨(a, b), fun q e => by cases e; exact hb⟩))
    | 3 => exact (u_known (C := RX3) (T := TX3) (N := 2) (n := 2) hts (fun w hw => mw_lw w (inm3 w hw)) (hts _ (tn_2_10 _ (List.mem_of_getElem? (i := 5) rfl)))).elim (fun a ha => ha.elim (fun b hb => ⟨(a, b), fun q e => by cases e; exact hb⟩))
    | 4 => exact (u_known (C := RX4) (T := TX4) (N := 13) (n := 13) hts (fun w hw => mw_lw w (inm4 w hw)) (hts _ (tn_1_2 _ (List.mem_of_getElem? (i := 6) rfl)))).elim (fun a ha => ha.elim (fun b hb => ⟨(a, b), fun q e => by cases e; exact hb⟩))
    | 5 => exact (u_known (C := RX5) (T := TX5) (N := 2) (n := 2) hts (fun w hw => mw_lw w (inm5 w hw)) (hts _ (tn_2_9 _ (List.mem_of_getElem? (i := 8) rfl)))).elim (fun a ha => ha.elim (fun b hb => ⟨(a, b), fun q e => by cases e; exact hb⟩))
    | 6 => exact (u_known (C := RX6) (T := TX6) (N := 8) (n := 8) hts (fun w hw => mw_lw w (inm6 w hw)) (hts _ (tn_2_4 _ (List.mem_of_getElem? (i := 9) rfl)))).elim (fun a ha => ha.elim (fun b hb => ⟨(a, b), fun q e => by cases e; exact hb⟩))
    | 7 => exact (u_known (C := RX7) (T := TX7) (N := 13) (n := 13) hts (fun w hw => mw_lw w (inm7 w hw)) (hts _ (tn_1_1 _ (List.mem_of_getElem? (i := 13) rfl)))).elim (fun a ha => ha.elim (fun b hb => ⟨(a, b), fun q e => by cases e; exact hb⟩))
    | 8 => exact (u_known (C := RX8) (T := TX8) (N := 20) (n := 20) hts (fun w hw => mw_lw w (inm8 w hw)) (hts _ (tn_1_9 _ (List.mem_of_getElem? (i := 5) rfl)))).elim (fun a ha => ha.elim (fun b hb => ⟨(a, b), fun q e => by cases e; exact hb⟩))
    | 9 => exact (u_known (C := RX9) (T := TX9) (N := 10) (n := 10) hts (fun w hw => mw_lw w (inm9 w hw)) (hts _ (tn_1_1 _ (List.mem_of_getElem? (i := 5) rfl)))).elim (fun a ha => ha.elim (fun b hb => ⟨(a, b), fun q e => by cases e; exact hb⟩))
    | 10 => exact (u_known (C := RX10) (T := TX10) (N := 61) (n := 61) hts (fun w hw => mw_lw w (inm10 w hw)) (hts _ (tn_5_12 _ (List.mem_of_getElem? (i := 14) rfl)))).elim (fun a ha => ha.elim (fun b hb => ⟨(a, b), fun q e => by cases e; exact hb⟩))
    | k + 11 => exact ⟨(0, fun _ => 0), fun q e => by simp [vwCl] at e⟩
  obtain ⟨d, hd⟩ := Classical.axiomOfChoice h0
  exact ⟨(fun k => (d k).1, fun k => (d k).2), hd⟩
theorem arr_prim {A : Array Value} {s : State} {ty : FieldType} (hn : ∀ C, ty ≠ .object C) (h : (Cond.arrayClass ty).before A s = true) : ∃ cA : ClassId, ArrOfT s cA ty ∧ va_RA s cA ty := by
  obtain ⟨c, k, comp, h1, h2, h3⟩ := Cond.arrayClass_spec (first := s) (o := none) (idx := []) h
  refine ⟨c, fun n z => ⟨fun _ e => (by cases e), k, h2, comp, h3⟩, ?_⟩
  cases ty <;> first | exact h1 | exact absurd rfl (hn _)
theorem arr_obj {A : Array Value} {s : State} {C : String} (h : (Cond.arrayOver (.object C)).before A s = true) : ∃ cA : ClassId, ArrOfT s cA (.object C) ∧ va_RA s cA (.object C) := by
  obtain ⟨comp, c, k, h1, -, h3, h4, h5⟩ := Cond.arrayOver_spec (first := s) (o := none) (idx := []) h
  exact ⟨c, fun n z => ⟨fun _ e => (by cases e), k, h3, comp, h4⟩, k, comp, h3, h4, h1, h5⟩
theorem arr_start {A : Array Value} {s : State} (hts : ∀ w ∈ lw_tbl, w.before A s = true) : ∃ cA : Nat → ClassId, ∀ (k : Nat) (q : ClassId × FieldType), (tyT.zipIdx.map (fun q => (cA (q.2 + 1), q.1)))[k]? = some q → ArrOfT s q.1 q.2 ∧ va_RA s q.1 q.2 := by
  have h0 : ∀ t : Nat, ∃ c : ClassId, ∀ ty, tyT[t - 1]? = some ty → 0 < t → ArrOfT s c ty ∧ va_RA s c ty := by
    intro t
    match t with
    | 0 => exact ⟨0, fun _ _ z => absurd z (by omega)⟩
    | 1 => exact (arr_prim (ty := .int) (fun _ e => by cases e) (hts _ (tn_1_7 _ (List.mem_of_getElem? (i := 6) rfl)))).elim (fun c hc => ⟨c, fun ty e _ => by cases e; exact hc⟩)
    | 2 => exact (arr_prim (ty := .byte) (fun _ e => by cases e) (hts _ (tn_1_7 _ (List.mem_of_getElem? (i := 4) rfl)))).elim (fun c hc => ⟨c, fun ty e _ => by cases e; exact hc⟩)
    | 3 => exact (arr_prim (ty := .boolean) (fun _ e => by cases e) (hts _ (tn_1_7 _ (List.mem_of_getElem? (i := 5) rfl)))).elim (fun c hc => ⟨c, fun ty e _ => by cases e; exact hc⟩)
    | 4 => exact (arr_prim (ty := .long) (fun _ e => by cases e) (hts _ (tn_2_9 _ (List.mem_of_getElem? (i := 6) rfl)))).elim (fun c hc => ⟨c, fun ty e _ => by cases e; exact hc⟩)
    | 5 => exact (arr_obj (C := RX8) (hts _ (tn_2_7 _ (List.mem_of_getElem? (i := 8) rfl)))).elim (fun c hc => ⟨c, fun ty e _ => by cases e; exact hc⟩)
    | 6 => exact (arr_obj (C := RX7) (hts _ (tn_2_4 _ (List.mem_of_getElem? (i := 7) rfl)))).elim (fun c hc => ⟨c, fun ty e _ => by cases e; exact hc⟩)
    | 7 => exact (arr_obj (C := RX4) (hts _ (tn_1_2 _ (List.mem_of_getElem? (i := 3) rfl)))).elim (fun c hc => ⟨c, fun ty e _ => by cases e; exact hc⟩)
    | 8 => exact (arr_obj (C := RX2) (hts _ (tn_1_2 _ (List.mem_of_getElem? (i := 5) rfl)))).elim (fun c hc => ⟨c, fun ty e _ => by cases e; exact hc⟩)
    | k + 9 => exact ⟨0, fun ty e _ => by simp [tyT] at e⟩
  obtain ⟨cA, hcA⟩ := Classical.axiomOfChoice h0
  refine ⟨cA, fun k q hq => ?_⟩
  rw [List.getElem?_map, List.getElem?_zipIdx] at hq
  cases hk : tyT[k]? with
  | none => rw [hk] at hq; simp at hq
  | some ty =>
    rw [hk] at hq
    simp at hq
    subst hq
    simpa using hcA (k + 1) ty hk (by omega)
def S00 : ST := (0, fun _ => (99, 0), fun _ _ => 0)
def dy00 : DY := (fun _ _ => 0, fun _ _ => 0)
set_option maxRecDepth 100000 in
noncomputable def F_lawinit : Option (ST × DY) := bdZ (alS S00 (0, 9)) (alD S00 dy00) fun Sk3 dyk3 => if gs Sk3 (S00.1 + 1) = (0, 9) then (F_X9_init (S00.1 + 1) Sk3 dyk3).bind fun z5 => if gs z5.1 (S00.1 + 1) = (0, 9) then bdZ (alS z5.1 (0, 10)) (alD z5.1 z5.2) fun Sk15 dyk15 => if gs Sk15 (z5.1.1 + 1) = (0, 10) then if gs Sk15 (S00.1 + 1) = (0, 9) then (F_X10_init (z5.1.1 + 1) Sk15 dyk15).bind fun z18 => if gs z18.1 (S00.1 + 1) = (0, 9) then if gs z18.1 (z5.1.1 + 1) = (0, 10) then if (z5.1.1 + 1) = 510 then some (z18.1, z18.2) else none else none else none else none else none else none else none
theorem q127 : Cond.classLink RL 7 RX9 ∈ mw := mw_c tn_1_1 4 rfl rfl
theorem q128 : Cond.instantiable RX9 10 ∈ mw := mw_c tn_1_1 5 rfl rfl
theorem q129 : Cond.methodLink RL 9 yX9_init ∈ mw := mw_c tn_1_1 6 rfl rfl
theorem q130 : Cond.instanceMethod yX9_init ∈ mw := mw_c tn_1_1 7 rfl rfl
theorem q131 : Cond.code yX9_init cX9_init 2 (Option.none : Option Jvm.ClassFile.FieldType) ∈ mw := mw_c tn_1_1 8 rfl rfl
theorem q1272 : Cond.classLink RL 10 RX10 ∈ mw := mw_c tn_5_12 13 rfl rfl
theorem q1273 : Cond.instantiable RX10 61 ∈ mw := mw_c tn_5_12 14 rfl rfl
theorem q1274 : Cond.methodLink RL 12 yX10_init ∈ mw := mw_c tn_5_12 15 rfl rfl
theorem q1275 : Cond.instanceMethod yX10_init ∈ mw := mw_c tn_5_13 0 rfl rfl
theorem q1276 : Cond.code yX10_init cX10_init 1 (Option.none : Option Jvm.ClassFile.FieldType) ∈ mw := mw_c tn_5_13 1 rfl rfl
set_option maxHeartbeats 4000000 in
set_option maxRecDepth 100000 in
theorem whole_of {p : Program} {e : Env} {s : State} {m : MethodId} {below : List Frame} {meth : Method} {c : Code} (l : Launch) {b L N : Nat} {xs : Nat → Int32} (C0 : lw_At p s m meth c b L xs) {S' : ST} {dy' dyE : DY} (E : F_lawinit = some (S', dy')) (hG : Good S') (EL : F_law_18 S' N L xs N 1 510 0 dy' = some dyE) : W p l e room_1 s m #[Value.ref b] below meth c s.heap [] 0 0 (lw_Z below #[Value.ref b] s) (entryFrame m ([Value.ref b] : List Value).toArray 4) := by
  obtain ⟨hx, hb, HR, hml, hown, hts, hX, hbl, HL, hgv⟩ := C0
  obtain ⟨adK, adV, hv1, hv2⟩ := strs hgv hts
  obtain ⟨D, hD0⟩ := cls_start hts
  obtain ⟨cA, hcA⟩ := arr_start hts
  obtain ⟨G, hGe⟩ : ∃ G : GG, G = (cA, D, adK, adV) := ⟨_, rfl⟩
  have hA : ∀ q : Nat, s.heap.size ≤ q → (fun q : Nat => s.heap.size ≤ q) q := fun _ h => h
  have hAe : ∀ q : Nat, (fun q : Nat => s.heap.size ≤ q) q → s.heap.size ≤ q := fun _ h => h
  have hbA : ¬ (fun q : Nat => s.heap.size ≤ q) b := Nat.not_le.mpr hbl
  have hF : FX G (fun q : Nat => s.heap.size ≤ q) s s.heap := by subst hGe; exact fx_start hgv hts hv1 hv2
  have hK : va_K G.2.1 vwCl (TY G) s := by subst hGe; exact ⟨hD0, hcA⟩
  have C : CX p s m #[Value.ref b] c code 4 RL G (fun q : Nat => s.heap.size ≤ q) := ⟨hx, hb, hml, hown, fun w hw => hts w (mw_lw w hw), hK, hA, hF⟩
  have hc0 : clo S00 := fun _ _ => Nat.le_refl _
  have m0 : S00.1 ≤ S00.1 := Nat.le_refl _
  obtain ⟨ad, -⟩ : ∃ ad : Nat → Nat, ad = fun _ => 0 := ⟨_, rfl⟩
  have ag0 : ∀ x, x ≤ S00.1 → ad x = ad x := fun _ _ => rfl
  have hl := lv_entry ([.ref b]) (n := 4) (Nat.le_of_ble_eq_true rfl)
  rw [lg_entry_eq]
  have key : WJ p l e room_1 s m #[Value.ref b] below meth c 4 G (fun q : Nat => s.heap.size ≤ q) 0 0 (lw_Z below #[Value.ref b] s) ad 0 [(0, .ref b)] [] S00 dy00 := by
    unfold F_lawinit at E
    refine ww_new (ci := 9) C dL_law_0 hc0 rfl rfl inm9 tyX9_ok (by decide) q127 q128 q108 (Nat.le_of_ble_eq_true rfl) (Nat.le_of_ble_eq_true rfl) (fun ad2 gg1 => ?_)
    refine ww_bdZ E (fun Sk3 dyk3 ek3 E => ?_)
    have mk3 : S00.1 ≤ Sk3.1 := by rw [ek3]; exact Nat.le_succ_of_le m0
    have ck3 : clo Sk3 := by rw [ek3]; exact clo_al hc0
    have gk3 : ∀ x, x ≤ S00.1 → ad2 x = ad x := fun x hx => (gg1 x (Nat.le_trans hx m0)).trans (ag0 x hx)
    refine ww_dup C dL_law_3 rfl ?_
    obtain ⟨T_4, E⟩ := gd_of E
    obtain ⟨z5, e_6, E⟩ := bind_of E
    refine ww_callN (n := 0) (st := [.ref (ad2 (S00.1 + 1))]) C [] (M_X9_init l G ad2 ck3 (S00.1 + 1) dyk3 e_6) ⟨q131, q108, by decide⟩ q129 q130 rfl rfl (Nat.le_of_ble_eq_true rfl) ⟨(Nat.le_of_ble_eq_true rfl), (Nat.le_of_ble_eq_true rfl)⟩ ⟨(Nat.le_of_ble_eq_true rfl), (Nat.le_of_ble_eq_true rfl)⟩ dL_law_4 rfl (fun ad8 gg7 ck9 mk10 => ?_)
    rw [← gg7 (S00.1 + 1) (gs_lt T_4 (by decide)).2]
    have mk11 : S00.1 ≤ z5.1.1 := Nat.le_trans mk3 mk10
    have gk11 : ∀ x, x ≤ S00.1 → ad8 x = ad x := fun x hx => (gg7 x (Nat.le_trans hx mk3)).trans (gk3 x hx)
    refine ww_astore_n (lv' := [(1, .ref (ad8 (S00.1 + 1))), (0, .ref b)]) C dL_law_7 rfl (by decide) rfl ?_
    obtain ⟨T_12, E⟩ := gd_of E
    refine ww_new (ci := 10) C dL_law_8 ck9 rfl rfl inm10 tyX10_ok (by decide) q1272 q1273 q118 (Nat.le_of_ble_eq_true rfl) (Nat.le_of_ble_eq_true rfl) (fun ad14 gg13 => ?_)
    rw [← gg13 (S00.1 + 1) (gs_lt T_12 (by decide)).2]
    refine ww_bdZ E (fun Sk15 dyk15 ek15 E => ?_)
    have mk15 : S00.1 ≤ Sk15.1 := by rw [ek15]; exact Nat.le_succ_of_le mk11
    have ck15 : clo Sk15 := by rw [ek15]; exact clo_al ck9
    have gk15 : ∀ x, x ≤ S00.1 → ad14 x = ad x := fun x hx => (gg13 x (Nat.le_trans hx mk11)).trans (gk11 x hx)
    refine ww_dup C dL_law_11 rfl ?_
    obtain ⟨T_16, E⟩ := gd_of E
    obtain ⟨T_17, E⟩ := gd_of E
    obtain ⟨z18, e_19, E⟩ := bind_of E
    refine ww_callN (n := 0) (st := [.ref (ad14 (z5.1.1 + 1))]) C [] (M_X10_init l G ad14 ck15 (z5.1.1 + 1) dyk15 e_19) ⟨q1276, q118, by decide⟩ q1274 q1275 rfl rfl (Nat.le_of_ble_eq_true rfl) ⟨(Nat.le_of_ble_eq_true rfl), (Nat.le_of_ble_eq_true rfl)⟩ ⟨(Nat.le_of_ble_eq_true rfl), (Nat.le_of_ble_eq_true rfl)⟩ dL_law_12 rfl (fun ad21 gg20 ck22 mk23 => ?_)
    rw [← gg20 (S00.1 + 1) (gs_lt T_17 (by decide)).2]
    rw [← gg20 (z5.1.1 + 1) (gs_lt T_16 (by decide)).2]
    have mk24 : S00.1 ≤ z18.1.1 := Nat.le_trans mk15 mk23
    have gk24 : ∀ x, x ≤ S00.1 → ad21 x = ad x := fun x hx => (gg20 x (Nat.le_trans hx mk15)).trans (gk15 x hx)
    refine ww_astore_n (lv' := [(2, .ref (ad21 (z5.1.1 + 1))), (1, .ref (ad21 (S00.1 + 1))), (0, .ref b)]) C dL_law_15 rfl (by decide) rfl ?_
    refine ww_iconst (v := (0)) C dL_law_16 (by decide) ?_
    refine ww_istore_n (lv' := [(3, .int (0 : Int32)), (2, .ref (ad21 (z5.1.1 + 1))), (1, .ref (ad21 (S00.1 + 1))), (0, .ref b)]) C dL_law_17 rfl (by decide) rfl ?_
    obtain ⟨T_25, E⟩ := gd_of E
    obtain ⟨T_26, E⟩ := gd_of E
    obtain ⟨h510, E⟩ := gd_of E
    cases E
    refine ww_sub (lv' := [(0, .ref b), (1, .ref (ad21 (S00.1 + 1))), (2, .ref (ad21 (z5.1.1 + 1))), (3, .int 0)]) [3, 2, 1, 0] rfl ?_
    exact B_law_18 C HR HL hG hX hbl hbA hAe N (S00.1 + 1) (z5.1.1 + 1) 0 _ T_25 T_26 (by rw [h510]; exact EL)
  exact key s.heap [] _ (fun k q h => by simp [toW, S00] at h) ⟨fun i j p q h => by simp [toW, S00] at h, fun k q h => by simp [toW, S00] at h⟩ va_S.rf hl
