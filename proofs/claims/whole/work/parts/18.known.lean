def sw_list : List Cond := [
  (Jvm.Cond.count (1 : Nat)),
  (Jvm.Cond.isRef (Jvm.Term.arg (0 : Nat))),
  (Jvm.Cond.arrayOf (Jvm.Term.arg (0 : Nat)) Jvm.ClassFile.FieldType.int),
  (Jvm.Cond.le (Jvm.Term.length (Jvm.Term.arg (0 : Nat))) (Jvm.Term.int (2560 : Int32))),
  (Jvm.Cond.eq (Jvm.Term.static "java/lang/String" "COMPACT_STRINGS" "Z") (Jvm.Term.int (1 : Int32))),
  (Jvm.Cond.isRef (Jvm.Term.static "jdk/internal/util/Preconditions" "SIOOBE_FORMATTER" "Ljava/util/function/BiFunction;")),
  (Jvm.Cond.eq (Jvm.Term.static "java/lang/StringUTF16" "$assertionsDisabled" "Z") (Jvm.Term.int (1 : Int32))),
  (Jvm.Cond.eq (Jvm.Term.static "java/lang/StringUTF16" "HI_BYTE_SHIFT" "I") (Jvm.Term.int (0 : Int32))),
  (Jvm.Cond.eq (Jvm.Term.static "java/lang/StringUTF16" "LO_BYTE_SHIFT" "I") (Jvm.Term.int (8 : Int32))),
  (Jvm.Cond.exactly (Jvm.Term.string "LinearizabilityChecker" (284 : Nat)) "java/lang/String"),
  (Jvm.Cond.eq (Jvm.Term.field (Jvm.Term.string "LinearizabilityChecker" (284 : Nat)) "java/lang/String" "coder" "B") (Jvm.Term.int (0 : Int32))),
  (Jvm.Cond.arrayOf (Jvm.Term.field (Jvm.Term.string "LinearizabilityChecker" (284 : Nat)) "java/lang/String" "value" "[B") Jvm.ClassFile.FieldType.byte),
  (Jvm.Cond.eq (Jvm.Term.length (Jvm.Term.field (Jvm.Term.string "LinearizabilityChecker" (284 : Nat)) "java/lang/String" "value" "[B")) (Jvm.Term.int (4 : Int32))),
  (Jvm.Cond.eq (Jvm.Term.elem (Jvm.Term.field (Jvm.Term.string "LinearizabilityChecker" (284 : Nat)) "java/lang/String" "value" "[B") (Jvm.Term.int (0 : Int32))) (Jvm.Term.int (114 : Int32))),
  (Jvm.Cond.eq (Jvm.Term.elem (Jvm.Term.field (Jvm.Term.string "LinearizabilityChecker" (284 : Nat)) "java/lang/String" "value" "[B") (Jvm.Term.int (1 : Int32))) (Jvm.Term.int (101 : Int32))),
  (Jvm.Cond.eq (Jvm.Term.elem (Jvm.Term.field (Jvm.Term.string "LinearizabilityChecker" (284 : Nat)) "java/lang/String" "value" "[B") (Jvm.Term.int (2 : Int32))) (Jvm.Term.int (97 : Int32))),
  (Jvm.Cond.eq (Jvm.Term.elem (Jvm.Term.field (Jvm.Term.string "LinearizabilityChecker" (284 : Nat)) "java/lang/String" "value" "[B") (Jvm.Term.int (3 : Int32))) (Jvm.Term.int (100 : Int32))),
  (Jvm.Cond.exactly (Jvm.Term.string "LinearizabilityChecker" (286 : Nat)) "java/lang/String"),
  (Jvm.Cond.eq (Jvm.Term.field (Jvm.Term.string "LinearizabilityChecker" (286 : Nat)) "java/lang/String" "coder" "B") (Jvm.Term.int (0 : Int32))),
  (Jvm.Cond.arrayOf (Jvm.Term.field (Jvm.Term.string "LinearizabilityChecker" (286 : Nat)) "java/lang/String" "value" "[B") Jvm.ClassFile.FieldType.byte),
  (Jvm.Cond.eq (Jvm.Term.length (Jvm.Term.field (Jvm.Term.string "LinearizabilityChecker" (286 : Nat)) "java/lang/String" "value" "[B")) (Jvm.Term.int (5 : Int32))),
  (Jvm.Cond.eq (Jvm.Term.elem (Jvm.Term.field (Jvm.Term.string "LinearizabilityChecker" (286 : Nat)) "java/lang/String" "value" "[B") (Jvm.Term.int (0 : Int32))) (Jvm.Term.int (119 : Int32))),
  (Jvm.Cond.eq (Jvm.Term.elem (Jvm.Term.field (Jvm.Term.string "LinearizabilityChecker" (286 : Nat)) "java/lang/String" "value" "[B") (Jvm.Term.int (1 : Int32))) (Jvm.Term.int (114 : Int32))),
  (Jvm.Cond.eq (Jvm.Term.elem (Jvm.Term.field (Jvm.Term.string "LinearizabilityChecker" (286 : Nat)) "java/lang/String" "value" "[B") (Jvm.Term.int (2 : Int32))) (Jvm.Term.int (105 : Int32))),
  (Jvm.Cond.eq (Jvm.Term.elem (Jvm.Term.field (Jvm.Term.string "LinearizabilityChecker" (286 : Nat)) "java/lang/String" "value" "[B") (Jvm.Term.int (3 : Int32))) (Jvm.Term.int (116 : Int32))),
  (Jvm.Cond.eq (Jvm.Term.elem (Jvm.Term.field (Jvm.Term.string "LinearizabilityChecker" (286 : Nat)) "java/lang/String" "value" "[B") (Jvm.Term.int (4 : Int32))) (Jvm.Term.int (101 : Int32))),
  (Jvm.Cond.not (Jvm.Cond.eq (Jvm.Term.string "LinearizabilityChecker" (284 : Nat)) (Jvm.Term.string "LinearizabilityChecker" (286 : Nat)))),
  (Jvm.Cond.exactly (Jvm.Term.string "LinearizabilityChecker" (288 : Nat)) "java/lang/String"),
  (Jvm.Cond.eq (Jvm.Term.field (Jvm.Term.string "LinearizabilityChecker" (288 : Nat)) "java/lang/String" "coder" "B") (Jvm.Term.int (0 : Int32))),
  (Jvm.Cond.arrayOf (Jvm.Term.field (Jvm.Term.string "LinearizabilityChecker" (288 : Nat)) "java/lang/String" "value" "[B") Jvm.ClassFile.FieldType.byte),
  (Jvm.Cond.eq (Jvm.Term.length (Jvm.Term.field (Jvm.Term.string "LinearizabilityChecker" (288 : Nat)) "java/lang/String" "value" "[B")) (Jvm.Term.int (13 : Int32))),
  (Jvm.Cond.eq (Jvm.Term.elem (Jvm.Term.field (Jvm.Term.string "LinearizabilityChecker" (288 : Nat)) "java/lang/String" "value" "[B") (Jvm.Term.int (0 : Int32))) (Jvm.Term.int (99 : Int32))),
  (Jvm.Cond.eq (Jvm.Term.elem (Jvm.Term.field (Jvm.Term.string "LinearizabilityChecker" (288 : Nat)) "java/lang/String" "value" "[B") (Jvm.Term.int (1 : Int32))) (Jvm.Term.int (111 : Int32))),
  (Jvm.Cond.eq (Jvm.Term.elem (Jvm.Term.field (Jvm.Term.string "LinearizabilityChecker" (288 : Nat)) "java/lang/String" "value" "[B") (Jvm.Term.int (2 : Int32))) (Jvm.Term.int (109 : Int32))),
  (Jvm.Cond.eq (Jvm.Term.elem (Jvm.Term.field (Jvm.Term.string "LinearizabilityChecker" (288 : Nat)) "java/lang/String" "value" "[B") (Jvm.Term.int (3 : Int32))) (Jvm.Term.int (112 : Int32))),
  (Jvm.Cond.eq (Jvm.Term.elem (Jvm.Term.field (Jvm.Term.string "LinearizabilityChecker" (288 : Nat)) "java/lang/String" "value" "[B") (Jvm.Term.int (4 : Int32))) (Jvm.Term.int (97 : Int32))),
  (Jvm.Cond.eq (Jvm.Term.elem (Jvm.Term.field (Jvm.Term.string "LinearizabilityChecker" (288 : Nat)) "java/lang/String" "value" "[B") (Jvm.Term.int (5 : Int32))) (Jvm.Term.int (114 : Int32))),
  (Jvm.Cond.eq (Jvm.Term.elem (Jvm.Term.field (Jvm.Term.string "LinearizabilityChecker" (288 : Nat)) "java/lang/String" "value" "[B") (Jvm.Term.int (6 : Int32))) (Jvm.Term.int (101 : Int32))),
  (Jvm.Cond.eq (Jvm.Term.elem (Jvm.Term.field (Jvm.Term.string "LinearizabilityChecker" (288 : Nat)) "java/lang/String" "value" "[B") (Jvm.Term.int (7 : Int32))) (Jvm.Term.int (65 : Int32))),
  (Jvm.Cond.eq (Jvm.Term.elem (Jvm.Term.field (Jvm.Term.string "LinearizabilityChecker" (288 : Nat)) "java/lang/String" "value" "[B") (Jvm.Term.int (8 : Int32))) (Jvm.Term.int (110 : Int32))),
  (Jvm.Cond.eq (Jvm.Term.elem (Jvm.Term.field (Jvm.Term.string "LinearizabilityChecker" (288 : Nat)) "java/lang/String" "value" "[B") (Jvm.Term.int (9 : Int32))) (Jvm.Term.int (100 : Int32))),
  (Jvm.Cond.eq (Jvm.Term.elem (Jvm.Term.field (Jvm.Term.string "LinearizabilityChecker" (288 : Nat)) "java/lang/String" "value" "[B") (Jvm.Term.int (10 : Int32))) (Jvm.Term.int (83 : Int32))),
  (Jvm.Cond.eq (Jvm.Term.elem (Jvm.Term.field (Jvm.Term.string "LinearizabilityChecker" (288 : Nat)) "java/lang/String" "value" "[B") (Jvm.Term.int (11 : Int32))) (Jvm.Term.int (101 : Int32))),
  (Jvm.Cond.eq (Jvm.Term.elem (Jvm.Term.field (Jvm.Term.string "LinearizabilityChecker" (288 : Nat)) "java/lang/String" "value" "[B") (Jvm.Term.int (12 : Int32))) (Jvm.Term.int (116 : Int32))),
  (Jvm.Cond.not (Jvm.Cond.eq (Jvm.Term.string "LinearizabilityChecker" (284 : Nat)) (Jvm.Term.string "LinearizabilityChecker" (288 : Nat)))),
  (Jvm.Cond.not (Jvm.Cond.eq (Jvm.Term.string "LinearizabilityChecker" (286 : Nat)) (Jvm.Term.string "LinearizabilityChecker" (288 : Nat)))),
  (Jvm.Cond.exactly (Jvm.Term.string "LinearizabilityChecker" (290 : Nat)) "java/lang/String"),
  (Jvm.Cond.eq (Jvm.Term.field (Jvm.Term.string "LinearizabilityChecker" (290 : Nat)) "java/lang/String" "coder" "B") (Jvm.Term.int (0 : Int32))),
  (Jvm.Cond.arrayOf (Jvm.Term.field (Jvm.Term.string "LinearizabilityChecker" (290 : Nat)) "java/lang/String" "value" "[B") Jvm.ClassFile.FieldType.byte),
  (Jvm.Cond.eq (Jvm.Term.length (Jvm.Term.field (Jvm.Term.string "LinearizabilityChecker" (290 : Nat)) "java/lang/String" "value" "[B")) (Jvm.Term.int (3 : Int32))),
  (Jvm.Cond.eq (Jvm.Term.elem (Jvm.Term.field (Jvm.Term.string "LinearizabilityChecker" (290 : Nat)) "java/lang/String" "value" "[B") (Jvm.Term.int (0 : Int32))) (Jvm.Term.int (103 : Int32))),
  (Jvm.Cond.eq (Jvm.Term.elem (Jvm.Term.field (Jvm.Term.string "LinearizabilityChecker" (290 : Nat)) "java/lang/String" "value" "[B") (Jvm.Term.int (1 : Int32))) (Jvm.Term.int (101 : Int32))),
  (Jvm.Cond.eq (Jvm.Term.elem (Jvm.Term.field (Jvm.Term.string "LinearizabilityChecker" (290 : Nat)) "java/lang/String" "value" "[B") (Jvm.Term.int (2 : Int32))) (Jvm.Term.int (116 : Int32))),
  (Jvm.Cond.not (Jvm.Cond.eq (Jvm.Term.string "LinearizabilityChecker" (284 : Nat)) (Jvm.Term.string "LinearizabilityChecker" (290 : Nat)))),
  (Jvm.Cond.not (Jvm.Cond.eq (Jvm.Term.string "LinearizabilityChecker" (286 : Nat)) (Jvm.Term.string "LinearizabilityChecker" (290 : Nat)))),
  (Jvm.Cond.not (Jvm.Cond.eq (Jvm.Term.string "LinearizabilityChecker" (288 : Nat)) (Jvm.Term.string "LinearizabilityChecker" (290 : Nat)))),
  (Jvm.Cond.exactly (Jvm.Term.string "LinearizabilityChecker" (292 : Nat)) "java/lang/String"),
  (Jvm.Cond.eq (Jvm.Term.field (Jvm.Term.string "LinearizabilityChecker" (292 : Nat)) "java/lang/String" "coder" "B") (Jvm.Term.int (0 : Int32))),
  (Jvm.Cond.arrayOf (Jvm.Term.field (Jvm.Term.string "LinearizabilityChecker" (292 : Nat)) "java/lang/String" "value" "[B") Jvm.ClassFile.FieldType.byte),
  (Jvm.Cond.eq (Jvm.Term.length (Jvm.Term.field (Jvm.Term.string "LinearizabilityChecker" (292 : Nat)) "java/lang/String" "value" "[B")) (Jvm.Term.int (3 : Int32))),
  (Jvm.Cond.eq (Jvm.Term.elem (Jvm.Term.field (Jvm.Term.string "LinearizabilityChecker" (292 : Nat)) "java/lang/String" "value" "[B") (Jvm.Term.int (0 : Int32))) (Jvm.Term.int (97 : Int32))),
  (Jvm.Cond.eq (Jvm.Term.elem (Jvm.Term.field (Jvm.Term.string "LinearizabilityChecker" (292 : Nat)) "java/lang/String" "value" "[B") (Jvm.Term.int (1 : Int32))) (Jvm.Term.int (100 : Int32))),
  (Jvm.Cond.eq (Jvm.Term.elem (Jvm.Term.field (Jvm.Term.string "LinearizabilityChecker" (292 : Nat)) "java/lang/String" "value" "[B") (Jvm.Term.int (2 : Int32))) (Jvm.Term.int (100 : Int32))),
  (Jvm.Cond.not (Jvm.Cond.eq (Jvm.Term.string "LinearizabilityChecker" (284 : Nat)) (Jvm.Term.string "LinearizabilityChecker" (292 : Nat)))),
  (Jvm.Cond.not (Jvm.Cond.eq (Jvm.Term.string "LinearizabilityChecker" (286 : Nat)) (Jvm.Term.string "LinearizabilityChecker" (292 : Nat)))),
  (Jvm.Cond.not (Jvm.Cond.eq (Jvm.Term.string "LinearizabilityChecker" (288 : Nat)) (Jvm.Term.string "LinearizabilityChecker" (292 : Nat)))),
  (Jvm.Cond.not (Jvm.Cond.eq (Jvm.Term.string "LinearizabilityChecker" (290 : Nat)) (Jvm.Term.string "LinearizabilityChecker" (292 : Nat)))),
  (Jvm.Cond.exactly (Jvm.Term.string "LinearizabilityChecker" (294 : Nat)) "java/lang/String"),
  (Jvm.Cond.eq (Jvm.Term.field (Jvm.Term.string "LinearizabilityChecker" (294 : Nat)) "java/lang/String" "coder" "B") (Jvm.Term.int (0 : Int32))),
  (Jvm.Cond.arrayOf (Jvm.Term.field (Jvm.Term.string "LinearizabilityChecker" (294 : Nat)) "java/lang/String" "value" "[B") Jvm.ClassFile.FieldType.byte),
  (Jvm.Cond.eq (Jvm.Term.length (Jvm.Term.field (Jvm.Term.string "LinearizabilityChecker" (294 : Nat)) "java/lang/String" "value" "[B")) (Jvm.Term.int (7 : Int32))),
  (Jvm.Cond.eq (Jvm.Term.elem (Jvm.Term.field (Jvm.Term.string "LinearizabilityChecker" (294 : Nat)) "java/lang/String" "value" "[B") (Jvm.Term.int (0 : Int32))) (Jvm.Term.int (101 : Int32))),
  (Jvm.Cond.eq (Jvm.Term.elem (Jvm.Term.field (Jvm.Term.string "LinearizabilityChecker" (294 : Nat)) "java/lang/String" "value" "[B") (Jvm.Term.int (1 : Int32))) (Jvm.Term.int (110 : Int32))),
  (Jvm.Cond.eq (Jvm.Term.elem (Jvm.Term.field (Jvm.Term.string "LinearizabilityChecker" (294 : Nat)) "java/lang/String" "value" "[B") (Jvm.Term.int (2 : Int32))) (Jvm.Term.int (113 : Int32))),
  (Jvm.Cond.eq (Jvm.Term.elem (Jvm.Term.field (Jvm.Term.string "LinearizabilityChecker" (294 : Nat)) "java/lang/String" "value" "[B") (Jvm.Term.int (3 : Int32))) (Jvm.Term.int (117 : Int32))),
  (Jvm.Cond.eq (Jvm.Term.elem (Jvm.Term.field (Jvm.Term.string "LinearizabilityChecker" (294 : Nat)) "java/lang/String" "value" "[B") (Jvm.Term.int (4 : Int32))) (Jvm.Term.int (101 : Int32))),
  (Jvm.Cond.eq (Jvm.Term.elem (Jvm.Term.field (Jvm.Term.string "LinearizabilityChecker" (294 : Nat)) "java/lang/String" "value" "[B") (Jvm.Term.int (5 : Int32))) (Jvm.Term.int (117 : Int32))),
  (Jvm.Cond.eq (Jvm.Term.elem (Jvm.Term.field (Jvm.Term.string "LinearizabilityChecker" (294 : Nat)) "java/lang/String" "value" "[B") (Jvm.Term.int (6 : Int32))) (Jvm.Term.int (101 : Int32))),
  (Jvm.Cond.not (Jvm.Cond.eq (Jvm.Term.string "LinearizabilityChecker" (284 : Nat)) (Jvm.Term.string "LinearizabilityChecker" (294 : Nat)))),
  (Jvm.Cond.not (Jvm.Cond.eq (Jvm.Term.string "LinearizabilityChecker" (286 : Nat)) (Jvm.Term.string "LinearizabilityChecker" (294 : Nat)))),
  (Jvm.Cond.not (Jvm.Cond.eq (Jvm.Term.string "LinearizabilityChecker" (288 : Nat)) (Jvm.Term.string "LinearizabilityChecker" (294 : Nat)))),
  (Jvm.Cond.not (Jvm.Cond.eq (Jvm.Term.string "LinearizabilityChecker" (290 : Nat)) (Jvm.Term.string "LinearizabilityChecker" (294 : Nat)))),
  (Jvm.Cond.not (Jvm.Cond.eq (Jvm.Term.string "LinearizabilityChecker" (292 : Nat)) (Jvm.Term.string "LinearizabilityChecker" (294 : Nat)))),
  (Jvm.Cond.exactly (Jvm.Term.string "LinearizabilityChecker" (296 : Nat)) "java/lang/String"),
  (Jvm.Cond.eq (Jvm.Term.field (Jvm.Term.string "LinearizabilityChecker" (296 : Nat)) "java/lang/String" "coder" "B") (Jvm.Term.int (0 : Int32))),
  (Jvm.Cond.arrayOf (Jvm.Term.field (Jvm.Term.string "LinearizabilityChecker" (296 : Nat)) "java/lang/String" "value" "[B") Jvm.ClassFile.FieldType.byte),
  (Jvm.Cond.eq (Jvm.Term.length (Jvm.Term.field (Jvm.Term.string "LinearizabilityChecker" (296 : Nat)) "java/lang/String" "value" "[B")) (Jvm.Term.int (7 : Int32))),
  (Jvm.Cond.eq (Jvm.Term.elem (Jvm.Term.field (Jvm.Term.string "LinearizabilityChecker" (296 : Nat)) "java/lang/String" "value" "[B") (Jvm.Term.int (0 : Int32))) (Jvm.Term.int (100 : Int32))),
  (Jvm.Cond.eq (Jvm.Term.elem (Jvm.Term.field (Jvm.Term.string "LinearizabilityChecker" (296 : Nat)) "java/lang/String" "value" "[B") (Jvm.Term.int (1 : Int32))) (Jvm.Term.int (101 : Int32))),
  (Jvm.Cond.eq (Jvm.Term.elem (Jvm.Term.field (Jvm.Term.string "LinearizabilityChecker" (296 : Nat)) "java/lang/String" "value" "[B") (Jvm.Term.int (2 : Int32))) (Jvm.Term.int (113 : Int32))),
  (Jvm.Cond.eq (Jvm.Term.elem (Jvm.Term.field (Jvm.Term.string "LinearizabilityChecker" (296 : Nat)) "java/lang/String" "value" "[B") (Jvm.Term.int (3 : Int32))) (Jvm.Term.int (117 : Int32))),
  (Jvm.Cond.eq (Jvm.Term.elem (Jvm.Term.field (Jvm.Term.string "LinearizabilityChecker" (296 : Nat)) "java/lang/String" "value" "[B") (Jvm.Term.int (4 : Int32))) (Jvm.Term.int (101 : Int32))),
  (Jvm.Cond.eq (Jvm.Term.elem (Jvm.Term.field (Jvm.Term.string "LinearizabilityChecker" (296 : Nat)) "java/lang/String" "value" "[B") (Jvm.Term.int (5 : Int32))) (Jvm.Term.int (117 : Int32))),
  (Jvm.Cond.eq (Jvm.Term.elem (Jvm.Term.field (Jvm.Term.string "LinearizabilityChecker" (296 : Nat)) "java/lang/String" "value" "[B") (Jvm.Term.int (6 : Int32))) (Jvm.Term.int (101 : Int32))),
  (Jvm.Cond.not (Jvm.Cond.eq (Jvm.Term.string "LinearizabilityChecker" (284 : Nat)) (Jvm.Term.string "LinearizabilityChecker" (296 : Nat)))),
  (Jvm.Cond.not (Jvm.Cond.eq (Jvm.Term.string "LinearizabilityChecker" (286 : Nat)) (Jvm.Term.string "LinearizabilityChecker" (296 : Nat)))),
  (Jvm.Cond.not (Jvm.Cond.eq (Jvm.Term.string "LinearizabilityChecker" (288 : Nat)) (Jvm.Term.string "LinearizabilityChecker" (296 : Nat)))),
  (Jvm.Cond.not (Jvm.Cond.eq (Jvm.Term.string "LinearizabilityChecker" (290 : Nat)) (Jvm.Term.string "LinearizabilityChecker" (296 : Nat)))),
  (Jvm.Cond.not (Jvm.Cond.eq (Jvm.Term.string "LinearizabilityChecker" (292 : Nat)) (Jvm.Term.string "LinearizabilityChecker" (296 : Nat)))),
  (Jvm.Cond.not (Jvm.Cond.eq (Jvm.Term.string "LinearizabilityChecker" (294 : Nat)) (Jvm.Term.string "LinearizabilityChecker" (296 : Nat)))),
  (Jvm.Cond.exactly (Jvm.Term.string "LinearizabilityChecker" (298 : Nat)) "java/lang/String"),
  (Jvm.Cond.eq (Jvm.Term.field (Jvm.Term.string "LinearizabilityChecker" (298 : Nat)) "java/lang/String" "coder" "B") (Jvm.Term.int (0 : Int32))),
  (Jvm.Cond.arrayOf (Jvm.Term.field (Jvm.Term.string "LinearizabilityChecker" (298 : Nat)) "java/lang/String" "value" "[B") Jvm.ClassFile.FieldType.byte),
  (Jvm.Cond.eq (Jvm.Term.length (Jvm.Term.field (Jvm.Term.string "LinearizabilityChecker" (298 : Nat)) "java/lang/String" "value" "[B")) (Jvm.Term.int (6 : Int32))),
  (Jvm.Cond.eq (Jvm.Term.elem (Jvm.Term.field (Jvm.Term.string "LinearizabilityChecker" (298 : Nat)) "java/lang/String" "value" "[B") (Jvm.Term.int (0 : Int32))) (Jvm.Term.int (105 : Int32))),
  (Jvm.Cond.eq (Jvm.Term.elem (Jvm.Term.field (Jvm.Term.string "LinearizabilityChecker" (298 : Nat)) "java/lang/String" "value" "[B") (Jvm.Term.int (1 : Int32))) (Jvm.Term.int (110 : Int32))),
  (Jvm.Cond.eq (Jvm.Term.elem (Jvm.Term.field (Jvm.Term.string "LinearizabilityChecker" (298 : Nat)) "java/lang/String" "value" "[B") (Jvm.Term.int (2 : Int32))) (Jvm.Term.int (115 : Int32))),
  (Jvm.Cond.eq (Jvm.Term.elem (Jvm.Term.field (Jvm.Term.string "LinearizabilityChecker" (298 : Nat)) "java/lang/String" "value" "[B") (Jvm.Term.int (3 : Int32))) (Jvm.Term.int (101 : Int32))),
  (Jvm.Cond.eq (Jvm.Term.elem (Jvm.Term.field (Jvm.Term.string "LinearizabilityChecker" (298 : Nat)) "java/lang/String" "value" "[B") (Jvm.Term.int (4 : Int32))) (Jvm.Term.int (114 : Int32))),
  (Jvm.Cond.eq (Jvm.Term.elem (Jvm.Term.field (Jvm.Term.string "LinearizabilityChecker" (298 : Nat)) "java/lang/String" "value" "[B") (Jvm.Term.int (5 : Int32))) (Jvm.Term.int (116 : Int32))),
  (Jvm.Cond.not (Jvm.Cond.eq (Jvm.Term.string "LinearizabilityChecker" (284 : Nat)) (Jvm.Term.string "LinearizabilityChecker" (298 : Nat)))),
  (Jvm.Cond.not (Jvm.Cond.eq (Jvm.Term.string "LinearizabilityChecker" (286 : Nat)) (Jvm.Term.string "LinearizabilityChecker" (298 : Nat)))),
  (Jvm.Cond.not (Jvm.Cond.eq (Jvm.Term.string "LinearizabilityChecker" (288 : Nat)) (Jvm.Term.string "LinearizabilityChecker" (298 : Nat)))),
  (Jvm.Cond.not (Jvm.Cond.eq (Jvm.Term.string "LinearizabilityChecker" (290 : Nat)) (Jvm.Term.string "LinearizabilityChecker" (298 : Nat)))),
  (Jvm.Cond.not (Jvm.Cond.eq (Jvm.Term.string "LinearizabilityChecker" (292 : Nat)) (Jvm.Term.string "LinearizabilityChecker" (298 : Nat)))),
  (Jvm.Cond.not (Jvm.Cond.eq (Jvm.Term.string "LinearizabilityChecker" (294 : Nat)) (Jvm.Term.string "LinearizabilityChecker" (298 : Nat)))),
  (Jvm.Cond.not (Jvm.Cond.eq (Jvm.Term.string "LinearizabilityChecker" (296 : Nat)) (Jvm.Term.string "LinearizabilityChecker" (298 : Nat)))),
  (Jvm.Cond.exactly (Jvm.Term.string "LinearizabilityChecker" (300 : Nat)) "java/lang/String"),
  (Jvm.Cond.eq (Jvm.Term.field (Jvm.Term.string "LinearizabilityChecker" (300 : Nat)) "java/lang/String" "coder" "B") (Jvm.Term.int (0 : Int32))),
  (Jvm.Cond.arrayOf (Jvm.Term.field (Jvm.Term.string "LinearizabilityChecker" (300 : Nat)) "java/lang/String" "value" "[B") Jvm.ClassFile.FieldType.byte),
  (Jvm.Cond.eq (Jvm.Term.length (Jvm.Term.field (Jvm.Term.string "LinearizabilityChecker" (300 : Nat)) "java/lang/String" "value" "[B")) (Jvm.Term.int (6 : Int32))),
  (Jvm.Cond.eq (Jvm.Term.elem (Jvm.Term.field (Jvm.Term.string "LinearizabilityChecker" (300 : Nat)) "java/lang/String" "value" "[B") (Jvm.Term.int (0 : Int32))) (Jvm.Term.int (114 : Int32))),
  (Jvm.Cond.eq (Jvm.Term.elem (Jvm.Term.field (Jvm.Term.string "LinearizabilityChecker" (300 : Nat)) "java/lang/String" "value" "[B") (Jvm.Term.int (1 : Int32))) (Jvm.Term.int (101 : Int32))),
  (Jvm.Cond.eq (Jvm.Term.elem (Jvm.Term.field (Jvm.Term.string "LinearizabilityChecker" (300 : Nat)) "java/lang/String" "value" "[B") (Jvm.Term.int (2 : Int32))) (Jvm.Term.int (109 : Int32))),
  (Jvm.Cond.eq (Jvm.Term.elem (Jvm.Term.field (Jvm.Term.string "LinearizabilityChecker" (300 : Nat)) "java/lang/String" "value" "[B") (Jvm.Term.int (3 : Int32))) (Jvm.Term.int (111 : Int32))),
  (Jvm.Cond.eq (Jvm.Term.elem (Jvm.Term.field (Jvm.Term.string "LinearizabilityChecker" (300 : Nat)) "java/lang/String" "value" "[B") (Jvm.Term.int (4 : Int32))) (Jvm.Term.int (118 : Int32))),
  (Jvm.Cond.eq (Jvm.Term.elem (Jvm.Term.field (Jvm.Term.string "LinearizabilityChecker" (300 : Nat)) "java/lang/String" "value" "[B") (Jvm.Term.int (5 : Int32))) (Jvm.Term.int (101 : Int32))),
  (Jvm.Cond.not (Jvm.Cond.eq (Jvm.Term.string "LinearizabilityChecker" (284 : Nat)) (Jvm.Term.string "LinearizabilityChecker" (300 : Nat)))),
  (Jvm.Cond.not (Jvm.Cond.eq (Jvm.Term.string "LinearizabilityChecker" (286 : Nat)) (Jvm.Term.string "LinearizabilityChecker" (300 : Nat)))),
  (Jvm.Cond.not (Jvm.Cond.eq (Jvm.Term.string "LinearizabilityChecker" (288 : Nat)) (Jvm.Term.string "LinearizabilityChecker" (300 : Nat)))),
  (Jvm.Cond.not (Jvm.Cond.eq (Jvm.Term.string "LinearizabilityChecker" (290 : Nat)) (Jvm.Term.string "LinearizabilityChecker" (300 : Nat)))),
  (Jvm.Cond.not (Jvm.Cond.eq (Jvm.Term.string "LinearizabilityChecker" (292 : Nat)) (Jvm.Term.string "LinearizabilityChecker" (300 : Nat)))),
  (Jvm.Cond.not (Jvm.Cond.eq (Jvm.Term.string "LinearizabilityChecker" (294 : Nat)) (Jvm.Term.string "LinearizabilityChecker" (300 : Nat)))),
  (Jvm.Cond.not (Jvm.Cond.eq (Jvm.Term.string "LinearizabilityChecker" (296 : Nat)) (Jvm.Term.string "LinearizabilityChecker" (300 : Nat)))),
  (Jvm.Cond.not (Jvm.Cond.eq (Jvm.Term.string "LinearizabilityChecker" (298 : Nat)) (Jvm.Term.string "LinearizabilityChecker" (300 : Nat)))),
  (Jvm.Cond.exactly (Jvm.Term.string "LinearizabilityChecker" (302 : Nat)) "java/lang/String"),
  (Jvm.Cond.eq (Jvm.Term.field (Jvm.Term.string "LinearizabilityChecker" (302 : Nat)) "java/lang/String" "coder" "B") (Jvm.Term.int (0 : Int32))),
  (Jvm.Cond.arrayOf (Jvm.Term.field (Jvm.Term.string "LinearizabilityChecker" (302 : Nat)) "java/lang/String" "value" "[B") Jvm.ClassFile.FieldType.byte),
  (Jvm.Cond.eq (Jvm.Term.length (Jvm.Term.field (Jvm.Term.string "LinearizabilityChecker" (302 : Nat)) "java/lang/String" "value" "[B")) (Jvm.Term.int (8 : Int32))),
  (Jvm.Cond.eq (Jvm.Term.elem (Jvm.Term.field (Jvm.Term.string "LinearizabilityChecker" (302 : Nat)) "java/lang/String" "value" "[B") (Jvm.Term.int (0 : Int32))) (Jvm.Term.int (99 : Int32))),
  (Jvm.Cond.eq (Jvm.Term.elem (Jvm.Term.field (Jvm.Term.string "LinearizabilityChecker" (302 : Nat)) "java/lang/String" "value" "[B") (Jvm.Term.int (1 : Int32))) (Jvm.Term.int (111 : Int32))),
  (Jvm.Cond.eq (Jvm.Term.elem (Jvm.Term.field (Jvm.Term.string "LinearizabilityChecker" (302 : Nat)) "java/lang/String" "value" "[B") (Jvm.Term.int (2 : Int32))) (Jvm.Term.int (110 : Int32))),
  (Jvm.Cond.eq (Jvm.Term.elem (Jvm.Term.field (Jvm.Term.string "LinearizabilityChecker" (302 : Nat)) "java/lang/String" "value" "[B") (Jvm.Term.int (3 : Int32))) (Jvm.Term.int (116 : Int32))),
  (Jvm.Cond.eq (Jvm.Term.elem (Jvm.Term.field (Jvm.Term.string "LinearizabilityChecker" (302 : Nat)) "java/lang/String" "value" "[B") (Jvm.Term.int (4 : Int32))) (Jvm.Term.int (97 : Int32))),
  (Jvm.Cond.eq (Jvm.Term.elem (Jvm.Term.field (Jvm.Term.string "LinearizabilityChecker" (302 : Nat)) "java/lang/String" "value" "[B") (Jvm.Term.int (5 : Int32))) (Jvm.Term.int (105 : Int32))),
  (Jvm.Cond.eq (Jvm.Term.elem (Jvm.Term.field (Jvm.Term.string "LinearizabilityChecker" (302 : Nat)) "java/lang/String" "value" "[B") (Jvm.Term.int (6 : Int32))) (Jvm.Term.int (110 : Int32))),
  (Jvm.Cond.eq (Jvm.Term.elem (Jvm.Term.field (Jvm.Term.string "LinearizabilityChecker" (302 : Nat)) "java/lang/String" "value" "[B") (Jvm.Term.int (7 : Int32))) (Jvm.Term.int (115 : Int32))),
  (Jvm.Cond.not (Jvm.Cond.eq (Jvm.Term.string "LinearizabilityChecker" (284 : Nat)) (Jvm.Term.string "LinearizabilityChecker" (302 : Nat)))),
  (Jvm.Cond.not (Jvm.Cond.eq (Jvm.Term.string "LinearizabilityChecker" (286 : Nat)) (Jvm.Term.string "LinearizabilityChecker" (302 : Nat)))),
  (Jvm.Cond.not (Jvm.Cond.eq (Jvm.Term.string "LinearizabilityChecker" (288 : Nat)) (Jvm.Term.string "LinearizabilityChecker" (302 : Nat)))),
  (Jvm.Cond.not (Jvm.Cond.eq (Jvm.Term.string "LinearizabilityChecker" (290 : Nat)) (Jvm.Term.string "LinearizabilityChecker" (302 : Nat)))),
  (Jvm.Cond.not (Jvm.Cond.eq (Jvm.Term.string "LinearizabilityChecker" (292 : Nat)) (Jvm.Term.string "LinearizabilityChecker" (302 : Nat)))),
  (Jvm.Cond.not (Jvm.Cond.eq (Jvm.Term.string "LinearizabilityChecker" (294 : Nat)) (Jvm.Term.string "LinearizabilityChecker" (302 : Nat)))),
  (Jvm.Cond.not (Jvm.Cond.eq (Jvm.Term.string "LinearizabilityChecker" (296 : Nat)) (Jvm.Term.string "LinearizabilityChecker" (302 : Nat)))),
  (Jvm.Cond.not (Jvm.Cond.eq (Jvm.Term.string "LinearizabilityChecker" (298 : Nat)) (Jvm.Term.string "LinearizabilityChecker" (302 : Nat)))),
  (Jvm.Cond.not (Jvm.Cond.eq (Jvm.Term.string "LinearizabilityChecker" (300 : Nat)) (Jvm.Term.string "LinearizabilityChecker" (302 : Nat))))]
set_option maxRecDepth 100000 in
theorem sw_flat : flatC (Jvm.Cond.and given_1 narrow_1) = sw_list := rfl
def sw_byt : List (List Int32) := [[114, 101, 97, 100], [119, 114, 105, 116, 101], [99, 111, 109, 112, 97, 114, 101, 65, 110, 100, 83, 101, 116], [103, 101, 116], [97, 100, 100], [101, 110, 113, 117, 101, 117, 101], [100, 101, 113, 117, 101, 117, 101], [105, 110, 115, 101, 114, 116], [114, 101, 109, 111, 118, 101], [99, 111, 110, 116, 97, 105, 110, 115]]
def sw_len : List Nat := [4, 5, 13, 3, 3, 7, 7, 6, 6, 8]
theorem sw_bytq : ax_byt = sw_byt := by decide +kernel
theorem sw_lenq : ax_len = sw_len := by decide +kernel
def sw_tm (i : Nat) : Term := .string "LinearizabilityChecker" (284 + 2 * i)
theorem sw_ex : ∀ i, i < 10 → Cond.exactly (sw_tm i) "java/lang/String" ∈ sw_list := by
  intro i hi
  match i, hi with
  | 0, _ => exact List.mem_of_getElem? (i := 9) rfl
  | 1, _ => exact List.mem_of_getElem? (i := 17) rfl
  | 2, _ => exact List.mem_of_getElem? (i := 27) rfl
  | 3, _ => exact List.mem_of_getElem? (i := 46) rfl
  | 4, _ => exact List.mem_of_getElem? (i := 56) rfl
  | 5, _ => exact List.mem_of_getElem? (i := 67) rfl
  | 6, _ => exact List.mem_of_getElem? (i := 83) rfl
  | 7, _ => exact List.mem_of_getElem? (i := 100) rfl
  | 8, _ => exact List.mem_of_getElem? (i := 117) rfl
  | 9, _ => exact List.mem_of_getElem? (i := 135) rfl
  | n + 10, h => exact absurd h (by omega)
theorem sw_co : ∀ i, i < 10 → Cond.eq (.field (sw_tm i) "java/lang/String" "coder" "B") (.int 0) ∈ sw_list := by
  intro i hi
  match i, hi with
  | 0, _ => exact List.mem_of_getElem? (i := 10) rfl
  | 1, _ => exact List.mem_of_getElem? (i := 18) rfl
  | 2, _ => exact List.mem_of_getElem? (i := 28) rfl
  | 3, _ => exact List.mem_of_getElem? (i := 47) rfl
  | 4, _ => exact List.mem_of_getElem? (i := 57) rfl
  | 5, _ => exact List.mem_of_getElem? (i := 68) rfl
  | 6, _ => exact List.mem_of_getElem? (i := 84) rfl
  | 7, _ => exact List.mem_of_getElem? (i := 101) rfl
  | 8, _ => exact List.mem_of_getElem? (i := 118) rfl
  | 9, _ => exact List.mem_of_getElem? (i := 136) rfl
  | n + 10, h => exact absurd h (by omega)
theorem sw_ar : ∀ i, i < 10 → Cond.arrayOf (.field (sw_tm i) "java/lang/String" "value" "[B") .byte ∈ sw_list := by
  intro i hi
  match i, hi with
  | 0, _ => exact List.mem_of_getElem? (i := 11) rfl
  | 1, _ => exact List.mem_of_getElem? (i := 19) rfl
  | 2, _ => exact List.mem_of_getElem? (i := 29) rfl
  | 3, _ => exact List.mem_of_getElem? (i := 48) rfl
  | 4, _ => exact List.mem_of_getElem? (i := 58) rfl
  | 5, _ => exact List.mem_of_getElem? (i := 69) rfl
  | 6, _ => exact List.mem_of_getElem? (i := 85) rfl
  | 7, _ => exact List.mem_of_getElem? (i := 102) rfl
  | 8, _ => exact List.mem_of_getElem? (i := 119) rfl
  | 9, _ => exact List.mem_of_getElem? (i := 137) rfl
  | n + 10, h => exact absurd h (by omega)
theorem sw_le : ∀ i, i < 10 → Cond.eq (.length (.field (sw_tm i) "java/lang/String" "value" "[B")) (.int (Int32.ofNat (sw_len.getD i 0))) ∈ sw_list := by
  intro i hi
  match i, hi with
  | 0, _ => exact List.mem_of_getElem? (i := 12) rfl
  | 1, _ => exact List.mem_of_getElem? (i := 20) rfl
  | 2, _ => exact List.mem_of_getElem? (i := 30) rfl
  | 3, _ => exact List.mem_of_getElem? (i := 49) rfl
  | 4, _ => exact List.mem_of_getElem? (i := 59) rfl
  | 5, _ => exact List.mem_of_getElem? (i := 70) rfl
  | 6, _ => exact List.mem_of_getElem? (i := 86) rfl
  | 7, _ => exact List.mem_of_getElem? (i := 103) rfl
  | 8, _ => exact List.mem_of_getElem? (i := 120) rfl
  | 9, _ => exact List.mem_of_getElem? (i := 138) rfl
  | n + 10, h => exact absurd h (by omega)
theorem sw_el : ∀ i, i < 10 → ∀ j, j < sw_len.getD i 0 → Cond.eq (.elem (.field (sw_tm i) "java/lang/String" "value" "[B") (.int (Int32.ofNat j))) (.int ((sw_byt.getD i []).getD j 0)) ∈ sw_list := by
  intro i hi
  match i, hi with
  | 0, _ => exact (by
      intro j hj
      match j, hj with
      | 0, _ => exact List.mem_of_getElem? (i := 13) rfl
      | 1, _ => exact List.mem_of_getElem? (i := 14) rfl
      | 2, _ => exact List.mem_of_getElem? (i := 15) rfl
      | 3, _ => exact List.mem_of_getElem? (i := 16) rfl
      | n + 4, h => exact absurd h (by show ¬ n + 4 < 4; omega))
  | 1, _ => exact (by
      intro j hj
      match j, hj with
      | 0, _ => exact List.mem_of_getElem? (i := 21) rfl
      | 1, _ => exact List.mem_of_getElem? (i := 22) rfl
      | 2, _ => exact List.mem_of_getElem? (i := 23) rfl
      | 3, _ => exact List.mem_of_getElem? (i := 24) rfl
      | 4, _ => exact List.mem_of_getElem? (i := 25) rfl
      | n + 5, h => exact absurd h (by show ¬ n + 5 < 5; omega))
  | 2, _ => exact (by
      intro j hj
      match j, hj with
      | 0, _ => exact List.mem_of_getElem? (i := 31) rfl
      | 1, _ => exact List.mem_of_getElem? (i := 32) rfl
      | 2, _ => exact List.mem_of_getElem? (i := 33) rfl
      | 3, _ => exact List.mem_of_getElem? (i := 34) rfl
      | 4, _ => exact List.mem_of_getElem? (i := 35) rfl
      | 5, _ => exact List.mem_of_getElem? (i := 36) rfl
      | 6, _ => exact List.mem_of_getElem? (i := 37) rfl
      | 7, _ => exact List.mem_of_getElem? (i := 38) rfl
      | 8, _ => exact List.mem_of_getElem? (i := 39) rfl
      | 9, _ => exact List.mem_of_getElem? (i := 40) rfl
      | 10, _ => exact List.mem_of_getElem? (i := 41) rfl
      | 11, _ => exact List.mem_of_getElem? (i := 42) rfl
      | 12, _ => exact List.mem_of_getElem? (i := 43) rfl
      | n + 13, h => exact absurd h (by show ¬ n + 13 < 13; omega))
  | 3, _ => exact (by
      intro j hj
      match j, hj with
      | 0, _ => exact List.mem_of_getElem? (i := 50) rfl
      | 1, _ => exact List.mem_of_getElem? (i := 51) rfl
      | 2, _ => exact List.mem_of_getElem? (i := 52) rfl
      | n + 3, h => exact absurd h (by show ¬ n + 3 < 3; omega))
  | 4, _ => exact (by
      intro j hj
      match j, hj with
      | 0, _ => exact List.mem_of_getElem? (i := 60) rfl
      | 1, _ => exact List.mem_of_getElem? (i := 61) rfl
      | 2, _ => exact List.mem_of_getElem? (i := 62) rfl
      | n + 3, h => exact absurd h (by show ¬ n + 3 < 3; omega))
  | 5, _ => exact (by
      intro j hj
      match j, hj with
      | 0, _ => exact List.mem_of_getElem? (i := 71) rfl
      | 1, _ => exact List.mem_of_getElem? (i := 72) rfl
      | 2, _ => exact List.mem_of_getElem? (i := 73) rfl
      | 3, _ => exact List.mem_of_getElem? (i := 74) rfl
      | 4, _ => exact List.mem_of_getElem? (i := 75) rfl
      | 5, _ => exact List.mem_of_getElem? (i := 76) rfl
      | 6, _ => exact List.mem_of_getElem? (i := 77) rfl
      | n + 7, h => exact absurd h (by show ¬ n + 7 < 7; omega))
  | 6, _ => exact (by
      intro j hj
      match j, hj with
      | 0, _ => exact List.mem_of_getElem? (i := 87) rfl
      | 1, _ => exact List.mem_of_getElem? (i := 88) rfl
      | 2, _ => exact List.mem_of_getElem? (i := 89) rfl
      | 3, _ => exact List.mem_of_getElem? (i := 90) rfl
      | 4, _ => exact List.mem_of_getElem? (i := 91) rfl
      | 5, _ => exact List.mem_of_getElem? (i := 92) rfl
      | 6, _ => exact List.mem_of_getElem? (i := 93) rfl
      | n + 7, h => exact absurd h (by show ¬ n + 7 < 7; omega))
  | 7, _ => exact (by
      intro j hj
      match j, hj with
      | 0, _ => exact List.mem_of_getElem? (i := 104) rfl
      | 1, _ => exact List.mem_of_getElem? (i := 105) rfl
      | 2, _ => exact List.mem_of_getElem? (i := 106) rfl
      | 3, _ => exact List.mem_of_getElem? (i := 107) rfl
      | 4, _ => exact List.mem_of_getElem? (i := 108) rfl
      | 5, _ => exact List.mem_of_getElem? (i := 109) rfl
      | n + 6, h => exact absurd h (by show ¬ n + 6 < 6; omega))
  | 8, _ => exact (by
      intro j hj
      match j, hj with
      | 0, _ => exact List.mem_of_getElem? (i := 121) rfl
      | 1, _ => exact List.mem_of_getElem? (i := 122) rfl
      | 2, _ => exact List.mem_of_getElem? (i := 123) rfl
      | 3, _ => exact List.mem_of_getElem? (i := 124) rfl
      | 4, _ => exact List.mem_of_getElem? (i := 125) rfl
      | 5, _ => exact List.mem_of_getElem? (i := 126) rfl
      | n + 6, h => exact absurd h (by show ¬ n + 6 < 6; omega))
  | 9, _ => exact (by
      intro j hj
      match j, hj with
      | 0, _ => exact List.mem_of_getElem? (i := 139) rfl
      | 1, _ => exact List.mem_of_getElem? (i := 140) rfl
      | 2, _ => exact List.mem_of_getElem? (i := 141) rfl
      | 3, _ => exact List.mem_of_getElem? (i := 142) rfl
      | 4, _ => exact List.mem_of_getElem? (i := 143) rfl
      | 5, _ => exact List.mem_of_getElem? (i := 144) rfl
      | 6, _ => exact List.mem_of_getElem? (i := 145) rfl
      | 7, _ => exact List.mem_of_getElem? (i := 146) rfl
      | n + 8, h => exact absurd h (by show ¬ n + 8 < 8; omega))
  | n + 10, h => exact absurd h (by omega)
theorem sw_ne : ∀ i, i < 10 → ∀ j, j < 10 → i ≠ j → Cond.not (Cond.eq (sw_tm i) (sw_tm j)) ∈ sw_list ∨ Cond.not (Cond.eq (sw_tm j) (sw_tm i)) ∈ sw_list := by
  intro i hi
  match i, hi with
  | 0, _ => exact (by
      intro j hj
      match j, hj with
      | 0, _ => exact fun h => absurd rfl h
      | 1, _ => exact fun _ => Or.inl (List.mem_of_getElem? (i := 26) rfl)
      | 2, _ => exact fun _ => Or.inl (List.mem_of_getElem? (i := 44) rfl)
      | 3, _ => exact fun _ => Or.inl (List.mem_of_getElem? (i := 53) rfl)
      | 4, _ => exact fun _ => Or.inl (List.mem_of_getElem? (i := 63) rfl)
      | 5, _ => exact fun _ => Or.inl (List.mem_of_getElem? (i := 78) rfl)
      | 6, _ => exact fun _ => Or.inl (List.mem_of_getElem? (i := 94) rfl)
      | 7, _ => exact fun _ => Or.inl (List.mem_of_getElem? (i := 110) rfl)
      | 8, _ => exact fun _ => Or.inl (List.mem_of_getElem? (i := 127) rfl)
      | 9, _ => exact fun _ => Or.inl (List.mem_of_getElem? (i := 147) rfl)
      | n + 10, h => exact absurd h (by omega))
  | 1, _ => exact (by
      intro j hj
      match j, hj with
      | 0, _ => exact fun _ => Or.inr (List.mem_of_getElem? (i := 26) rfl)
      | 1, _ => exact fun h => absurd rfl h
      | 2, _ => exact fun _ => Or.inl (List.mem_of_getElem? (i := 45) rfl)
      | 3, _ => exact fun _ => Or.inl (List.mem_of_getElem? (i := 54) rfl)
      | 4, _ => exact fun _ => Or.inl (List.mem_of_getElem? (i := 64) rfl)
      | 5, _ => exact fun _ => Or.inl (List.mem_of_getElem? (i := 79) rfl)
      | 6, _ => exact fun _ => Or.inl (List.mem_of_getElem? (i := 95) rfl)
      | 7, _ => exact fun _ => Or.inl (List.mem_of_getElem? (i := 111) rfl)
      | 8, _ => exact fun _ => Or.inl (List.mem_of_getElem? (i := 128) rfl)
      | 9, _ => exact fun _ => Or.inl (List.mem_of_getElem? (i := 148) rfl)
      | n + 10, h => exact absurd h (by omega))
  | 2, _ => exact (by
      intro j hj
      match j, hj with
      | 0, _ => exact fun _ => Or.inr (List.mem_of_getElem? (i := 44) rfl)
      | 1, _ => exact fun _ => Or.inr (List.mem_of_getElem? (i := 45) rfl)
      | 2, _ => exact fun h => absurd rfl h
      | 3, _ => exact fun _ => Or.inl (List.mem_of_getElem? (i := 55) rfl)
      | 4, _ => exact fun _ => Or.inl (List.mem_of_getElem? (i := 65) rfl)
      | 5, _ => exact fun _ => Or.inl (List.mem_of_getElem? (i := 80) rfl)
      | 6, _ => exact fun _ => Or.inl (List.mem_of_getElem? (i := 96) rfl)
      | 7, _ => exact fun _ => Or.inl (List.mem_of_getElem? (i := 112) rfl)
      | 8, _ => exact fun _ => Or.inl (List.mem_of_getElem? (i := 129) rfl)
      | 9, _ => exact fun _ => Or.inl (List.mem_of_getElem? (i := 149) rfl)
      | n + 10, h => exact absurd h (by omega))
  | 3, _ => exact (by
      intro j hj
      match j, hj with
      | 0, _ => exact fun _ => Or.inr (List.mem_of_getElem? (i := 53) rfl)
      | 1, _ => exact fun _ => Or.inr (List.mem_of_getElem? (i := 54) rfl)
      | 2, _ => exact fun _ => Or.inr (List.mem_of_getElem? (i := 55) rfl)
      | 3, _ => exact fun h => absurd rfl h
      | 4, _ => exact fun _ => Or.inl (List.mem_of_getElem? (i := 66) rfl)
      | 5, _ => exact fun _ => Or.inl (List.mem_of_getElem? (i := 81) rfl)
      | 6, _ => exact fun _ => Or.inl (List.mem_of_getElem? (i := 97) rfl)
      | 7, _ => exact fun _ => Or.inl (List.mem_of_getElem? (i := 113) rfl)
      | 8, _ => exact fun _ => Or.inl (List.mem_of_getElem? (i := 130) rfl)
      | 9, _ => exact fun _ => Or.inl (List.mem_of_getElem? (i := 150) rfl)
      | n + 10, h => exact absurd h (by omega))
  | 4, _ => exact (by
      intro j hj
      match j, hj with
      | 0, _ => exact fun _ => Or.inr (List.mem_of_getElem? (i := 63) rfl)
      | 1, _ => exact fun _ => Or.inr (List.mem_of_getElem? (i := 64) rfl)
      | 2, _ => exact fun _ => Or.inr (List.mem_of_getElem? (i := 65) rfl)
      | 3, _ => exact fun _ => Or.inr (List.mem_of_getElem? (i := 66) rfl)
      | 4, _ => exact fun h => absurd rfl h
      | 5, _ => exact fun _ => Or.inl (List.mem_of_getElem? (i := 82) rfl)
      | 6, _ => exact fun _ => Or.inl (List.mem_of_getElem? (i := 98) rfl)
      | 7, _ => exact fun _ => Or.inl (List.mem_of_getElem? (i := 114) rfl)
      | 8, _ => exact fun _ => Or.inl (List.mem_of_getElem? (i := 131) rfl)
      | 9, _ => exact fun _ => Or.inl (List.mem_of_getElem? (i := 151) rfl)
      | n + 10, h => exact absurd h (by omega))
  | 5, _ => exact (by
      intro j hj
      match j, hj with
      | 0, _ => exact fun _ => Or.inr (List.mem_of_getElem? (i := 78) rfl)
      | 1, _ => exact fun _ => Or.inr (List.mem_of_getElem? (i := 79) rfl)
      | 2, _ => exact fun _ => Or.inr (List.mem_of_getElem? (i := 80) rfl)
      | 3, _ => exact fun _ => Or.inr (List.mem_of_getElem? (i := 81) rfl)
      | 4, _ => exact fun _ => Or.inr (List.mem_of_getElem? (i := 82) rfl)
      | 5, _ => exact fun h => absurd rfl h
      | 6, _ => exact fun _ => Or.inl (List.mem_of_getElem? (i := 99) rfl)
      | 7, _ => exact fun _ => Or.inl (List.mem_of_getElem? (i := 115) rfl)
      | 8, _ => exact fun _ => Or.inl (List.mem_of_getElem? (i := 132) rfl)
      | 9, _ => exact fun _ => Or.inl (List.mem_of_getElem? (i := 152) rfl)
      | n + 10, h => exact absurd h (by omega))
  | 6, _ => exact (by
      intro j hj
      match j, hj with
      | 0, _ => exact fun _ => Or.inr (List.mem_of_getElem? (i := 94) rfl)
      | 1, _ => exact fun _ => Or.inr (List.mem_of_getElem? (i := 95) rfl)
      | 2, _ => exact fun _ => Or.inr (List.mem_of_getElem? (i := 96) rfl)
      | 3, _ => exact fun _ => Or.inr (List.mem_of_getElem? (i := 97) rfl)
      | 4, _ => exact fun _ => Or.inr (List.mem_of_getElem? (i := 98) rfl)
      | 5, _ => exact fun _ => Or.inr (List.mem_of_getElem? (i := 99) rfl)
      | 6, _ => exact fun h => absurd rfl h
      | 7, _ => exact fun _ => Or.inl (List.mem_of_getElem? (i := 116) rfl)
      | 8, _ => exact fun _ => Or.inl (List.mem_of_getElem? (i := 133) rfl)
      | 9, _ => exact fun _ => Or.inl (List.mem_of_getElem? (i := 153) rfl)
      | n + 10, h => exact absurd h (by omega))
  | 7, _ => exact (by
      intro j hj
      match j, hj with
      | 0, _ => exact fun _ => Or.inr (List.mem_of_getElem? (i := 110) rfl)
      | 1, _ => exact fun _ => Or.inr (List.mem_of_getElem? (i := 111) rfl)
      | 2, _ => exact fun _ => Or.inr (List.mem_of_getElem? (i := 112) rfl)
      | 3, _ => exact fun _ => Or.inr (List.mem_of_getElem? (i := 113) rfl)
      | 4, _ => exact fun _ => Or.inr (List.mem_of_getElem? (i := 114) rfl)
      | 5, _ => exact fun _ => Or.inr (List.mem_of_getElem? (i := 115) rfl)
      | 6, _ => exact fun _ => Or.inr (List.mem_of_getElem? (i := 116) rfl)
      | 7, _ => exact fun h => absurd rfl h
      | 8, _ => exact fun _ => Or.inl (List.mem_of_getElem? (i := 134) rfl)
      | 9, _ => exact fun _ => Or.inl (List.mem_of_getElem? (i := 154) rfl)
      | n + 10, h => exact absurd h (by omega))
  | 8, _ => exact (by
      intro j hj
      match j, hj with
      | 0, _ => exact fun _ => Or.inr (List.mem_of_getElem? (i := 127) rfl)
      | 1, _ => exact fun _ => Or.inr (List.mem_of_getElem? (i := 128) rfl)
      | 2, _ => exact fun _ => Or.inr (List.mem_of_getElem? (i := 129) rfl)
      | 3, _ => exact fun _ => Or.inr (List.mem_of_getElem? (i := 130) rfl)
      | 4, _ => exact fun _ => Or.inr (List.mem_of_getElem? (i := 131) rfl)
      | 5, _ => exact fun _ => Or.inr (List.mem_of_getElem? (i := 132) rfl)
      | 6, _ => exact fun _ => Or.inr (List.mem_of_getElem? (i := 133) rfl)
      | 7, _ => exact fun _ => Or.inr (List.mem_of_getElem? (i := 134) rfl)
      | 8, _ => exact fun h => absurd rfl h
      | 9, _ => exact fun _ => Or.inl (List.mem_of_getElem? (i := 155) rfl)
      | n + 10, h => exact absurd h (by omega))
  | 9, _ => exact (by
      intro j hj
      match j, hj with
      | 0, _ => exact fun _ => Or.inr (List.mem_of_getElem? (i := 147) rfl)
      | 1, _ => exact fun _ => Or.inr (List.mem_of_getElem? (i := 148) rfl)
      | 2, _ => exact fun _ => Or.inr (List.mem_of_getElem? (i := 149) rfl)
      | 3, _ => exact fun _ => Or.inr (List.mem_of_getElem? (i := 150) rfl)
      | 4, _ => exact fun _ => Or.inr (List.mem_of_getElem? (i := 151) rfl)
      | 5, _ => exact fun _ => Or.inr (List.mem_of_getElem? (i := 152) rfl)
      | 6, _ => exact fun _ => Or.inr (List.mem_of_getElem? (i := 153) rfl)
      | 7, _ => exact fun _ => Or.inr (List.mem_of_getElem? (i := 154) rfl)
      | 8, _ => exact fun _ => Or.inr (List.mem_of_getElem? (i := 155) rfl)
      | 9, _ => exact fun h => absurd rfl h
      | n + 10, h => exact absurd h (by omega))
  | n + 10, h => exact absurd h (by omega)
theorem sw_cs : Cond.eq (.static "java/lang/String" "COMPACT_STRINGS" "Z") (.int 1) ∈ sw_list := List.mem_of_getElem? (i := 4) rfl
theorem sw_sf : Cond.isRef (.static "jdk/internal/util/Preconditions" "SIOOBE_FORMATTER" "Ljava/util/function/BiFunction;") ∈ sw_list := List.mem_of_getElem? (i := 5) rfl
set_option maxRecDepth 100000 in
theorem sw_nest : ∀ w ∈ ax_nest, w ∈ lw_tbl := List.forall_mem_cons.mpr ⟨tb_1 _ (List.mem_of_getElem? (i := 27) rfl), List.forall_mem_cons.mpr ⟨tb_1 _ (List.mem_of_getElem? (i := 33) rfl), List.forall_mem_cons.mpr ⟨tb_1 _ (List.mem_of_getElem? (i := 38) rfl), List.forall_mem_cons.mpr ⟨tb_1 _ (List.mem_of_getElem? (i := 39) rfl), List.forall_mem_cons.mpr ⟨tb_1 _ (List.mem_of_getElem? (i := 40) rfl), List.forall_mem_cons.mpr ⟨tb_1 _ (List.mem_of_getElem? (i := 42) rfl), List.forall_mem_cons.mpr ⟨tb_1 _ (List.mem_of_getElem? (i := 44) rfl), List.forall_mem_cons.mpr ⟨tb_1 _ (List.mem_of_getElem? (i := 64) rfl), List.forall_mem_cons.mpr ⟨tb_1 _ (List.mem_of_getElem? (i := 69) rfl), List.forall_mem_cons.mpr ⟨tb_1 _ (List.mem_of_getElem? (i := 70) rfl), List.forall_mem_cons.mpr ⟨tb_1 _ (List.mem_of_getElem? (i := 72) rfl), List.forall_mem_cons.mpr ⟨tb_1 _ (List.mem_of_getElem? (i := 73) rfl), List.forall_mem_cons.mpr ⟨tb_1 _ (List.mem_of_getElem? (i := 75) rfl), List.forall_mem_cons.mpr ⟨tb_1 _ (List.mem_of_getElem? (i := 76) rfl), List.forall_mem_cons.mpr ⟨tb_1 _ (List.mem_of_getElem? (i := 78) rfl), List.forall_mem_cons.mpr ⟨tb_1 _ (List.mem_of_getElem? (i := 79) rfl), List.forall_mem_cons.mpr ⟨tb_1 _ (List.mem_of_getElem? (i := 81) rfl), List.forall_mem_cons.mpr ⟨tb_1 _ (List.mem_of_getElem? (i := 83) rfl), List.forall_mem_cons.mpr ⟨tb_1 _ (List.mem_of_getElem? (i := 85) rfl), List.forall_mem_cons.mpr ⟨tb_1 _ (List.mem_of_getElem? (i := 86) rfl), List.forall_mem_cons.mpr ⟨tb_1 _ (List.mem_of_getElem? (i := 88) rfl), List.forall_mem_cons.mpr ⟨tb_1 _ (List.mem_of_getElem? (i := 89) rfl), List.forall_mem_cons.mpr ⟨tb_1 _ (List.mem_of_getElem? (i := 91) rfl), List.forall_mem_cons.mpr ⟨tb_1 _ (List.mem_of_getElem? (i := 92) rfl), List.forall_mem_cons.mpr ⟨tb_1 _ (List.mem_of_getElem? (i := 94) rfl), List.forall_mem_cons.mpr ⟨tb_1 _ (List.mem_of_getElem? (i := 96) rfl), List.forall_mem_cons.mpr ⟨tb_1 _ (List.mem_of_getElem? (i := 134) rfl), List.forall_mem_cons.mpr ⟨tb_1 _ (List.mem_of_getElem? (i := 139) rfl), List.forall_mem_cons.mpr ⟨tb_1 _ (List.mem_of_getElem? (i := 140) rfl), List.forall_mem_cons.mpr ⟨tb_1 _ (List.mem_of_getElem? (i := 142) rfl), List.forall_mem_cons.mpr ⟨tb_1 _ (List.mem_of_getElem? (i := 143) rfl), List.forall_mem_cons.mpr ⟨tb_1 _ (List.mem_of_getElem? (i := 150) rfl), List.forall_mem_cons.mpr ⟨tb_1 _ (List.mem_of_getElem? (i := 151) rfl), List.forall_mem_cons.mpr ⟨tb_1 _ (List.mem_of_getElem? (i := 153) rfl), List.forall_mem_cons.mpr ⟨tb_1 _ (List.mem_of_getElem? (i := 154) rfl), List.forall_mem_cons.mpr ⟨tb_1 _ (List.mem_of_getElem? (i := 156) rfl), List.forall_mem_cons.mpr ⟨tb_1 _ (List.mem_of_getElem? (i := 173) rfl), List.forall_mem_cons.mpr ⟨tb_1 _ (List.mem_of_getElem? (i := 178) rfl), List.forall_mem_cons.mpr ⟨tb_1 _ (List.mem_of_getElem? (i := 203) rfl), List.forall_mem_cons.mpr ⟨tb_1 _ (List.mem_of_getElem? (i := 205) rfl), List.forall_mem_cons.mpr ⟨tb_2 _ (List.mem_of_getElem? (i := 4) rfl), List.forall_mem_cons.mpr ⟨tb_2 _ (List.mem_of_getElem? (i := 9) rfl), List.forall_mem_cons.mpr ⟨tb_2 _ (List.mem_of_getElem? (i := 10) rfl), List.forall_mem_cons.mpr ⟨tb_2 _ (List.mem_of_getElem? (i := 12) rfl), List.forall_mem_cons.mpr ⟨tb_2 _ (List.mem_of_getElem? (i := 26) rfl), List.forall_mem_cons.mpr ⟨tb_2 _ (List.mem_of_getElem? (i := 28) rfl), List.forall_mem_cons.mpr ⟨tb_2 _ (List.mem_of_getElem? (i := 30) rfl), List.forall_mem_cons.mpr ⟨tb_2 _ (List.mem_of_getElem? (i := 32) rfl), List.forall_mem_cons.mpr ⟨tb_2 _ (List.mem_of_getElem? (i := 34) rfl), List.forall_mem_cons.mpr ⟨tb_2 _ (List.mem_of_getElem? (i := 36) rfl), List.forall_mem_cons.mpr ⟨tb_2 _ (List.mem_of_getElem? (i := 38) rfl), List.forall_mem_cons.mpr ⟨tb_2 _ (List.mem_of_getElem? (i := 41) rfl), List.forall_mem_cons.mpr ⟨tb_2 _ (List.mem_of_getElem? (i := 126) rfl), List.forall_mem_cons.mpr ⟨tb_2 _ (List.mem_of_getElem? (i := 215) rfl), List.forall_mem_cons.mpr ⟨tb_3 _ (List.mem_of_getElem? (i := 104) rfl), List.forall_mem_cons.mpr ⟨tb_3 _ (List.mem_of_getElem? (i := 129) rfl), List.forall_mem_cons.mpr ⟨tb_3 _ (List.mem_of_getElem? (i := 138) rfl), List.forall_mem_cons.mpr ⟨tb_3 _ (List.mem_of_getElem? (i := 224) rfl), List.forall_mem_cons.mpr ⟨tb_4 _ (List.mem_of_getElem? (i := 49) rfl), List.forall_mem_cons.mpr ⟨tb_4 _ (List.mem_of_getElem? (i := 74) rfl), List.forall_mem_cons.mpr ⟨tb_4 _ (List.mem_of_getElem? (i := 140) rfl), (fun _ h => absurd h List.not_mem_nil)⟩⟩⟩⟩⟩⟩⟩⟩⟩⟩⟩⟩⟩⟩⟩⟩⟩⟩⟩⟩⟩⟩⟩⟩⟩⟩⟩⟩⟩⟩⟩⟩⟩⟩⟩⟩⟩⟩⟩⟩⟩⟩⟩⟩⟩⟩⟩⟩⟩⟩⟩⟩⟩⟩⟩⟩⟩⟩⟩⟩⟩
theorem sw_lay1 : Cond.laysStatic "java/lang/String" "COMPACT_STRINGS" "Z" ∈ lw_tbl := tb_4 _ (List.mem_of_getElem? (i := 100) rfl)
theorem sw_lay2 : Cond.laysStatic "jdk/internal/util/Preconditions" "SIOOBE_FORMATTER" "Ljava/util/function/BiFunction;" ∈ lw_tbl := tb_4 _ (List.mem_of_getElem? (i := 116) rfl)
theorem sw_in1 : Cond.initialized "java/lang/String" ∈ lw_tbl := tb_1 _ (List.mem_of_getElem? (i := 12) rfl)
theorem sw_in2 : Cond.initialized "jdk/internal/util/Preconditions" ∈ lw_tbl := tb_1 _ (List.mem_of_getElem? (i := 14) rfl)
theorem sw_ao : Cond.arrayOver (.object "LinearizabilityChecker$SharedState") ∈ lw_tbl := tb_1 _ (List.mem_of_getElem? (i := 171) rfl)
theorem sw_sr : ∀ i, i < 10 → Cond.stringRef "LinearizabilityChecker" (ax_pool i) (ax_tx.getD i "") ∈ lw_tbl := by
  intro i hi
  match i, hi with
  | 0, _ => exact tb_4 _ (List.mem_of_getElem? (i := 77) rfl)
  | 1, _ => exact tb_4 _ (List.mem_of_getElem? (i := 78) rfl)
  | 2, _ => exact tb_4 _ (List.mem_of_getElem? (i := 79) rfl)
  | 3, _ => exact tb_4 _ (List.mem_of_getElem? (i := 80) rfl)
  | 4, _ => exact tb_4 _ (List.mem_of_getElem? (i := 81) rfl)
  | 5, _ => exact tb_4 _ (List.mem_of_getElem? (i := 82) rfl)
  | 6, _ => exact tb_4 _ (List.mem_of_getElem? (i := 83) rfl)
  | 7, _ => exact tb_4 _ (List.mem_of_getElem? (i := 84) rfl)
  | 8, _ => exact tb_4 _ (List.mem_of_getElem? (i := 85) rfl)
  | 9, _ => exact tb_4 _ (List.mem_of_getElem? (i := 86) rfl)
  | n + 10, h => exact absurd h (by omega)
/-- what the Statement gives of the start, as facts of the world -/
theorem sw_known {p : Program} {s : State} {m : MethodId} {meth : Method} {c : Code} {b N : Nat} {xs : Nat → Int32} (C0 : lw_At p s m meth c b N xs) : ∃ (D : va_G) (adK adV : Nat → Nat), va_K D vwCl [] s ∧ (∀ w ∈ ax_nest, va_Nw w s) ∧ va_AO "LinearizabilityChecker$SharedState" s ∧ ∀ ad : Nat → Nat, (∀ i, i < 10 → ad (1000 + i) = adK i ∧ ad (2000 + i) = adV i) → ax_str (fun q => s.heap.size ≤ q) ad s s.heap := by
  obtain ⟨hx, hb, hr, hml, hown, hts, hX, hbl, hlocks, hgv⟩ := C0
  have hw := fun w h => hts w (wsL_law_in w h)
  have hf : ∀ c ∈ sw_list, c.before #[Value.ref b] s = true := fun c hc => flat_of_before _ hgv c (sw_flat ▸ hc)
  have hA : ∀ a : Nat, a < s.heap.size → ¬ s.heap.size ≤ a := fun a h => Nat.not_le.mpr h
  obtain ⟨c0, iS0, hKn0⟩ := u_known (C := RX0) (T := TX0) (N := 16) (n := 16) hw inlX0 (hw _ (wsub_wsL_law_r2 _ (List.mem_of_getElem? (i := 14) rfl)))
  obtain ⟨c1, iS1, hKn1⟩ := u_known (C := RX1) (T := TX1) (N := 3) (n := 3) hw inlX1 (hw _ (wsub_wsL_law_r2 _ (List.mem_of_getElem? (i := 10) rfl)))
  obtain ⟨c2, iS2, hKn2⟩ := u_known (C := RX2) (T := TX2) (N := 2) (n := 2) hw inlX2 (hw _ (wsub_wsL_law_r2 _ (List.mem_of_getElem? (i := 18) rfl)))
  obtain ⟨c3, iS3, hKn3⟩ := u_known (C := RX3) (T := TX3) (N := 10) (n := 10) hw inlX3 (hw _ (wsub_wsL_law_r2 _ (List.mem_of_getElem? (i := 2) rfl)))
  obtain ⟨c4, iS4, hKn4⟩ := u_known (C := RX4) (T := TX4) (N := 3) (n := 3) hw inlX4 (hw _ (wsub_wsL_law_r1 _ (List.mem_of_getElem? (i := 13) rfl)))
  obtain ⟨c5, iS5, hKn5⟩ := u_known (C := RX5) (T := TX5) (N := 15) (n := 15) hw inlX5 (hw _ (wsub_wsL_law_r1 _ (List.mem_of_getElem? (i := 18) rfl)))
  obtain ⟨c6, iS6, hKn6⟩ := u_known (C := RX6) (T := TX6) (N := 5) (n := 5) hw inlX6 (hw _ (wsub_wsL_law_r4 _ (List.mem_of_getElem? (i := 20) rfl)))
  obtain ⟨c7, iS7, hKn7⟩ := u_known (C := RX7) (T := TX7) (N := 2) (n := 2) hw inlX7 (hw _ (wsub_wsL_law_r1 _ (List.mem_of_getElem? (i := 22) rfl)))
  obtain ⟨c8, iS8, hKn8⟩ := u_known (C := RX8) (T := TX8) (N := 6) (n := 6) hw inlX8 (hw _ (wsub_wsL_law_r1 _ (List.mem_of_getElem? (i := 1) rfl)))
  obtain ⟨c9, iS9, hKn9⟩ := u_known (C := RX9) (T := TX9) (N := 44) (n := 44) hw inlX9 (hw _ (wsub_wsL_law_r1 _ (List.mem_of_getElem? (i := 4) rfl)))
  obtain ⟨dC, dI, hKc⟩ : ∃ (dC : Nat → ClassId) (dI : Nat → Nat → Nat), ∀ (k : Nat) (q : vw_C), vwCl[k]? = some q → u_Kn s q.1 q.2.1 q.2.2 (dC k) (dI k) := by
    refine ⟨fun k => ([c0, c1, c2, c3, c4, c5, c6, c7, c8, c9] : List ClassId).getD k c0, fun k => ([iS0, iS1, iS2, iS3, iS4, iS5, iS6, iS7, iS8, iS9] : List (Nat → Nat)).getD k iS0, ?_⟩
    intro k q hq
    match k, hq with
    | 0, hq => cases hq; exact hKn0
    | 1, hq => cases hq; exact hKn1
    | 2, hq => cases hq; exact hKn2
    | 3, hq => cases hq; exact hKn3
    | 4, hq => cases hq; exact hKn4
    | 5, hq => cases hq; exact hKn5
    | 6, hq => cases hq; exact hKn6
    | 7, hq => cases hq; exact hKn7
    | 8, hq => cases hq; exact hKn8
    | 9, hq => cases hq; exact hKn9
    | k + 10, hq => simp [vwCl] at hq
  have hlen : ∀ i : Nat, i < 10 → sw_len.getD i 0 < 2 ^ 31 := by decide +kernel
  obtain ⟨adK, adV, hS, hE⟩ := vk_Sof (args := #[Value.ref b]) (s := s) (N := 10) (tm := sw_tm) (len := sw_len) (byt := sw_byt) (A := fun q => s.heap.size ≤ q) hlen (fun i hi => hf _ (sw_ex i hi)) (fun i hi => hf _ (sw_co i hi)) (fun i hi => hf _ (sw_ar i hi)) (fun i hi => hf _ (sw_le i hi)) (fun i hi j hj => hf _ (sw_el i hi j hj)) (fun i j hi hj hne => (sw_ne i hi j hj hne).elim (fun h => Or.inl (hf _ h)) (fun h => Or.inr (hf _ h))) hA
  refine ⟨(dC, dI), adK, adV, ⟨hKc, fun k q h => by simp at h⟩, fun w hw => va_Nw.of (ax_Nw_on (ax_nest_k w hw)) (hts w (sw_nest w hw)), va_AO.of (hts _ sw_ao), fun ad had => ⟨?_, fun i hi => ?_, ?_, ?_, ?_⟩⟩
  · rw [sw_bytq, sw_lenq]
    refine ⟨fun i hi => ?_, fun i j hi hj h => ?_⟩
    · have h := hS.1 i hi
      show va_O _ (ad (1000 + i)) _ _ _ ∧ va_OF _ _ _ _ (ad (1000 + i)) _ _ _ ∧ va_OF _ _ _ (.ref (ad (2000 + i))) (ad (1000 + i)) _ _ _ ∧ va_T _ (ad (2000 + i)) _ _ _ _ _
      rw [(had i hi).1, (had i hi).2]; exact h
    · refine hS.2 i j hi hj ?_
      rw [← (had i hi).1, ← (had j hj).1]; exact h
  · rw [(had i hi).1]
    exact vk_R.of (hts _ (sw_sr i hi)) (hE i hi)
  · exact va_Zof (hts _ sw_lay1) (hts _ sw_in1) (va_eqt (hf _ sw_cs)) hA
  · exact va_Zqof (hts _ sw_lay2) (hts _ sw_in2) (hf _ sw_sf) hA
  · exact fun w hw => va_Nw.of (ax_Nw_on (ax_nest_k w hw)) (hts w (sw_nest w hw))
