/- Part 12a: method tables, printed by wip/whole/tools -/
def mA_init : XM := (⟨"java/util/ArrayList", "<init>", "()V"⟩, prog_23_method_2_code, 1, (Option.none : Option FieldType), [], [
  (0, .aload_n 0, 1, 1, 0, .null, 0),
  (1, .invokespecial 1, 3, 4, 0, .null, 0),
  (4, .aload_n 0, 1, 5, 0, .null, 0),
  (5, .getstatic 39, 3, 8, 0, .null, 0),
  (8, .putfield 9, 3, 11, 0, .ref 2, 64),
  (11, .return_, 1, 12, 0, .null, 0)])
set_option maxRecDepth 100000 in
theorem mA_init_ok : xOK mA_init = true := by decide +kernel
def mAbstractList_init : XM := (⟨"java/util/AbstractList", "<init>", "()V"⟩, prog_22_method_1_code, 1, (Option.none : Option FieldType), [], [
  (0, .aload_n 0, 1, 1, 0, .null, 0),
  (1, .invokespecial 1, 3, 4, 0, .null, 0),
  (4, .aload_n 0, 1, 5, 0, .null, 0),
  (5, .iconst 0, 1, 6, 0, .int 0, 0),
  (6, .putfield 7, 3, 9, 2, .ref 2, 66),
  (9, .return_, 1, 10, 0, .null, 0)])
set_option maxRecDepth 100000 in
theorem mAbstractList_init_ok : xOK mAbstractList_init = true := by decide +kernel
def mAbstractCollection_init : XM := (⟨"java/util/AbstractCollection", "<init>", "()V"⟩, prog_21_method_1_code, 1, (Option.none : Option FieldType), [], [
  (0, .aload_n 0, 1, 1, 0, .null, 0),
  (1, .invokespecial 1, 3, 4, 0, .null, 0),
  (4, .return_, 1, 5, 0, .null, 0)])
set_option maxRecDepth 100000 in
theorem mAbstractCollection_init_ok : xOK mAbstractCollection_init = true := by decide +kernel
def mA_size : XM := (⟨"java/util/ArrayList", "size", "()I"⟩, prog_23_method_8_code, 1, (Option.some FieldType.int), [], [
  (0, .aload_n 0, 1, 1, 0, .null, 0),
  (1, .getfield 48, 3, 4, 1, .ref 2, 65),
  (4, .ireturn, 1, 5, 0, .null, 0)])
set_option maxRecDepth 100000 in
theorem mA_size_ok : xOK mA_size = true := by decide +kernel
def mA_add : XM := (⟨"java/util/ArrayList", "add", "(Ljava/lang/Object;)Z"⟩, prog_23_method_25_code, 2, (Option.some FieldType.boolean), [], [
  (0, .aload_n 0, 1, 1, 0, .null, 0),
  (1, .dup, 1, 2, 0, .null, 0),
  (2, .getfield 63, 3, 5, 2, .ref 2, 67),
  (5, .iconst 1, 1, 6, 0, .int 1, 0),
  (6, .iadd, 1, 7, 0, .null, 0),
  (7, .putfield 63, 3, 10, 2, .ref 2, 67),
  (10, .aload_n 0, 1, 11, 0, .null, 0),
  (11, .aload_n 1, 1, 12, 0, .null, 0),
  (12, .aload_n 0, 1, 13, 0, .null, 0),
  (13, .getfield 9, 3, 16, 0, .ref 2, 64),
  (16, .aload_n 0, 1, 17, 0, .null, 0),
  (17, .getfield 48, 3, 20, 1, .ref 2, 65),
  (20, .invokevirtual 131, 3, 23, 0, .null, 0),
  (23, .iconst 1, 1, 24, 0, .int 1, 0),
  (24, .ireturn, 1, 25, 0, .null, 0)])
set_option maxRecDepth 100000 in
theorem mA_add_ok : xOK mA_add = true := by decide +kernel
def mA_add2 : XM := (⟨"java/util/ArrayList", "add", "(Ljava/lang/Object;[Ljava/lang/Object;I)V"⟩, prog_23_method_24_code, 4, (Option.none : Option FieldType), [], [
  (0, .iload_n 3, 1, 1, 0, .null, 0),
  (1, .aload_n 2, 1, 2, 0, .null, 0),
  (2, .arraylength, 1, 3, 0, .null, 0),
  (3, .if_icmp .ne 8, 3, 6, 11, .null, 0),
  (6, .aload_n 0, 1, 7, 0, .null, 0),
  (7, .invokevirtual 129, 3, 10, 0, .null, 0),
  (10, .astore_n 2, 1, 11, 0, .null, 0),
  (11, .aload_n 2, 1, 12, 0, .null, 0),
  (12, .iload_n 3, 1, 13, 0, .null, 0),
  (13, .aload_n 1, 1, 14, 0, .null, 0),
  (14, .aastore, 1, 15, 0, .null, 0),
  (15, .aload_n 0, 1, 16, 0, .null, 0),
  (16, .iload_n 3, 1, 17, 0, .null, 0),
  (17, .iconst 1, 1, 18, 0, .int 1, 0),
  (18, .iadd, 1, 19, 0, .null, 0),
  (19, .putfield 48, 3, 22, 1, .ref 2, 65),
  (22, .return_, 1, 23, 0, .null, 0)])
set_option maxRecDepth 100000 in
theorem mA_add2_ok : xOK mA_add2 = true := by decide +kernel
def mA_grow : XM := (⟨"java/util/ArrayList", "grow", "()[Ljava/lang/Object;"⟩, prog_23_method_7_code, 1, (Option.some (FieldType.array (FieldType.object "java/lang/Object"))), [], [
  (0, .aload_n 0, 1, 1, 0, .null, 0),
  (1, .aload_n 0, 1, 2, 0, .null, 0),
  (2, .getfield 48, 3, 5, 1, .ref 2, 65),
  (5, .iconst 1, 1, 6, 0, .int 1, 0),
  (6, .iadd, 1, 7, 0, .null, 0),
  (7, .invokevirtual 69, 3, 10, 0, .null, 0),
  (10, .areturn, 1, 11, 0, .null, 0)])
set_option maxRecDepth 100000 in
theorem mA_grow_ok : xOK mA_grow = true := by decide +kernel
def mA_grow2 : XM := (⟨"java/util/ArrayList", "grow", "(I)[Ljava/lang/Object;"⟩, prog_23_method_6_code, 4, (Option.some (FieldType.array (FieldType.object "java/lang/Object"))), [], [
  (0, .aload_n 0, 1, 1, 0, .null, 0),
  (1, .getfield 9, 3, 4, 0, .ref 2, 64),
  (4, .arraylength, 1, 5, 0, .null, 0),
  (5, .istore_n 2, 1, 6, 0, .null, 0),
  (6, .iload_n 2, 1, 7, 0, .null, 0),
  (7, .ifCond .gt 13, 3, 10, 20, .null, 0),
  (10, .aload_n 0, 1, 11, 0, .null, 0),
  (11, .getfield 9, 3, 14, 0, .ref 2, 64),
  (14, .getstatic 39, 3, 17, 0, .null, 0),
  (17, .if_acmp .eq 28, 3, 20, 45, .null, 0),
  (20, .iload_n 2, 1, 21, 0, .null, 0),
  (21, .iload_n 1, 1, 22, 0, .null, 0),
  (22, .iload_n 2, 1, 23, 0, .null, 0),
  (23, .isub, 1, 24, 0, .null, 0),
  (24, .iload_n 2, 1, 25, 0, .null, 0),
  (25, .iconst 1, 1, 26, 0, .int 1, 0),
  (26, .ishr, 1, 27, 0, .null, 0),
  (27, .invokestatic 73, 3, 30, 0, .null, 0),
  (30, .istore_n 3, 1, 31, 0, .null, 0),
  (31, .aload_n 0, 1, 32, 0, .null, 0),
  (32, .aload_n 0, 1, 33, 0, .null, 0),
  (33, .getfield 9, 3, 36, 0, .ref 2, 64),
  (36, .iload_n 3, 1, 37, 0, .null, 0),
  (37, .invokestatic 66, 3, 40, 0, .null, 0),
  (40, .dup_x1, 1, 41, 0, .null, 0),
  (41, .putfield 9, 3, 44, 0, .ref 2, 64),
  (44, .areturn, 1, 45, 0, .null, 0),
  (45, .aload_n 0, 1, 46, 0, .null, 0),
  (46, .bipush 10, 2, 48, 0, .int 10, 0),
  (48, .iload_n 1, 1, 49, 0, .null, 0),
  (49, .invokestatic 79, 3, 52, 0, .null, 0),
  (52, .anewarray 7, 3, 55, 0, .null, 0),
  (55, .dup_x1, 1, 56, 0, .null, 0),
  (56, .putfield 9, 3, 59, 0, .ref 2, 64),
  (59, .areturn, 1, 60, 0, .null, 0)])
set_option maxRecDepth 100000 in
theorem mA_grow2_ok : xOK mA_grow2 = true := by decide +kernel
def mArraysSupport_newLength : XM := (⟨"jdk/internal/util/ArraysSupport", "newLength", "(III)I"⟩, prog_30_method_27_code, 4, (Option.some FieldType.int), [], [
  (0, .iload_n 0, 1, 1, 0, .null, 0),
  (1, .iload_n 1, 1, 2, 0, .null, 0),
  (2, .iload_n 2, 1, 3, 0, .null, 0),
  (3, .invokestatic 194, 3, 6, 0, .null, 0),
  (6, .iadd, 1, 7, 0, .null, 0),
  (7, .istore_n 3, 1, 8, 0, .null, 0),
  (8, .iconst 0, 1, 9, 0, .int 0, 0),
  (9, .iload_n 3, 1, 10, 0, .null, 0),
  (10, .if_icmp .ge 11, 3, 13, 21, .null, 0),
  (13, .iload_n 3, 1, 14, 0, .null, 0),
  (14, .ldc 200, 2, 16, 0, .int 2147483639, 358),
  (16, .if_icmp .gt 5, 3, 19, 21, .null, 0),
  (19, .iload_n 3, 1, 20, 0, .null, 0),
  (20, .ireturn, 1, 21, 0, .null, 0),
  (21, .iload_n 0, 1, 22, 0, .null, 0),
  (22, .iload_n 1, 1, 23, 0, .null, 0),
  (23, .invokestatic 201, 3, 26, 0, .null, 0),
  (26, .ireturn, 1, 27, 0, .null, 0)])
set_option maxRecDepth 100000 in
theorem mArraysSupport_newLength_ok : xOK mArraysSupport_newLength = true := by decide +kernel
def mArraysSupport_hugeLength : XM := (⟨"jdk/internal/util/ArraysSupport", "hugeLength", "(II)I"⟩, prog_30_method_28_code, 3, (Option.some FieldType.int), [], [
  (0, .iload_n 0, 1, 1, 0, .null, 0),
  (1, .iload_n 1, 1, 2, 0, .null, 0),
  (2, .iadd, 1, 3, 0, .null, 0),
  (3, .istore_n 2, 1, 4, 0, .null, 0),
  (4, .iload_n 2, 1, 5, 0, .null, 0),
  (5, .ifCond .ge 44, 3, 8, 49, .null, 0),
  (8, .new 204, 3, 11, 0, .null, 0),
  (11, .dup, 1, 12, 0, .null, 0),
  (12, .new 89, 3, 15, 0, .null, 0),
  (15, .dup, 1, 16, 0, .null, 0),
  (16, .invokespecial 91, 3, 19, 0, .null, 0),
  (19, .ldc 206, 2, 21, 0, .null, 0),
  (21, .invokevirtual 94, 3, 24, 0, .null, 0),
  (24, .iload_n 0, 1, 25, 0, .null, 0),
  (25, .invokevirtual 98, 3, 28, 0, .null, 0),
  (28, .ldc 208, 2, 30, 0, .null, 0),
  (30, .invokevirtual 94, 3, 33, 0, .null, 0),
  (33, .iload_n 1, 1, 34, 0, .null, 0),
  (34, .invokevirtual 98, 3, 37, 0, .null, 0),
  (37, .ldc 210, 2, 39, 0, .null, 0),
  (39, .invokevirtual 94, 3, 42, 0, .null, 0),
  (42, .invokevirtual 101, 3, 45, 0, .null, 0),
  (45, .invokespecial 212, 3, 48, 0, .null, 0),
  (48, .athrow, 1, 49, 0, .null, 0),
  (49, .iload_n 2, 1, 50, 0, .null, 0),
  (50, .ldc 200, 2, 52, 0, .int 2147483639, 358),
  (52, .if_icmp .gt 6, 3, 55, 58, .null, 0),
  (55, .ldc 200, 2, 57, 0, .int 2147483639, 358),
  (57, .ireturn, 1, 58, 0, .null, 0),
  (58, .iload_n 2, 1, 59, 0, .null, 0),
  (59, .ireturn, 1, 60, 0, .null, 0)])
set_option maxRecDepth 100000 in
theorem mArraysSupport_hugeLength_ok : xOK mArraysSupport_hugeLength = true := by decide +kernel
def mArrays_copyOf : XM := (⟨"java/util/Arrays", "copyOf", "([Ljava/lang/Object;I)[Ljava/lang/Object;"⟩, prog_24_method_119_code, 2, (Option.some (FieldType.array (FieldType.object "java/lang/Object"))), [], [
  (0, .aload_n 0, 1, 1, 0, .null, 0),
  (1, .iload_n 1, 1, 2, 0, .null, 0),
  (2, .aload_n 0, 1, 3, 0, .null, 0),
  (3, .invokevirtual 86, 3, 6, 0, .null, 0),
  (6, .invokestatic 300, 3, 9, 0, .null, 0),
  (9, .areturn, 1, 10, 0, .null, 0)])
set_option maxRecDepth 100000 in
theorem mArrays_copyOf_ok : xOK mArrays_copyOf = true := by decide +kernel
def mArrays_copyOf2 : XM := (⟨"java/util/Arrays", "copyOf", "([Ljava/lang/Object;ILjava/lang/Class;)[Ljava/lang/Object;"⟩, prog_24_method_120_code, 4, (Option.some (FieldType.array (FieldType.object "java/lang/Object"))), [], [
  (0, .aload_n 2, 1, 1, 0, .null, 0),
  (1, .ldc 110, 2, 3, 0, .null, 0),
  (3, .if_acmp .ne 10, 3, 6, 13, .null, 0),
  (6, .iload_n 1, 1, 7, 0, .null, 0),
  (7, .anewarray 2, 3, 10, 0, .null, 0),
  (10, .goto 14, 3, 13, 24, .null, 0),
  (13, .aload_n 2, 1, 14, 0, .null, 0),
  (14, .invokevirtual 90, 3, 17, 0, .null, 0),
  (17, .iload_n 1, 1, 18, 0, .null, 0),
  (18, .invokestatic 95, 3, 21, 0, .null, 0),
  (21, .checkcast 110, 3, 24, 0, .null, 0),
  (24, .astore_n 3, 1, 25, 0, .null, 0),
  (25, .aload_n 0, 1, 26, 0, .null, 0),
  (26, .iconst 0, 1, 27, 0, .int 0, 0),
  (27, .aload_n 3, 1, 28, 0, .null, 0),
  (28, .iconst 0, 1, 29, 0, .int 0, 0),
  (29, .aload_n 0, 1, 30, 0, .null, 0),
  (30, .arraylength, 1, 31, 0, .null, 0),
  (31, .iload_n 1, 1, 32, 0, .null, 0),
  (32, .invokestatic 304, 3, 35, 0, .null, 0),
  (35, .invokestatic 150, 3, 38, 0, .null, 0),
  (38, .aload_n 3, 1, 39, 0, .null, 0),
  (39, .areturn, 1, 40, 0, .null, 0)])
set_option maxRecDepth 100000 in
theorem mArrays_copyOf2_ok : xOK mArrays_copyOf2 = true := by decide +kernel
def mA_get : XM := (⟨"java/util/ArrayList", "get", "(I)Ljava/lang/Object;"⟩, prog_23_method_20_code, 2, (Option.some (FieldType.object "java/lang/Object")), [], [
  (0, .iload_n 1, 1, 1, 0, .null, 0),
  (1, .aload_n 0, 1, 2, 0, .null, 0),
  (2, .getfield 48, 3, 5, 1, .ref 2, 65),
  (5, .invokestatic 118, 3, 8, 0, .null, 0),
  (8, .pop, 1, 9, 0, .null, 0),
  (9, .aload_n 0, 1, 10, 0, .null, 0),
  (10, .iload_n 1, 1, 11, 0, .null, 0),
  (11, .invokevirtual 123, 3, 14, 0, .null, 0),
  (14, .areturn, 1, 15, 0, .null, 0)])
set_option maxRecDepth 100000 in
theorem mA_get_ok : xOK mA_get = true := by decide +kernel
def mObjects_checkIndex : XM := (⟨"java/util/Objects", "checkIndex", "(II)I"⟩, prog_27_method_17_code, 2, (Option.some FieldType.int), [], [
  (0, .iload_n 0, 1, 1, 0, .null, 0),
  (1, .iload_n 1, 1, 2, 0, .null, 0),
  (2, .aconst_null, 1, 3, 0, .null, 0),
  (3, .invokestatic 105, 3, 6, 0, .null, 0),
  (6, .ireturn, 1, 7, 0, .null, 0)])
set_option maxRecDepth 100000 in
theorem mObjects_checkIndex_ok : xOK mObjects_checkIndex = true := by decide +kernel
def mPreconditions_checkIndex : XM := (⟨"jdk/internal/util/Preconditions", "checkIndex", "(IILjava/util/function/BiFunction;)I"⟩, prog_31_method_11_code, 3, (Option.some FieldType.int), [], [
  (0, .iload_n 0, 1, 1, 0, .null, 0),
  (1, .ifCond .lt 8, 3, 4, 9, .null, 0),
  (4, .iload_n 0, 1, 5, 0, .null, 0),
  (5, .iload_n 1, 1, 6, 0, .null, 0),
  (6, .if_icmp .lt 10, 3, 9, 16, .null, 0),
  (9, .aload_n 2, 1, 10, 0, .null, 0),
  (10, .iload_n 0, 1, 11, 0, .null, 0),
  (11, .iload_n 1, 1, 12, 0, .null, 0),
  (12, .invokestatic 95, 3, 15, 0, .null, 0),
  (15, .athrow, 1, 16, 0, .null, 0),
  (16, .iload_n 0, 1, 17, 0, .null, 0),
  (17, .ireturn, 1, 18, 0, .null, 0)])
set_option maxRecDepth 100000 in
theorem mPreconditions_checkIndex_ok : xOK mPreconditions_checkIndex = true := by decide +kernel
def mA_elementData : XM := (⟨"java/util/ArrayList", "elementData", "(I)Ljava/lang/Object;"⟩, prog_23_method_18_code, 2, (Option.some (FieldType.object "java/lang/Object")), [], [
  (0, .aload_n 0, 1, 1, 0, .null, 0),
  (1, .getfield 9, 3, 4, 0, .ref 2, 64),
  (4, .iload_n 1, 1, 5, 0, .null, 0),
  (5, .aaload, 1, 6, 0, .null, 0),
  (6, .areturn, 1, 7, 0, .null, 0)])
set_option maxRecDepth 100000 in
theorem mA_elementData_ok : xOK mA_elementData = true := by decide +kernel
