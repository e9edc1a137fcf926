def bLa_reset : List BLK := [
  (0, [(0, .aload_n 0, 0, 0, 0), (1, .bipush 40, 40, 0, 0), (3, .putfield 12, 1, 0, 126), (6, .aload_n 0, 0, 0, 0), (7, .iconst 0, 0, 0, 0), (8, .putfield 16, 1, 1, 128), (11, .aload_n 0, 0, 0, 0), (12, .iconst 0, 0, 0, 0), (13, .putfield 19, 1, 2, 131), (16, .aload_n 0, 0, 0, 0), (17, .iconst 1, 1, 0, 0), (18, .putfield 22, 1, 3, 134), (21, .aload_n 0, 0, 0, 0), (22, .iconst 0, 0, 0, 0), (23, .putfield 25, 1, 4, 137), (26, .aload_n 0, 0, 0, 0), (27, .iconst 0, 0, 0, 0), (28, .putfield 28, 1, 5, 139), (31, .aload_n 0, 0, 0, 0), (32, .bipush 24, 24, 0, 0), (34, .putfield 31, 1, 6, 141), (37, .aload_n 0, 0, 0, 0), (38, .iconst 1, 1, 0, 0), (39, .putfield 34, 1, 7, 144), (42, .aload_n 0, 0, 0, 0), (43, .iconst 1, 1, 0, 0), (44, .putfield 38, 1, 8, 146)], (47, .return_, 0, 0, 0))]
def mLa_reset : MR := (⟨"PageFormatter$Layout", "reset", "()V"⟩, prog_3_method_2_code, 1, (Option.none : Option Jvm.ClassFile.FieldType), 0, 0, bLa_reset, 125, 123, 124, 58, 0)
set_option maxRecDepth 100000 in
theorem okLa_reset : MOK mLa_reset := ⟨by decide +kernel, by decide +kernel⟩
def bLa_leastRight : List BLK := [
  (0, [(0, .aload_n 0, 0, 0, 0), (1, .getfield 19, 1, 2, 131), (4, .aload_n 0, 0, 0, 0), (5, .getfield 16, 1, 1, 128)], (8, .invokestatic 41, 0, 11, 504)),
  (11, [(11, .iconst 1, 1, 0, 0), (12, .iadd, 0, 0, 0)], (13, .ireturn, 0, 0, 0))]
def mLa_leastRight : MR := (⟨"PageFormatter$Layout", "leastRight", "()I"⟩, prog_3_method_3_code, 1, (Option.some Jvm.ClassFile.FieldType.int), 1, 21, bLa_leastRight, 503, 501, 502, 58, 0)
set_option maxRecDepth 100000 in
theorem okLa_leastRight : MOK mLa_leastRight := ⟨by decide +kernel, by decide +kernel⟩
def bLa_growThisIndent : List BLK := [
  (0, [(0, .aload_n 0, 0, 0, 0), (1, .aload_n 0, 0, 0, 0), (2, .getfield 12, 1, 0, 126), (5, .iconst 1, 1, 0, 0), (6, .isub, 0, 0, 0), (7, .aload_n 0, 0, 0, 0), (8, .getfield 19, 1, 2, 131), (11, .iload_n 1, 0, 0, 0), (12, .iadd, 0, 0, 0)], (13, .invokestatic 47, 0, 16, 535)),
  (16, [(16, .putfield 19, 1, 2, 131)], (19, .return_, 0, 0, 0))]
def mLa_growThisIndent : MR := (⟨"PageFormatter$Layout", "growThisIndent", "(I)V"⟩, prog_3_method_4_code, 2, (Option.none : Option Jvm.ClassFile.FieldType), 1, 21, bLa_growThisIndent, 534, 532, 533, 58, 1)
set_option maxRecDepth 100000 in
theorem okLa_growThisIndent : MOK mLa_growThisIndent := ⟨by decide +kernel, by decide +kernel⟩
def bLa_takeUnderlined : List BLK := [
  (0, [(0, .aload_n 0, 0, 0, 0), (1, .getfield 28, 1, 5, 139)], (4, .ifCond .ne 5, 9, 7, 0)),
  (7, [(7, .iconst 0, 0, 0, 0)], (8, .ireturn, 0, 0, 0)),
  (9, [(9, .aload_n 0, 0, 0, 0), (10, .dup, 0, 0, 0), (11, .getfield 28, 1, 5, 139), (14, .iconst 1, 1, 0, 0), (15, .isub, 0, 0, 0), (16, .putfield 28, 1, 5, 139), (19, .iconst 1, 1, 0, 0)], (20, .ireturn, 0, 0, 0))]
def mLa_takeUnderlined : MR := (⟨"PageFormatter$Layout", "takeUnderlined", "()Z"⟩, prog_3_method_5_code, 1, (Option.some Jvm.ClassFile.FieldType.boolean), 0, 0, bLa_takeUnderlined, 543, 541, 542, 58, 0)
set_option maxRecDepth 100000 in
theorem okLa_takeUnderlined : MOK mLa_takeUnderlined := ⟨by decide +kernel, by decide +kernel⟩
