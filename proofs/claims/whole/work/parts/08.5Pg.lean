def bPg_reset : List BLK := [
  (0, [(0, .aload_n 0, 0, 0, 0), (1, .getfield 12, 3, 2, 191), (4, .iconst 0, 0, 0, 0), (5, .putfield 42, 6, 1, 83), (8, .aload_n 0, 0, 0, 0), (9, .getfield 18, 3, 3, 193), (12, .iconst 0, 0, 0, 0), (13, .putfield 42, 6, 1, 83), (16, .aload_n 0, 0, 0, 0), (17, .iconst 0, 0, 0, 0), (18, .putfield 21, 3, 4, 195), (21, .aload_n 0, 0, 0, 0), (22, .iconst 0, 0, 0, 0), (23, .putfield 25, 3, 5, 197), (26, .aload_n 0, 0, 0, 0), (27, .iconst 1, 1, 0, 0), (28, .putfield 28, 3, 6, 199)], (31, .return_, 0, 0, 0))]
def mPg_reset : MR := (⟨"PageFormatter$Pages", "reset", "()V"⟩, prog_5_method_2_code, 1, (Option.none : Option Jvm.ClassFile.FieldType), 0, 0, bPg_reset, 591, 589, 590, 60, 0)
set_option maxRecDepth 100000 in
theorem okPg_reset : MOK mPg_reset := ⟨by decide +kernel, by decide +kernel⟩
def bPg_isBegun : List BLK := [
  (0, [(0, .aload_n 0, 0, 0, 0), (1, .getfield 21, 3, 4, 195)], (4, .ifCond .eq 7, 11, 7, 0)),
  (7, [(7, .iconst 1, 1, 0, 0)], (8, .goto 4, 12, 11, 0)),
  (11, [(11, .iconst 0, 0, 0, 0)], (12, .nop, 0, 0, 0)),
  (12, [], (12, .ireturn, 0, 0, 0))]
def mPg_isBegun : MR := (⟨"PageFormatter$Pages", "isBegun", "()Z"⟩, prog_5_method_3_code, 1, (Option.some Jvm.ClassFile.FieldType.boolean), 0, 0, bPg_isBegun, 352, 350, 351, 60, 0)
set_option maxRecDepth 100000 in
theorem okPg_isBegun : MOK mPg_isBegun := ⟨by decide +kernel, by decide +kernel⟩
def bPg_bottom : List BLK := [
  (0, [(0, .aload_n 0, 0, 0, 0), (1, .getfield 34, 3, 0, 189), (4, .getfield 45, 1, 6, 142), (7, .iconst 3, 3, 0, 0), (8, .isub, 0, 0, 0)], (9, .ireturn, 0, 0, 0))]
def mPg_bottom : MR := (⟨"PageFormatter$Pages", "bottom", "()I"⟩, prog_5_method_4_code, 1, (Option.some Jvm.ClassFile.FieldType.int), 0, 0, bPg_bottom, 433, 432, 7, 60, 0)
set_option maxRecDepth 100000 in
theorem okPg_bottom : MOK mPg_bottom := ⟨by decide +kernel, by decide +kernel⟩
def bPg_openLine : List BLK := [
  (0, [(0, .aload_n 0, 0, 0, 0)], (1, .invokevirtual 50, 0, 4, 429)),
  (4, [], (4, .ifCond .eq 14, 18, 7, 0)),
  (7, [(7, .aload_n 0, 0, 0, 0), (8, .getfield 21, 3, 4, 195), (11, .aload_n 0, 0, 0, 0)], (12, .invokevirtual 54, 0, 15, 430)),
  (15, [], (15, .if_icmp .le 7, 22, 18, 0)),
  (18, [(18, .aload_n 0, 0, 0, 0)], (19, .invokevirtual 58, 0, 22, 434)),
  (22, [(22, .iload_n 1, 0, 0, 0)], (23, .ifCond .ne 19, 42, 26, 0)),
  (26, [(26, .aload_n 0, 0, 0, 0), (27, .getfield 38, 3, 1, 190), (30, .bipush 32, 32, 0, 0), (32, .aload_n 0, 0, 0, 0), (33, .getfield 34, 3, 0, 189), (36, .getfield 61, 1, 2, 132)], (39, .invokevirtual 64, 0, 42, 448)),
  (42, [], (42, .return_, 0, 0, 0))]
def mPg_openLine : MR := (⟨"PageFormatter$Pages", "openLine", "(Z)V"⟩, prog_5_method_5_code, 2, (Option.none : Option Jvm.ClassFile.FieldType), 3, 65, bPg_openLine, 428, 426, 427, 60, 1)
set_option maxRecDepth 100000 in
theorem okPg_openLine : MOK mPg_openLine := ⟨by decide +kernel, by decide +kernel⟩
def bPg_closeLine : List BLK := [
  (0, [(0, .aload_n 0, 0, 0, 0), (1, .getfield 38, 3, 1, 190), (4, .bipush 10, 10, 0, 0)], (6, .invokevirtual 70, 0, 9, 475)),
  (9, [(9, .aload_n 0, 0, 0, 0), (10, .getfield 34, 3, 0, 189), (13, .aload_n 0, 0, 0, 0), (14, .getfield 34, 3, 0, 189), (17, .getfield 74, 1, 1, 129), (20, .putfield 61, 1, 2, 132), (23, .iconst 0, 0, 0, 0), (24, .aload_n 0, 0, 0, 0)], (25, .invokevirtual 54, 0, 28, 430)),
  (28, [(28, .aload_n 0, 0, 0, 0), (29, .getfield 21, 3, 4, 195), (32, .isub, 0, 0, 0)], (33, .invokestatic 77, 0, 36, 476)),
  (36, [(36, .istore_n 1, 0, 0, 0), (37, .aload_n 0, 0, 0, 0), (38, .getfield 38, 3, 1, 190), (41, .bipush 10, 10, 0, 0), (43, .aload_n 0, 0, 0, 0), (44, .getfield 34, 3, 0, 189), (47, .getfield 83, 1, 3, 135), (50, .iconst 1, 1, 0, 0), (51, .isub, 0, 0, 0), (52, .iload_n 1, 0, 0, 0)], (53, .invokestatic 86, 0, 56, 477)),
  (56, [], (56, .invokevirtual 64, 0, 59, 448)),
  (59, [(59, .aload_n 0, 0, 0, 0), (60, .dup, 0, 0, 0), (61, .getfield 31, 3, 7, 201), (64, .iconst 1, 1, 0, 0), (65, .iadd, 0, 0, 0), (66, .putfield 31, 3, 7, 201), (69, .aload_n 0, 0, 0, 0), (70, .aload_n 0, 0, 0, 0), (71, .getfield 34, 3, 0, 189), (74, .getfield 83, 1, 3, 135)], (77, .invokevirtual 89, 0, 80, 478)),
  (80, [], (80, .return_, 0, 0, 0))]
def mPg_closeLine : MR := (⟨"PageFormatter$Pages", "closeLine", "()V"⟩, prog_5_method_6_code, 2, (Option.none : Option Jvm.ClassFile.FieldType), 3, 66, bPg_closeLine, 474, 472, 473, 60, 0)
set_option maxRecDepth 100000 in
theorem okPg_closeLine : MOK mPg_closeLine := ⟨by decide +kernel, by decide +kernel⟩
def bPg_skip : List BLK := [
  (0, [(0, .aload_n 0, 0, 0, 0), (1, .getfield 21, 3, 4, 195), (4, .aload_n 0, 0, 0, 0)], (5, .invokevirtual 54, 0, 8, 430)),
  (8, [], (8, .if_icmp .le 4, 12, 11, 0)),
  (11, [], (11, .return_, 0, 0, 0)),
  (12, [(12, .aload_n 0, 0, 0, 0)], (13, .invokevirtual 50, 0, 16, 429)),
  (16, [], (16, .ifCond .ne 7, 23, 19, 0)),
  (19, [(19, .aload_n 0, 0, 0, 0)], (20, .invokevirtual 58, 0, 23, 434)),
  (23, [(23, .aload_n 0, 0, 0, 0), (24, .getfield 38, 3, 1, 190), (27, .bipush 10, 10, 0, 0), (29, .iload_n 1, 0, 0, 0), (30, .aload_n 0, 0, 0, 0)], (31, .invokevirtual 54, 0, 34, 430)),
  (34, [(34, .iconst 1, 1, 0, 0), (35, .iadd, 0, 0, 0), (36, .aload_n 0, 0, 0, 0), (37, .getfield 21, 3, 4, 195), (40, .isub, 0, 0, 0)], (41, .invokestatic 86, 0, 44, 477)),
  (44, [], (44, .invokevirtual 64, 0, 47, 448)),
  (47, [(47, .aload_n 0, 0, 0, 0), (48, .iload_n 1, 0, 0, 0)], (49, .invokevirtual 89, 0, 52, 478)),
  (52, [], (52, .return_, 0, 0, 0))]
def mPg_skip : MR := (⟨"PageFormatter$Pages", "skip", "(I)V"⟩, prog_5_method_7_code, 2, (Option.none : Option Jvm.ClassFile.FieldType), 3, 66, bPg_skip, 508, 506, 507, 60, 1)
set_option maxRecDepth 100000 in
theorem okPg_skip : MOK mPg_skip := ⟨by decide +kernel, by decide +kernel⟩
def bPg_begin : List BLK := [
  (0, [(0, .aload_n 0, 0, 0, 0), (1, .aload_n 0, 0, 0, 0), (2, .getfield 28, 3, 6, 199), (5, .putfield 25, 3, 5, 197), (8, .aload_n 0, 0, 0, 0), (9, .dup, 0, 0, 0), (10, .getfield 28, 3, 6, 199), (13, .iconst 1, 1, 0, 0), (14, .iadd, 0, 0, 0), (15, .putfield 28, 3, 6, 199), (18, .aload_n 0, 0, 0, 0), (19, .getfield 38, 3, 1, 190), (22, .aload_n 0, 0, 0, 0), (23, .getfield 12, 3, 2, 191), (26, .aload_n 0, 0, 0, 0), (27, .getfield 25, 3, 5, 197)], (30, .invokevirtual 92, 0, 33, 438)),
  (33, [(33, .aload_n 0, 0, 0, 0), (34, .iconst 4, 4, 0, 0), (35, .putfield 21, 3, 4, 195)], (38, .return_, 0, 0, 0))]
def mPg_begin : MR := (⟨"PageFormatter$Pages", "begin", "()V"⟩, prog_5_method_8_code, 1, (Option.none : Option Jvm.ClassFile.FieldType), 2, 45, bPg_begin, 437, 436, 8, 60, 0)
set_option maxRecDepth 100000 in
theorem okPg_begin : MOK mPg_begin := ⟨by decide +kernel, by decide +kernel⟩
def bPg_goDown : List BLK := [
  (0, [(0, .aload_n 0, 0, 0, 0), (1, .dup, 0, 0, 0), (2, .getfield 21, 3, 4, 195), (5, .iload_n 1, 0, 0, 0), (6, .iadd, 0, 0, 0), (7, .putfield 21, 3, 4, 195), (10, .aload_n 0, 0, 0, 0), (11, .getfield 21, 3, 4, 195), (14, .aload_n 0, 0, 0, 0)], (15, .invokevirtual 54, 0, 18, 430)),
  (18, [], (18, .if_icmp .le 18, 36, 21, 0)),
  (21, [(21, .aload_n 0, 0, 0, 0), (22, .getfield 38, 3, 1, 190), (25, .aload_n 0, 0, 0, 0), (26, .getfield 18, 3, 3, 193), (29, .aload_n 0, 0, 0, 0), (30, .getfield 25, 3, 5, 197)], (33, .invokevirtual 92, 0, 36, 438)),
  (36, [], (36, .return_, 0, 0, 0))]
def mPg_goDown : MR := (⟨"PageFormatter$Pages", "goDown", "(I)V"⟩, prog_5_method_9_code, 2, (Option.none : Option Jvm.ClassFile.FieldType), 2, 45, bPg_goDown, 481, 480, 10, 60, 1)
set_option maxRecDepth 100000 in
theorem okPg_goDown : MOK mPg_goDown := ⟨by decide +kernel, by decide +kernel⟩
