def bTx_add : List BLK := [
  (0, [(0, .aload_n 0, 0, 0, 0), (1, .getfield 15, 6, 1, 81), (4, .aload_n 0, 0, 0, 0), (5, .getfield 9, 6, 0, 79), (8, .arraylength, 0, 0, 0)], (9, .if_icmp .ge 24, 33, 12, 0)),
  (12, [(12, .aload_n 0, 0, 0, 0), (13, .getfield 9, 6, 0, 79), (16, .aload_n 0, 0, 0, 0), (17, .getfield 15, 6, 1, 81), (20, .iload_n 1, 0, 0, 0), (21, .i2b, 0, 0, 0), (22, .bastore, 0, 0, 0), (23, .aload_n 0, 0, 0, 0), (24, .dup, 0, 0, 0), (25, .getfield 15, 6, 1, 81), (28, .iconst 1, 1, 0, 0), (29, .iadd, 0, 0, 0), (30, .putfield 15, 6, 1, 81)], (33, .nop, 0, 0, 0)),
  (33, [], (33, .return_, 0, 0, 0))]
def mTx_add : MR := (⟨"PageFormatter$Text", "add", "(I)V"⟩, prog_8_method_2_code, 2, (Option.none : Option Jvm.ClassFile.FieldType), 0, 0, bTx_add, 319, 317, 318, 56, 1)
set_option maxRecDepth 100000 in
theorem okTx_add : MOK mTx_add := ⟨by decide +kernel, by decide +kernel⟩
def bTx_byteAt : List BLK := [
  (0, [(0, .iload_n 1, 0, 0, 0)], (1, .ifCond .lt 20, 21, 4, 0)),
  (4, [(4, .iload_n 1, 0, 0, 0), (5, .aload_n 0, 0, 0, 0), (6, .getfield 15, 6, 1, 81)], (9, .if_icmp .ge 12, 21, 12, 0)),
  (12, [(12, .aload_n 0, 0, 0, 0), (13, .getfield 9, 6, 0, 79), (16, .iload_n 1, 0, 0, 0), (17, .baload, 0, 0, 0)], (18, .goto 4, 22, 21, 0)),
  (21, [(21, .iconst (-1), 0, 1, 0)], (22, .nop, 0, 0, 0)),
  (22, [], (22, .ireturn, 0, 0, 0))]
def mTx_byteAt : MR := (⟨"PageFormatter$Text", "byteAt", "(I)I"⟩, prog_8_method_3_code, 2, (Option.some Jvm.ClassFile.FieldType.int), 0, 0, bTx_byteAt, 327, 325, 326, 56, 1)
set_option maxRecDepth 100000 in
theorem okTx_byteAt : MOK mTx_byteAt := ⟨by decide +kernel, by decide +kernel⟩
def bTx_leadingBlanks : List BLK := [
  (0, [(0, .aload_n 0, 0, 0, 0), (1, .iconst 0, 0, 0, 0)], (2, .invokevirtual 19, 0, 5, 526)),
  (5, [], (5, .ireturn, 0, 0, 0))]
def mTx_leadingBlanks : MR := (⟨"PageFormatter$Text", "leadingBlanks", "()I"⟩, prog_8_method_4_code, 1, (Option.some Jvm.ClassFile.FieldType.int), 2, 43, bTx_leadingBlanks, 525, 523, 524, 56, 0)
set_option maxRecDepth 100000 in
theorem okTx_leadingBlanks : MOK mTx_leadingBlanks := ⟨by decide +kernel, by decide +kernel⟩
def bTx_passBlanks : List BLK := [
  (0, [(0, .iload_n 1, 0, 0, 0), (1, .istore_n 2, 0, 0, 0)], (2, .nop, 0, 0, 0)),
  (2, [(2, .iload_n 2, 0, 0, 0), (3, .aload_n 0, 0, 0, 0), (4, .getfield 15, 6, 1, 81)], (7, .if_icmp .ge 19, 26, 10, 0)),
  (10, [(10, .aload_n 0, 0, 0, 0), (11, .iload_n 2, 0, 0, 0)], (12, .invokevirtual 23, 0, 15, 337)),
  (15, [(15, .bipush 32, 32, 0, 0)], (17, .if_icmp .ne 9, 26, 20, 0)),
  (20, [(20, .iinc 2 1, 1, 0, 0)], (23, .goto (-21), 2, 26, 0)),
  (26, [(26, .iload_n 2, 0, 0, 0)], (27, .ireturn, 0, 0, 0))]
def mTx_passBlanks : MR := (⟨"PageFormatter$Text", "passBlanks", "(I)I"⟩, prog_8_method_5_code, 3, (Option.some Jvm.ClassFile.FieldType.int), 1, 21, bTx_passBlanks, 336, 334, 335, 56, 1)
set_option maxRecDepth 100000 in
theorem okTx_passBlanks : MOK mTx_passBlanks := ⟨by decide +kernel, by decide +kernel⟩
def bTx_hasLetters : List BLK := [
  (0, [(0, .iload_n 1, 0, 0, 0), (1, .istore_n 3, 0, 0, 0)], (2, .nop, 0, 0, 0)),
  (2, [(2, .iload_n 3, 0, 0, 0), (3, .iload_n 2, 0, 0, 0)], (4, .if_icmp .ge 21, 25, 7, 0)),
  (7, [(7, .aload_n 0, 0, 0, 0), (8, .iload_n 3, 0, 0, 0)], (9, .invokevirtual 23, 0, 12, 337)),
  (12, [(12, .bipush 94, 94, 0, 0)], (14, .if_icmp .eq 5, 19, 17, 0)),
  (17, [(17, .iconst 1, 1, 0, 0)], (18, .ireturn, 0, 0, 0)),
  (19, [(19, .iinc 3 1, 1, 0, 0)], (22, .goto (-20), 2, 25, 0)),
  (25, [(25, .iconst 0, 0, 0, 0)], (26, .ireturn, 0, 0, 0))]
def mTx_hasLetters : MR := (⟨"PageFormatter$Text", "hasLetters", "(II)Z"⟩, prog_8_method_6_code, 4, (Option.some Jvm.ClassFile.FieldType.boolean), 1, 21, bTx_hasLetters, 569, 567, 568, 56, 2)
set_option maxRecDepth 100000 in
theorem okTx_hasLetters : MOK mTx_hasLetters := ⟨by decide +kernel, by decide +kernel⟩
def bTx_copyFrom : List BLK := [
  (0, [(0, .aload_n 0, 0, 0, 0), (1, .iconst 0, 0, 0, 0), (2, .putfield 15, 6, 1, 81), (5, .iload_n 2, 0, 0, 0), (6, .istore_n 3, 0, 0, 0)], (7, .nop, 0, 0, 0)),
  (7, [(7, .iload_n 3, 0, 0, 0), (8, .aload_n 1, 0, 0, 0), (9, .getfield 15, 6, 1, 81)], (12, .if_icmp .ge 18, 30, 15, 0)),
  (15, [(15, .aload_n 0, 0, 0, 0), (16, .aload_n 1, 0, 0, 0), (17, .iload_n 3, 0, 0, 0)], (18, .invokevirtual 23, 0, 21, 337)),
  (21, [], (21, .invokevirtual 26, 0, 24, 517)),
  (24, [(24, .iinc 3 1, 1, 0, 0)], (27, .goto (-20), 7, 30, 0)),
  (30, [], (30, .return_, 0, 0, 0))]
def mTx_copyFrom : MR := (⟨"PageFormatter$Text", "copyFrom", "(LPageFormatter$Text;I)V"⟩, prog_8_method_7_code, 4, (Option.none : Option Jvm.ClassFile.FieldType), 1, 21, bTx_copyFrom, 516, 514, 515, 56, 2)
set_option maxRecDepth 100000 in
theorem okTx_copyFrom : MOK mTx_copyFrom := ⟨by decide +kernel, by decide +kernel⟩
def bTx_dropFirst : List BLK := [
  (0, [(0, .aload_n 0, 0, 0, 0), (1, .getfield 15, 6, 1, 81), (4, .istore_n 2, 0, 0, 0), (5, .aload_n 0, 0, 0, 0), (6, .iconst 0, 0, 0, 0), (7, .putfield 15, 6, 1, 81), (10, .iload_n 1, 0, 0, 0), (11, .istore_n 3, 0, 0, 0)], (12, .nop, 0, 0, 0)),
  (12, [(12, .iload_n 3, 0, 0, 0), (13, .iload_n 2, 0, 0, 0)], (14, .if_icmp .ge 28, 42, 17, 0)),
  (17, [(17, .iload_n 3, 0, 0, 0), (18, .aload_n 0, 0, 0, 0), (19, .getfield 9, 6, 0, 79), (22, .arraylength, 0, 0, 0)], (23, .if_icmp .ge 19, 42, 26, 0)),
  (26, [(26, .aload_n 0, 0, 0, 0), (27, .aload_n 0, 0, 0, 0), (28, .getfield 9, 6, 0, 79), (31, .iload_n 3, 0, 0, 0), (32, .baload, 0, 0, 0)], (33, .invokevirtual 26, 0, 36, 517)),
  (36, [(36, .iinc 3 1, 1, 0, 0)], (39, .goto (-27), 12, 42, 0)),
  (42, [], (42, .return_, 0, 0, 0))]
def mTx_dropFirst : MR := (⟨"PageFormatter$Text", "dropFirst", "(I)V"⟩, prog_8_method_8_code, 4, (Option.none : Option Jvm.ClassFile.FieldType), 1, 21, bTx_dropFirst, 539, 537, 538, 56, 1)
set_option maxRecDepth 100000 in
theorem okTx_dropFirst : MOK mTx_dropFirst := ⟨by decide +kernel, by decide +kernel⟩
def bTx_dropCarets : List BLK := [
  (0, [(0, .aload_n 0, 0, 0, 0), (1, .getfield 15, 6, 1, 81), (4, .istore_n 1, 0, 0, 0), (5, .aload_n 0, 0, 0, 0), (6, .iconst 0, 0, 0, 0), (7, .putfield 15, 6, 1, 81), (10, .iconst 0, 0, 0, 0), (11, .istore_n 2, 0, 0, 0)], (12, .nop, 0, 0, 0)),
  (12, [(12, .iload_n 2, 0, 0, 0), (13, .iload_n 1, 0, 0, 0)], (14, .if_icmp .ge 39, 53, 17, 0)),
  (17, [(17, .iload_n 2, 0, 0, 0), (18, .aload_n 0, 0, 0, 0), (19, .getfield 9, 6, 0, 79), (22, .arraylength, 0, 0, 0)], (23, .if_icmp .ge 30, 53, 26, 0)),
  (26, [(26, .aload_n 0, 0, 0, 0), (27, .getfield 9, 6, 0, 79), (30, .iload_n 2, 0, 0, 0), (31, .baload, 0, 0, 0), (32, .bipush 94, 94, 0, 0)], (34, .if_icmp .eq 13, 47, 37, 0)),
  (37, [(37, .aload_n 0, 0, 0, 0), (38, .aload_n 0, 0, 0, 0), (39, .getfield 9, 6, 0, 79), (42, .iload_n 2, 0, 0, 0), (43, .baload, 0, 0, 0)], (44, .invokevirtual 26, 0, 47, 517)),
  (47, [(47, .iinc 2 1, 1, 0, 0)], (50, .goto (-38), 12, 53, 0)),
  (53, [], (53, .return_, 0, 0, 0))]
def mTx_dropCarets : MR := (⟨"PageFormatter$Text", "dropCarets", "()V"⟩, prog_8_method_9_code, 3, (Option.none : Option Jvm.ClassFile.FieldType), 1, 21, bTx_dropCarets, 551, 549, 550, 56, 0)
set_option maxRecDepth 100000 in
theorem okTx_dropCarets : MOK mTx_dropCarets := ⟨by decide +kernel, by decide +kernel⟩
def bTx_dropEndBlanks : List BLK := [
  (0, [(0, .aload_n 0, 0, 0, 0), (1, .getfield 15, 6, 1, 81)], (4, .ifCond .le 31, 35, 7, 0)),
  (7, [(7, .aload_n 0, 0, 0, 0), (8, .aload_n 0, 0, 0, 0), (9, .getfield 15, 6, 1, 81), (12, .iconst 1, 1, 0, 0), (13, .isub, 0, 0, 0)], (14, .invokevirtual 23, 0, 17, 337)),
  (17, [(17, .bipush 32, 32, 0, 0)], (19, .if_icmp .ne 16, 35, 22, 0)),
  (22, [(22, .aload_n 0, 0, 0, 0), (23, .dup, 0, 0, 0), (24, .getfield 15, 6, 1, 81), (27, .iconst 1, 1, 0, 0), (28, .isub, 0, 0, 0), (29, .putfield 15, 6, 1, 81)], (32, .goto (-32), 0, 35, 0)),
  (35, [], (35, .return_, 0, 0, 0))]
def mTx_dropEndBlanks : MR := (⟨"PageFormatter$Text", "dropEndBlanks", "()V"⟩, prog_8_method_10_code, 1, (Option.none : Option Jvm.ClassFile.FieldType), 1, 21, bTx_dropEndBlanks, 555, 553, 554, 56, 0)
set_option maxRecDepth 100000 in
theorem okTx_dropEndBlanks : MOK mTx_dropEndBlanks := ⟨by decide +kernel, by decide +kernel⟩
