def bOu_byteAt : List BLK := [
  (0, [(0, .iload_n 1, 0, 0, 0)], (1, .ifCond .lt 20, 21, 4, 0)),
  (4, [(4, .iload_n 1, 0, 0, 0), (5, .aload_n 0, 0, 0, 0), (6, .getfield 15, 2, 1, 174)], (9, .if_icmp .ge 12, 21, 12, 0)),
  (12, [(12, .aload_n 0, 0, 0, 0), (13, .getfield 9, 2, 0, 173), (16, .iload_n 1, 0, 0, 0), (17, .baload, 0, 0, 0)], (18, .goto 4, 22, 21, 0)),
  (21, [(21, .iconst (-1), 0, 1, 0)], (22, .nop, 0, 0, 0)),
  (22, [], (22, .ireturn, 0, 0, 0))]
def mOu_byteAt : MR := (⟨"PageFormatter$Output", "byteAt", "(I)I"⟩, prog_4_method_2_code, 2, (Option.some Jvm.ClassFile.FieldType.int), 0, 0, bOu_byteAt, 607, 605, 606, 59, 1)
set_option maxRecDepth 100000 in
theorem okOu_byteAt : MOK mOu_byteAt := ⟨by decide +kernel, by decide +kernel⟩
def bOu_put : List BLK := [
  (0, [(0, .aload_n 0, 0, 0, 0), (1, .getfield 15, 2, 1, 174), (4, .aload_n 0, 0, 0, 0), (5, .getfield 9, 2, 0, 173), (8, .arraylength, 0, 0, 0)], (9, .if_icmp .ge 24, 33, 12, 0)),
  (12, [(12, .aload_n 0, 0, 0, 0), (13, .getfield 9, 2, 0, 173), (16, .aload_n 0, 0, 0, 0), (17, .getfield 15, 2, 1, 174), (20, .iload_n 1, 0, 0, 0), (21, .i2b, 0, 0, 0), (22, .bastore, 0, 0, 0), (23, .aload_n 0, 0, 0, 0), (24, .dup, 0, 0, 0), (25, .getfield 15, 2, 1, 174), (28, .iconst 1, 1, 0, 0), (29, .iadd, 0, 0, 0), (30, .putfield 15, 2, 1, 174)], (33, .nop, 0, 0, 0)),
  (33, [], (33, .return_, 0, 0, 0))]
def mOu_put : MR := (⟨"PageFormatter$Output", "put", "(I)V"⟩, prog_4_method_3_code, 2, (Option.none : Option Jvm.ClassFile.FieldType), 0, 0, bOu_put, 445, 443, 444, 59, 1)
set_option maxRecDepth 100000 in
theorem okOu_put : MOK mOu_put := ⟨by decide +kernel, by decide +kernel⟩
def bOu_repeat : List BLK := [
  (0, [(0, .iconst 0, 0, 0, 0), (1, .istore_n 3, 0, 0, 0)], (2, .nop, 0, 0, 0)),
  (2, [(2, .iload_n 3, 0, 0, 0), (3, .iload_n 2, 0, 0, 0)], (4, .if_icmp .ge 14, 18, 7, 0)),
  (7, [(7, .aload_n 0, 0, 0, 0), (8, .iload_n 1, 0, 0, 0)], (9, .invokevirtual 19, 0, 12, 442)),
  (12, [(12, .iinc 3 1, 1, 0, 0)], (15, .goto (-13), 2, 18, 0)),
  (18, [], (18, .return_, 0, 0, 0))]
def mOu_repeat : MR := (⟨"PageFormatter$Output", "repeat", "(II)V"⟩, prog_4_method_4_code, 4, (Option.none : Option Jvm.ClassFile.FieldType), 1, 21, bOu_repeat, 451, 449, 450, 59, 2)
set_option maxRecDepth 100000 in
theorem okOu_repeat : MOK mOu_repeat := ⟨by decide +kernel, by decide +kernel⟩
def bOu_putBytes : List BLK := [
  (0, [(0, .iconst 0, 0, 0, 0), (1, .iload_n 2, 0, 0, 0)], (2, .invokestatic 23, 0, 5, 469)),
  (5, [(5, .istore 5, 0, 0, 0)], (7, .nop, 0, 0, 0)),
  (7, [(7, .iload 5, 0, 0, 0), (9, .iload_n 3, 0, 0, 0)], (10, .if_icmp .ge 50, 60, 13, 0)),
  (13, [(13, .iload 5, 0, 0, 0), (15, .aload_n 1, 0, 0, 0), (16, .arraylength, 0, 0, 0)], (17, .if_icmp .ge 43, 60, 20, 0)),
  (20, [(20, .iload 4, 0, 0, 0)], (22, .ifCond .eq 24, 46, 25, 0)),
  (25, [(25, .aload_n 1, 0, 0, 0), (26, .iload 5, 0, 0, 0), (28, .baload, 0, 0, 0), (29, .bipush 32, 32, 0, 0)], (31, .if_icmp .eq 15, 46, 34, 0)),
  (34, [(34, .aload_n 0, 0, 0, 0), (35, .bipush 95, 95, 0, 0)], (37, .invokevirtual 19, 0, 40, 442)),
  (40, [(40, .aload_n 0, 0, 0, 0), (41, .bipush 8, 8, 0, 0)], (43, .invokevirtual 19, 0, 46, 442)),
  (46, [(46, .aload_n 0, 0, 0, 0), (47, .aload_n 1, 0, 0, 0), (48, .iload 5, 0, 0, 0), (50, .baload, 0, 0, 0)], (51, .invokevirtual 19, 0, 54, 442)),
  (54, [(54, .iinc 5 1, 1, 0, 0)], (57, .goto (-50), 7, 60, 0)),
  (60, [], (60, .return_, 0, 0, 0))]
def mOu_putBytes : MR := (⟨"PageFormatter$Output", "putBytes", "([BIIZ)V"⟩, prog_4_method_5_code, 6, (Option.none : Option Jvm.ClassFile.FieldType), 1, 21, bOu_putBytes, 468, 466, 467, 59, 4)
set_option maxRecDepth 100000 in
theorem okOu_putBytes : MOK mOu_putBytes := ⟨by decide +kernel, by decide +kernel⟩
def bOu_putMargin : List BLK := [
  (0, [(0, .aload_n 0, 0, 0, 0), (1, .bipush 10, 10, 0, 0)], (3, .invokevirtual 19, 0, 6, 442)),
  (6, [(6, .iconst 0, 0, 0, 0), (7, .istore_n 3, 0, 0, 0)], (8, .nop, 0, 0, 0)),
  (8, [(8, .iload_n 3, 0, 0, 0), (9, .aload_n 1, 0, 0, 0), (10, .getfield 29, 6, 1, 85)], (13, .if_icmp .ge 76, 89, 16, 0)),
  (16, [(16, .aload_n 1, 0, 0, 0), (17, .iload_n 3, 0, 0, 0)], (18, .invokevirtual 32, 0, 21, 446)),
  (21, [(21, .bipush 35, 35, 0, 0)], (23, .if_icmp .eq 15, 38, 26, 0)),
  (26, [(26, .aload_n 0, 0, 0, 0), (27, .aload_n 1, 0, 0, 0), (28, .iload_n 3, 0, 0, 0)], (29, .invokevirtual 32, 0, 32, 446)),
  (32, [], (32, .invokevirtual 19, 0, 35, 442)),
  (35, [], (35, .goto 48, 83, 38, 0)),
  (38, [(38, .ldc 36, 1000000000, 0, 447), (40, .istore 4, 0, 0, 0)], (42, .nop, 0, 0, 0)),
  (42, [(42, .iload 4, 0, 0, 0)], (44, .ifCond .le 39, 83, 47, 0)),
  (47, [(47, .iload_n 2, 0, 0, 0), (48, .iload 4, 0, 0, 0)], (50, .if_icmp .ge 9, 59, 53, 0)),
  (53, [(53, .iload 4, 0, 0, 0), (55, .iconst 1, 1, 0, 0)], (56, .if_icmp .ne 17, 73, 59, 0)),
  (59, [(59, .aload_n 0, 0, 0, 0), (60, .bipush 48, 48, 0, 0), (62, .iload_n 2, 0, 0, 0), (63, .iload 4, 0, 0, 0), (65, .idiv, 0, 0, 0), (66, .bipush 10, 10, 0, 0), (68, .irem, 0, 0, 0), (69, .iadd, 0, 0, 0)], (70, .invokevirtual 19, 0, 73, 442)),
  (73, [(73, .iload 4, 0, 0, 0), (75, .bipush 10, 10, 0, 0), (77, .idiv, 0, 0, 0), (78, .istore 4, 0, 0, 0)], (80, .goto (-38), 42, 83, 0)),
  (83, [(83, .iinc 3 1, 1, 0, 0)], (86, .goto (-78), 8, 89, 0)),
  (89, [(89, .aload_n 0, 0, 0, 0), (90, .bipush 10, 10, 0, 0)], (92, .invokevirtual 19, 0, 95, 442)),
  (95, [(95, .aload_n 0, 0, 0, 0), (96, .bipush 10, 10, 0, 0)], (98, .invokevirtual 19, 0, 101, 442)),
  (101, [], (101, .return_, 0, 0, 0))]
def mOu_putMargin : MR := (⟨"PageFormatter$Output", "putMargin", "(LPageFormatter$Text;I)V"⟩, prog_4_method_6_code, 5, (Option.none : Option Jvm.ClassFile.FieldType), 1, 21, bOu_putMargin, 441, 439, 440, 59, 2)
set_option maxRecDepth 100000 in
theorem okOu_putMargin : MOK mOu_putMargin := ⟨by decide +kernel, by decide +kernel⟩
