def bCm_read : List BLK := [
  (0, [(0, .aload_n 0, 0, 0, 0), (1, .aload_n 1, 0, 0, 0), (2, .getfield 26, 6, 1, 82), (5, .iconst 3, 3, 0, 0)], (6, .if_icmp .ge 7, 13, 9, 0)),
  (9, [(9, .iconst 0, 0, 0, 0)], (10, .goto 17, 27, 13, 0)),
  (13, [(13, .aload_n 1, 0, 0, 0), (14, .iconst 1, 1, 0, 0)], (15, .invokevirtual 31, 0, 18, 332)),
  (18, [(18, .bipush 8, 8, 0, 0), (20, .ishl, 0, 0, 0), (21, .aload_n 1, 0, 0, 0), (22, .iconst 2, 2, 0, 0)], (23, .invokevirtual 31, 0, 26, 332)),
  (26, [(26, .ior, 0, 0, 0)], (27, .nop, 0, 0, 0)),
  (27, [(27, .putfield 9, 0, 0, 98), (30, .aload_n 0, 0, 0, 0), (31, .aload_n 1, 0, 0, 0), (32, .iconst 3, 3, 0, 0)], (33, .invokevirtual 35, 0, 36, 333)),
  (36, [(36, .putfield 13, 0, 1, 100), (39, .aload_n 0, 0, 0, 0), (40, .aload_n 1, 0, 0, 0)], (41, .invokevirtual 38, 0, 44, 338)),
  (44, [], (44, .return_, 0, 0, 0))]
def mCm_read : MR := (⟨"PageFormatter$Command", "read", "(LPageFormatter$Text;)V"⟩, prog_2_method_2_code, 2, (Option.none : Option Jvm.ClassFile.FieldType), 2, 45, bCm_read, 331, 329, 330, 57, 1)
set_option maxRecDepth 100000 in
theorem okCm_read : MOK mCm_read := ⟨by decide +kernel, by decide +kernel⟩
def bCm_readNumber : List BLK := [
  (0, [(0, .aload_n 0, 0, 0, 0), (1, .aload_n 1, 0, 0, 0), (2, .aload_n 0, 0, 0, 0), (3, .getfield 13, 0, 1, 100)], (6, .invokevirtual 31, 0, 9, 332)),
  (9, [(9, .putfield 16, 0, 2, 102), (12, .aload_n 0, 0, 0, 0), (13, .getfield 16, 0, 2, 102), (16, .bipush 43, 43, 0, 0)], (18, .if_icmp .eq 12, 30, 21, 0)),
  (21, [(21, .aload_n 0, 0, 0, 0), (22, .getfield 16, 0, 2, 102), (25, .bipush 45, 45, 0, 0)], (27, .if_icmp .ne 7, 34, 30, 0)),
  (30, [(30, .iconst 1, 1, 0, 0)], (31, .goto 4, 35, 34, 0)),
  (34, [(34, .iconst 0, 0, 0, 0)], (35, .nop, 0, 0, 0)),
  (35, [(35, .istore_n 2, 0, 0, 0), (36, .iload_n 2, 0, 0, 0)], (37, .ifCond .eq 12, 49, 40, 0)),
  (40, [(40, .aload_n 0, 0, 0, 0), (41, .getfield 13, 0, 1, 100), (44, .iconst 1, 1, 0, 0), (45, .iadd, 0, 0, 0)], (46, .goto 7, 53, 49, 0)),
  (49, [(49, .aload_n 0, 0, 0, 0), (50, .getfield 13, 0, 1, 100)], (53, .nop, 0, 0, 0)),
  (53, [(53, .istore_n 3, 0, 0, 0), (54, .iconst 0, 0, 0, 0), (55, .istore 4, 0, 0, 0), (57, .aload_n 0, 0, 0, 0), (58, .iconst 0, 0, 0, 0), (59, .putfield 19, 0, 3, 103)], (62, .nop, 0, 0, 0)),
  (62, [(62, .iload 4, 0, 0, 0), (64, .iconst 4, 4, 0, 0)], (65, .if_icmp .ge 46, 111, 68, 0)),
  (68, [(68, .aload_n 1, 0, 0, 0), (69, .iload_n 3, 0, 0, 0), (70, .iload 4, 0, 0, 0), (72, .iadd, 0, 0, 0)], (73, .invokevirtual 31, 0, 76, 332)),
  (76, [], (76, .invokestatic 42, 0, 79, 342)),
  (79, [], (79, .ifCond .eq 32, 111, 82, 0)),
  (82, [(82, .aload_n 0, 0, 0, 0), (83, .aload_n 0, 0, 0, 0), (84, .getfield 19, 0, 3, 103), (87, .bipush 10, 10, 0, 0), (89, .imul, 0, 0, 0), (90, .aload_n 1, 0, 0, 0), (91, .iload_n 3, 0, 0, 0), (92, .iload 4, 0, 0, 0), (94, .iadd, 0, 0, 0)], (95, .invokevirtual 31, 0, 98, 332)),
  (98, [(98, .iadd, 0, 0, 0), (99, .bipush 48, 48, 0, 0), (101, .isub, 0, 0, 0), (102, .putfield 19, 0, 3, 103), (105, .iinc 4 1, 1, 0, 0)], (108, .goto (-46), 62, 111, 0)),
  (111, [(111, .aload_n 0, 0, 0, 0), (112, .iload 4, 0, 0, 0)], (114, .ifCond .le 7, 121, 117, 0)),
  (117, [(117, .iconst 1, 1, 0, 0)], (118, .goto 4, 122, 121, 0)),
  (121, [(121, .iconst 0, 0, 0, 0)], (122, .nop, 0, 0, 0)),
  (122, [(122, .putfield 22, 0, 4, 104)], (125, .return_, 0, 0, 0))]
def mCm_readNumber : MR := (⟨"PageFormatter$Command", "readNumber", "(LPageFormatter$Text;)V"⟩, prog_2_method_3_code, 5, (Option.none : Option Jvm.ClassFile.FieldType), 1, 21, bCm_readNumber, 341, 340, 0, 57, 1)
set_option maxRecDepth 100000 in
theorem okCm_readNumber : MOK mCm_readNumber := ⟨by decide +kernel, by decide +kernel⟩
def bCm_isDigit : List BLK := [
  (0, [(0, .iload_n 0, 0, 0, 0), (1, .bipush 48, 48, 0, 0)], (3, .if_icmp .lt 13, 16, 6, 0)),
  (6, [(6, .iload_n 0, 0, 0, 0), (7, .bipush 57, 57, 0, 0)], (9, .if_icmp .gt 7, 16, 12, 0)),
  (12, [(12, .iconst 1, 1, 0, 0)], (13, .goto 4, 17, 16, 0)),
  (16, [(16, .iconst 0, 0, 0, 0)], (17, .nop, 0, 0, 0)),
  (17, [], (17, .ireturn, 0, 0, 0))]
def mCm_isDigit : MR := (⟨"PageFormatter$Command", "isDigit", "(I)Z"⟩, prog_2_method_4_code, 1, (Option.some Jvm.ClassFile.FieldType.boolean), 0, 0, bCm_isDigit, 344, 343, 0, 57, 1)
set_option maxRecDepth 100000 in
theorem okCm_isDigit : MOK mCm_isDigit := ⟨by decide +kernel, by decide +kernel⟩
def bCm_set : List BLK := [
  (0, [(0, .aload_n 0, 0, 0, 0), (1, .getfield 19, 0, 3, 103), (4, .istore 5, 0, 0, 0), (6, .aload_n 0, 0, 0, 0), (7, .getfield 22, 0, 4, 104)], (10, .ifCond .ne 9, 19, 13, 0)),
  (13, [(13, .iload_n 2, 0, 0, 0), (14, .istore 5, 0, 0, 0)], (16, .goto 40, 56, 19, 0)),
  (19, [(19, .aload_n 0, 0, 0, 0), (20, .getfield 16, 0, 2, 102), (23, .bipush 43, 43, 0, 0)], (25, .if_icmp .ne 14, 39, 28, 0)),
  (28, [(28, .iload_n 1, 0, 0, 0), (29, .aload_n 0, 0, 0, 0), (30, .getfield 19, 0, 3, 103), (33, .iadd, 0, 0, 0), (34, .istore 5, 0, 0, 0)], (36, .goto 20, 56, 39, 0)),
  (39, [(39, .aload_n 0, 0, 0, 0), (40, .getfield 16, 0, 2, 102), (43, .bipush 45, 45, 0, 0)], (45, .if_icmp .ne 11, 56, 48, 0)),
  (48, [(48, .iload_n 1, 0, 0, 0), (49, .aload_n 0, 0, 0, 0), (50, .getfield 19, 0, 3, 103), (53, .isub, 0, 0, 0), (54, .istore 5, 0, 0, 0)], (56, .nop, 0, 0, 0)),
  (56, [(56, .iload_n 3, 0, 0, 0), (57, .iload 4, 0, 0, 0), (59, .iload 5, 0, 0, 0)], (61, .invokestatic 46, 0, 64, 494)),
  (64, [], (64, .invokestatic 52, 0, 67, 495)),
  (67, [], (67, .ireturn, 0, 0, 0))]
def mCm_set : MR := (⟨"PageFormatter$Command", "set", "(IIII)I"⟩, prog_2_method_5_code, 6, (Option.some Jvm.ClassFile.FieldType.int), 1, 21, bCm_set, 493, 491, 492, 57, 4)
set_option maxRecDepth 100000 in
theorem okCm_set : MOK mCm_set := ⟨by decide +kernel, by decide +kernel⟩
