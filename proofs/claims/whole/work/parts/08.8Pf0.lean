def bPf_type : List BLK := [
  (0, [(0, .iload_n 3, 0, 0, 0), (1, .iconst 1, 1, 0, 0)], (2, .if_icmp .lt 9, 11, 5, 0)),
  (5, [(5, .iload_n 3, 0, 0, 0), (6, .bipush 8, 8, 0, 0)], (8, .if_icmp .le 6, 14, 11, 0)),
  (11, [(11, .bipush (-2), 1, 1, 0)], (13, .ireturn, 0, 0, 0)),
  (14, [(14, .aload_n 0, 0, 0, 0), (15, .getfield 12, 7, 0, 287), (18, .getfield 64, 6, 1, 84), (21, .iload_n 3, 0, 0, 0), (22, .iadd, 0, 0, 0), (23, .bipush 100, 100, 0, 0)], (25, .if_icmp .le 6, 31, 28, 0)),
  (28, [(28, .bipush (-3), 2, 1, 0)], (30, .ireturn, 0, 0, 0)),
  (31, [(31, .iconst 0, 0, 0, 0), (32, .istore 4, 0, 0, 0)], (34, .nop, 0, 0, 0)),
  (34, [(34, .iload 4, 0, 0, 0), (36, .iload_n 3, 0, 0, 0)], (37, .if_icmp .ge 46, 83, 40, 0)),
  (40, [(40, .lload_n 1, 0, 0, 0), (41, .bipush 8, 8, 0, 0), (43, .iload 4, 0, 0, 0), (45, .imul, 0, 0, 0), (46, .lushr, 0, 0, 0), (47, .l2i, 0, 0, 0), (48, .sipush 255, 255, 0, 0), (51, .iand, 0, 0, 0), (52, .istore 5, 0, 0, 0), (54, .iload 5, 0, 0, 0), (56, .bipush 32, 32, 0, 0)], (58, .if_icmp .lt 19, 77, 61, 0)),
  (61, [(61, .iload 5, 0, 0, 0), (63, .bipush 126, 126, 0, 0)], (65, .if_icmp .gt 12, 77, 68, 0)),
  (68, [(68, .aload_n 0, 0, 0, 0), (69, .getfield 12, 7, 0, 287), (72, .iload 5, 0, 0, 0)], (74, .invokevirtual 67, 0, 77, 316)),
  (77, [(77, .iinc 4 1, 1, 0, 0)], (80, .goto (-46), 34, 83, 0)),
  (83, [(83, .aload_n 0, 0, 0, 0), (84, .getfield 12, 7, 0, 287), (87, .getfield 64, 6, 1, 84)], (90, .ireturn, 0, 0, 0))]
def mPf_type : MR := (⟨"PageFormatter", "type", "(JI)I"⟩, prog_1_method_2_code, 6, (Option.some Jvm.ClassFile.FieldType.int), 1, 21, bPf_type, 315, 313, 314, 55, 2)
set_option maxRecDepth 100000 in
theorem okPf_type : MOK mPf_type := ⟨by decide +kernel, by decide +kernel⟩
def bPf_enter : List BLK := [
  (0, [(0, .aload_n 0, 0, 0, 0), (1, .getfield 42, 7, 4, 291), (4, .getfield 71, 3, 7, 202), (7, .istore_n 1, 0, 0, 0), (8, .aload_n 0, 0, 0, 0), (9, .getfield 12, 7, 0, 287), (12, .iconst 0, 0, 0, 0)], (13, .invokevirtual 74, 0, 16, 324)),
  (16, [(16, .bipush 46, 46, 0, 0)], (18, .if_icmp .ne 32, 50, 21, 0)),
  (21, [(21, .aload_n 0, 0, 0, 0), (22, .getfield 19, 7, 1, 288), (25, .aload_n 0, 0, 0, 0), (26, .getfield 12, 7, 0, 287)], (29, .invokevirtual 78, 0, 32, 328)),
  (32, [(32, .aload_n 0, 0, 0, 0)], (33, .invokevirtual 82, 0, 36, 345)),
  (36, [], (36, .ifCond .eq 7, 43, 39, 0)),
  (39, [(39, .aload_n 0, 0, 0, 0)], (40, .invokevirtual 86, 0, 43, 353)),
  (43, [(43, .aload_n 0, 0, 0, 0)], (44, .invokevirtual 89, 0, 47, 486)),
  (47, [], (47, .goto 7, 54, 50, 0)),
  (50, [(50, .aload_n 0, 0, 0, 0)], (51, .invokevirtual 92, 0, 54, 518)),
  (54, [(54, .aload_n 0, 0, 0, 0), (55, .getfield 12, 7, 0, 287), (58, .iconst 0, 0, 0, 0), (59, .putfield 64, 6, 1, 84), (62, .aload_n 0, 0, 0, 0), (63, .getfield 42, 7, 4, 291), (66, .getfield 71, 3, 7, 202), (69, .iload_n 1, 0, 0, 0), (70, .isub, 0, 0, 0)], (71, .ireturn, 0, 0, 0))]
def mPf_enter : MR := (⟨"PageFormatter", "enter", "()I"⟩, prog_1_method_3_code, 2, (Option.some Jvm.ClassFile.FieldType.int), 7, 171, bPf_enter, 323, 321, 322, 55, 0)
set_option maxRecDepth 100000 in
theorem okPf_enter : MOK mPf_enter := ⟨by decide +kernel, by decide +kernel⟩
def bPf_finish : List BLK := [
  (0, [(0, .aload_n 0, 0, 0, 0), (1, .getfield 42, 7, 4, 291), (4, .getfield 71, 3, 7, 202), (7, .istore_n 1, 0, 0, 0), (8, .aload_n 0, 0, 0, 0)], (9, .invokevirtual 86, 0, 12, 353)),
  (12, [(12, .aload_n 0, 0, 0, 0), (13, .getfield 42, 7, 4, 291)], (16, .invokevirtual 95, 0, 19, 349)),
  (19, [], (19, .ifCond .eq 12, 31, 22, 0)),
  (22, [(22, .aload_n 0, 0, 0, 0), (23, .getfield 42, 7, 4, 291), (26, .bipush 99, 99, 0, 0)], (28, .invokevirtual 98, 0, 31, 505)),
  (31, [(31, .aload_n 0, 0, 0, 0), (32, .getfield 12, 7, 0, 287), (35, .iconst 0, 0, 0, 0), (36, .putfield 64, 6, 1, 84), (39, .aload_n 0, 0, 0, 0), (40, .getfield 26, 7, 2, 289)], (43, .invokevirtual 101, 0, 46, 587)),
  (46, [(46, .aload_n 0, 0, 0, 0), (47, .getfield 42, 7, 4, 291)], (50, .invokevirtual 104, 0, 53, 588)),
  (53, [(53, .aload_n 0, 0, 0, 0), (54, .getfield 42, 7, 4, 291), (57, .getfield 71, 3, 7, 202), (60, .iload_n 1, 0, 0, 0), (61, .isub, 0, 0, 0)], (62, .ireturn, 0, 0, 0))]
def mPf_finish : MR := (⟨"PageFormatter", "finish", "()I"⟩, prog_1_method_4_code, 2, (Option.some Jvm.ClassFile.FieldType.int), 5, 126, bPf_finish, 586, 584, 585, 55, 0)
set_option maxRecDepth 100000 in
theorem okPf_finish : MOK mPf_finish := ⟨by decide +kernel, by decide +kernel⟩
def bPf_wipe : List BLK := [
  (0, [(0, .aload_n 0, 0, 0, 0), (1, .getfield 33, 7, 3, 290), (4, .getfield 105, 2, 1, 175), (7, .istore_n 1, 0, 0, 0), (8, .aload_n 0, 0, 0, 0), (9, .getfield 33, 7, 3, 290), (12, .iconst 0, 0, 0, 0), (13, .putfield 105, 2, 1, 175), (16, .iload_n 1, 0, 0, 0)], (17, .ireturn, 0, 0, 0))]
def mPf_wipe : MR := (⟨"PageFormatter", "wipe", "()I"⟩, prog_1_method_5_code, 2, (Option.some Jvm.ClassFile.FieldType.int), 0, 0, bPf_wipe, 595, 593, 594, 55, 0)
set_option maxRecDepth 100000 in
theorem okPf_wipe : MOK mPf_wipe := ⟨by decide +kernel, by decide +kernel⟩
def bPf_length : List BLK := [
  (0, [(0, .aload_n 0, 0, 0, 0), (1, .getfield 33, 7, 3, 290), (4, .getfield 105, 2, 1, 175)], (7, .ireturn, 0, 0, 0))]
def mPf_length : MR := (⟨"PageFormatter", "length", "()I"⟩, prog_1_method_6_code, 1, (Option.some Jvm.ClassFile.FieldType.int), 0, 0, bPf_length, 599, 597, 598, 55, 0)
set_option maxRecDepth 100000 in
theorem okPf_length : MOK mPf_length := ⟨by decide +kernel, by decide +kernel⟩
def bPf_at : List BLK := [
  (0, [(0, .aload_n 0, 0, 0, 0), (1, .getfield 33, 7, 3, 290), (4, .iload_n 1, 0, 0, 0)], (5, .invokevirtual 106, 0, 8, 604)),
  (8, [], (8, .ireturn, 0, 0, 0))]
def mPf_at : MR := (⟨"PageFormatter", "at", "(I)I"⟩, prog_1_method_7_code, 2, (Option.some Jvm.ClassFile.FieldType.int), 1, 21, bPf_at, 603, 601, 602, 55, 1)
set_option maxRecDepth 100000 in
theorem okPf_at : MOK mPf_at := ⟨by decide +kernel, by decide +kernel⟩
def bPf_demerits : List BLK := [
  (0, [(0, .aload_n 0, 0, 0, 0), (1, .getfield 56, 7, 6, 293), (4, .getfield 107, 5, 7, 268)], (7, .lreturn, 0, 0, 0))]
def mPf_demerits : MR := (⟨"PageFormatter", "demerits", "()J"⟩, prog_1_method_8_code, 1, (Option.some Jvm.ClassFile.FieldType.long), 0, 0, bPf_demerits, 611, 609, 610, 55, 0)
set_option maxRecDepth 100000 in
theorem okPf_demerits : MOK mPf_demerits := ⟨by decide +kernel, by decide +kernel⟩
def bPf_line : List BLK := [
  (0, [(0, .aload_n 0, 0, 0, 0), (1, .getfield 56, 7, 6, 293), (4, .iload_n 1, 0, 0, 0), (5, .iload_n 2, 0, 0, 0)], (6, .invokevirtual 111, 0, 9, 452)),
  (9, [], (9, .ireturn, 0, 0, 0))]
def mPf_line : MR := (⟨"PageFormatter", "line", "(II)I"⟩, prog_1_method_9_code, 3, (Option.some Jvm.ClassFile.FieldType.int), 1, 22, bPf_line, 615, 613, 614, 55, 2)
set_option maxRecDepth 100000 in
theorem okPf_line : MOK mPf_line := ⟨by decide +kernel, by decide +kernel⟩
def bPf_count : List BLK := [
  (0, [(0, .iload_n 1, 0, 0, 0)], (1, .tableswitch 232 0 16 #[83, 91, 99, 107, 115, 123, 131, 139, 147, 155, 163, 171, 187, 203, 211, 216, 224], 83, 83, 0)),
  (84, [(84, .aload_n 0, 0, 0, 0), (85, .getfield 49, 7, 5, 292), (88, .getfield 115, 4, 6, 234)], (91, .ireturn, 0, 0, 0)),
  (92, [(92, .aload_n 0, 0, 0, 0), (93, .getfield 42, 7, 4, 291), (96, .getfield 118, 3, 4, 196)], (99, .ireturn, 0, 0, 0)),
  (100, [(100, .aload_n 0, 0, 0, 0), (101, .getfield 42, 7, 4, 291), (104, .getfield 121, 3, 5, 198)], (107, .ireturn, 0, 0, 0)),
  (108, [(108, .aload_n 0, 0, 0, 0), (109, .getfield 42, 7, 4, 291), (112, .getfield 124, 3, 6, 200)], (115, .ireturn, 0, 0, 0)),
  (116, [(116, .aload_n 0, 0, 0, 0), (117, .getfield 26, 7, 2, 289), (120, .getfield 127, 1, 0, 127)], (123, .ireturn, 0, 0, 0)),
  (124, [(124, .aload_n 0, 0, 0, 0), (125, .getfield 26, 7, 2, 289), (128, .getfield 130, 1, 1, 130)], (131, .ireturn, 0, 0, 0)),
  (132, [(132, .aload_n 0, 0, 0, 0), (133, .getfield 26, 7, 2, 289), (136, .getfield 133, 1, 2, 133)], (139, .ireturn, 0, 0, 0)),
  (140, [(140, .aload_n 0, 0, 0, 0), (141, .getfield 26, 7, 2, 289), (144, .getfield 136, 1, 3, 136)], (147, .ireturn, 0, 0, 0)),
  (148, [(148, .aload_n 0, 0, 0, 0), (149, .getfield 26, 7, 2, 289), (152, .getfield 139, 1, 4, 138)], (155, .ireturn, 0, 0, 0)),
  (156, [(156, .aload_n 0, 0, 0, 0), (157, .getfield 26, 7, 2, 289), (160, .getfield 142, 1, 5, 140)], (163, .ireturn, 0, 0, 0)),
  (164, [(164, .aload_n 0, 0, 0, 0), (165, .getfield 26, 7, 2, 289), (168, .getfield 145, 1, 6, 143)], (171, .ireturn, 0, 0, 0)),
  (172, [(172, .aload_n 0, 0, 0, 0), (173, .getfield 26, 7, 2, 289), (176, .getfield 148, 1, 7, 145)], (179, .ifCond .eq 7, 186, 182, 0)),
  (182, [(182, .iconst 1, 1, 0, 0)], (183, .goto 4, 187, 186, 0)),
  (186, [(186, .iconst 0, 0, 0, 0)], (187, .nop, 0, 0, 0)),
  (187, [], (187, .ireturn, 0, 0, 0)),
  (188, [(188, .aload_n 0, 0, 0, 0), (189, .getfield 26, 7, 2, 289), (192, .getfield 152, 1, 8, 147)], (195, .ifCond .eq 7, 202, 198, 0)),
  (198, [(198, .iconst 1, 1, 0, 0)], (199, .goto 4, 203, 202, 0)),
  (202, [(202, .iconst 0, 0, 0, 0)], (203, .nop, 0, 0, 0)),
  (203, [], (203, .ireturn, 0, 0, 0)),
  (204, [(204, .aload_n 0, 0, 0, 0), (205, .getfield 56, 7, 6, 293), (208, .getfield 155, 5, 6, 266)], (211, .ireturn, 0, 0, 0)),
  (212, [(212, .aload_n 0, 0, 0, 0), (213, .getfield 60, 7, 7, 294)], (216, .ireturn, 0, 0, 0)),
  (217, [(217, .aload_n 0, 0, 0, 0), (218, .getfield 42, 7, 4, 291), (221, .getfield 71, 3, 7, 202)], (224, .ireturn, 0, 0, 0)),
  (225, [(225, .aload_n 0, 0, 0, 0), (226, .getfield 12, 7, 0, 287), (229, .getfield 64, 6, 1, 84)], (232, .ireturn, 0, 0, 0)),
  (233, [(233, .bipush (-2), 1, 1, 0)], (235, .ireturn, 0, 0, 0))]
def mPf_count : MR := (⟨"PageFormatter", "count", "(I)I"⟩, prog_1_method_10_code, 2, (Option.some Jvm.ClassFile.FieldType.int), 0, 0, bPf_count, 619, 617, 618, 55, 1)
set_option maxRecDepth 100000 in
theorem okPf_count : MOK mPf_count := ⟨by decide +kernel, by decide +kernel⟩
