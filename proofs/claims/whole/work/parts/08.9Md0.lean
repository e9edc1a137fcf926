def bMd_begin : List BLK := [
  (0, [(0, .aload_n 0, 0, 0, 0), (1, .iconst 0, 0, 0, 0), (2, .putfield 81, 8, 1, 632), (5, .aload_n 0, 0, 0, 0), (6, .iconst 0, 0, 0, 0), (7, .putfield 85, 8, 6, 637), (10, .aload_n 0, 0, 0, 0), (11, .iconst 1, 1, 0, 0), (12, .putfield 88, 8, 25, 656), (15, .aload_n 0, 0, 0, 0), (16, .iconst 1, 1, 0, 0), (17, .putfield 92, 8, 26, 657), (20, .aload_n 0, 0, 0, 0), (21, .iconst 1, 1, 0, 0), (22, .putfield 95, 8, 27, 658), (25, .aload_n 0, 0, 0, 0), (26, .iconst 0, 0, 0, 0), (27, .putfield 98, 8, 28, 659), (30, .aload_n 0, 0, 0, 0), (31, .iconst 0, 0, 0, 0), (32, .putfield 101, 8, 29, 660), (35, .aload_n 0, 0, 0, 0), (36, .bipush 40, 40, 0, 0), (38, .putfield 104, 8, 30, 661), (41, .aload_n 0, 0, 0, 0), (42, .iconst 0, 0, 0, 0), (43, .putfield 107, 8, 31, 662), (46, .aload_n 0, 0, 0, 0), (47, .iconst 0, 0, 0, 0), (48, .putfield 110, 8, 32, 663), (51, .aload_n 0, 0, 0, 0), (52, .bipush 24, 24, 0, 0), (54, .putfield 113, 8, 33, 664), (57, .aload_n 0, 0, 0, 0), (58, .iconst 0, 0, 0, 0), (59, .putfield 116, 8, 34, 665), (62, .aload_n 0, 0, 0, 0), (63, .iconst 0, 0, 0, 0), (64, .putfield 119, 8, 35, 666), (67, .aload_n 0, 0, 0, 0), (68, .iconst 1, 1, 0, 0), (69, .putfield 122, 8, 36, 667), (72, .aload_n 0, 0, 0, 0), (73, .iconst 0, 0, 0, 0), (74, .putfield 125, 8, 38, 669), (77, .aload_n 0, 0, 0, 0), (78, .iconst 0, 0, 0, 0), (79, .putfield 128, 8, 40, 671)], (82, .return_, 0, 0, 0))]
def mMd_begin : MR := (⟨"PageFormatterModel", "begin", "()V"⟩, prog_10_method_2_code, 1, (Option.none : Option Jvm.ClassFile.FieldType), 0, 0, bMd_begin, 630, 629, 21, 63, 0)
set_option maxRecDepth 100000 in
theorem okMd_begin : MOK mMd_begin := ⟨by decide +kernel, by decide +kernel⟩
def bMd_in : List BLK := [
  (0, [(0, .iload_n 0, 0, 0, 0), (1, .iload_n 1, 0, 0, 0)], (2, .if_icmp .lt 12, 14, 5, 0)),
  (5, [(5, .iload_n 0, 0, 0, 0), (6, .iload_n 2, 0, 0, 0)], (7, .if_icmp .gt 7, 14, 10, 0)),
  (10, [(10, .iconst 1, 1, 0, 0)], (11, .goto 4, 15, 14, 0)),
  (14, [(14, .iconst 0, 0, 0, 0)], (15, .nop, 0, 0, 0)),
  (15, [], (15, .ireturn, 0, 0, 0))]
def mMd_in : MR := (⟨"PageFormatterModel", "in", "(III)Z"⟩, prog_10_method_3_code, 3, (Option.some Jvm.ClassFile.FieldType.boolean), 0, 0, bMd_in, 782, 781, 0, 63, 3)
set_option maxRecDepth 100000 in
theorem okMd_in : MOK mMd_in := ⟨by decide +kernel, by decide +kernel⟩
def bMd_type : List BLK := [
  (0, [(0, .iload_n 3, 0, 0, 0), (1, .iconst 1, 1, 0, 0), (2, .bipush 8, 8, 0, 0)], (4, .invokestatic 131, 0, 7, 780)),
  (7, [], (7, .ifCond .ne 6, 13, 10, 0)),
  (10, [(10, .bipush (-2), 1, 1, 0)], (12, .ireturn, 0, 0, 0)),
  (13, [(13, .aload_n 0, 0, 0, 0), (14, .getfield 81, 8, 1, 632), (17, .iload_n 3, 0, 0, 0), (18, .iadd, 0, 0, 0), (19, .bipush 100, 100, 0, 0)], (21, .if_icmp .le 6, 27, 24, 0)),
  (24, [(24, .bipush (-3), 2, 1, 0)], (26, .ireturn, 0, 0, 0)),
  (27, [(27, .iconst 0, 0, 0, 0), (28, .istore 4, 0, 0, 0)], (30, .nop, 0, 0, 0)),
  (30, [(30, .iload 4, 0, 0, 0), (32, .iload_n 3, 0, 0, 0)], (33, .if_icmp .ge 56, 89, 36, 0)),
  (36, [(36, .lload_n 1, 0, 0, 0), (37, .bipush 8, 8, 0, 0), (39, .iload 4, 0, 0, 0), (41, .imul, 0, 0, 0), (42, .lshr, 0, 0, 0), (43, .ldc2_w 135, 255, 0, 783), (46, .land, 0, 0, 0), (47, .l2i, 0, 0, 0), (48, .istore 5, 0, 0, 0), (50, .iload 5, 0, 0, 0), (52, .bipush 32, 32, 0, 0), (54, .bipush 126, 126, 0, 0)], (56, .invokestatic 131, 0, 59, 780)),
  (59, [], (59, .ifCond .eq 24, 83, 62, 0)),
  (62, [(62, .aload_n 0, 0, 0, 0), (63, .getfield 7, 8, 0, 631), (66, .aload_n 0, 0, 0, 0), (67, .getfield 81, 8, 1, 632), (70, .iload 5, 0, 0, 0), (72, .iastore, 0, 0, 0), (73, .aload_n 0, 0, 0, 0), (74, .dup, 0, 0, 0), (75, .getfield 81, 8, 1, 632), (78, .iconst 1, 1, 0, 0), (79, .iadd, 0, 0, 0), (80, .putfield 81, 8, 1, 632)], (83, .nop, 0, 0, 0)),
  (83, [(83, .iinc 4 1, 1, 0, 0)], (86, .goto (-56), 30, 89, 0)),
  (89, [(89, .aload_n 0, 0, 0, 0), (90, .getfield 81, 8, 1, 632)], (93, .ireturn, 0, 0, 0))]
def mMd_type : MR := (⟨"PageFormatterModel", "type", "(JI)I"⟩, prog_10_method_4_code, 6, (Option.some Jvm.ClassFile.FieldType.int), 1, 22, bMd_type, 779, 777, 778, 63, 2)
set_option maxRecDepth 100000 in
theorem okMd_type : MOK mMd_type := ⟨by decide +kernel, by decide +kernel⟩
def bMd_give : List BLK := [
  (0, [(0, .aload_n 0, 0, 0, 0), (1, .getfield 137, 8, 24, 655), (4, .sipush 20000, 20000, 0, 0)], (7, .if_icmp .ge 23, 30, 10, 0)),
  (10, [(10, .aload_n 0, 0, 0, 0), (11, .getfield 69, 8, 23, 654), (14, .aload_n 0, 0, 0, 0), (15, .getfield 137, 8, 24, 655), (18, .iload_n 1, 0, 0, 0), (19, .iastore, 0, 0, 0), (20, .aload_n 0, 0, 0, 0), (21, .dup, 0, 0, 0), (22, .getfield 137, 8, 24, 655), (25, .iconst 1, 1, 0, 0), (26, .iadd, 0, 0, 0), (27, .putfield 137, 8, 24, 655)], (30, .nop, 0, 0, 0)),
  (30, [], (30, .return_, 0, 0, 0))]
def mMd_give : MR := (⟨"PageFormatterModel", "give", "(I)V"⟩, prog_10_method_5_code, 2, (Option.none : Option Jvm.ClassFile.FieldType), 0, 0, bMd_give, 876, 875, 41, 63, 1)
set_option maxRecDepth 100000 in
theorem okMd_give : MOK mMd_give := ⟨by decide +kernel, by decide +kernel⟩
def bMd_giveMany : List BLK := [
  (0, [(0, .iconst 0, 0, 0, 0), (1, .istore_n 3, 0, 0, 0)], (2, .nop, 0, 0, 0)),
  (2, [(2, .iload_n 3, 0, 0, 0), (3, .iload_n 2, 0, 0, 0)], (4, .if_icmp .ge 14, 18, 7, 0)),
  (7, [(7, .aload_n 0, 0, 0, 0), (8, .iload_n 1, 0, 0, 0)], (9, .invokevirtual 140, 0, 12, 873)),
  (12, [(12, .iinc 3 1, 1, 0, 0)], (15, .goto (-13), 2, 18, 0)),
  (18, [], (18, .return_, 0, 0, 0))]
def mMd_giveMany : MR := (⟨"PageFormatterModel", "giveMany", "(II)V"⟩, prog_10_method_6_code, 4, (Option.none : Option Jvm.ClassFile.FieldType), 1, 21, bMd_giveMany, 884, 883, 43, 63, 2)
set_option maxRecDepth 100000 in
theorem okMd_giveMany : MOK mMd_giveMany := ⟨by decide +kernel, by decide +kernel⟩
def bMd_giveNumber : List BLK := [
  (0, [(0, .iconst 1, 1, 0, 0), (1, .istore_n 2, 0, 0, 0)], (2, .nop, 0, 0, 0)),
  (2, [(2, .iload_n 1, 0, 0, 0), (3, .iload_n 2, 0, 0, 0), (4, .idiv, 0, 0, 0), (5, .bipush 9, 9, 0, 0)], (7, .if_icmp .le 11, 18, 10, 0)),
  (10, [(10, .bipush 10, 10, 0, 0), (12, .iload_n 2, 0, 0, 0), (13, .imul, 0, 0, 0), (14, .istore_n 2, 0, 0, 0)], (15, .goto (-13), 2, 18, 0)),
  (18, [(18, .iload_n 2, 0, 0, 0)], (19, .ifCond .le 24, 43, 22, 0)),
  (22, [(22, .aload_n 0, 0, 0, 0), (23, .bipush 48, 48, 0, 0), (25, .iload_n 1, 0, 0, 0), (26, .iload_n 2, 0, 0, 0), (27, .idiv, 0, 0, 0), (28, .bipush 10, 10, 0, 0), (30, .irem, 0, 0, 0), (31, .iadd, 0, 0, 0)], (32, .invokevirtual 140, 0, 35, 873)),
  (35, [(35, .iload_n 2, 0, 0, 0), (36, .bipush 10, 10, 0, 0), (38, .idiv, 0, 0, 0), (39, .istore_n 2, 0, 0, 0)], (40, .goto (-22), 18, 43, 0)),
  (43, [], (43, .return_, 0, 0, 0))]
def mMd_giveNumber : MR := (⟨"PageFormatterModel", "giveNumber", "(I)V"⟩, prog_10_method_7_code, 3, (Option.none : Option Jvm.ClassFile.FieldType), 1, 21, bMd_giveNumber, 880, 879, 42, 63, 1)
set_option maxRecDepth 100000 in
theorem okMd_giveNumber : MOK mMd_giveNumber := ⟨by decide +kernel, by decide +kernel⟩
def bMd_giveTitle : List BLK := [
  (0, [(0, .aload_n 0, 0, 0, 0), (1, .bipush 10, 10, 0, 0)], (3, .invokevirtual 140, 0, 6, 873)),
  (6, [(6, .iconst 0, 0, 0, 0), (7, .istore_n 3, 0, 0, 0)], (8, .nop, 0, 0, 0)),
  (8, [(8, .iload_n 3, 0, 0, 0), (9, .iload_n 2, 0, 0, 0)], (10, .if_icmp .ge 35, 45, 13, 0)),
  (13, [(13, .aload_n 1, 0, 0, 0), (14, .iload_n 3, 0, 0, 0), (15, .iaload, 0, 0, 0), (16, .bipush 35, 35, 0, 0)], (18, .if_icmp .ne 14, 32, 21, 0)),
  (21, [(21, .aload_n 0, 0, 0, 0), (22, .aload_n 0, 0, 0, 0), (23, .getfield 119, 8, 35, 666)], (26, .invokevirtual 144, 0, 29, 877)),
  (29, [], (29, .goto 10, 39, 32, 0)),
  (32, [(32, .aload_n 0, 0, 0, 0), (33, .aload_n 1, 0, 0, 0), (34, .iload_n 3, 0, 0, 0), (35, .iaload, 0, 0, 0)], (36, .invokevirtual 140, 0, 39, 873)),
  (39, [(39, .iinc 3 1, 1, 0, 0)], (42, .goto (-34), 8, 45, 0)),
  (45, [(45, .aload_n 0, 0, 0, 0), (46, .bipush 10, 10, 0, 0)], (48, .invokevirtual 140, 0, 51, 873)),
  (51, [(51, .aload_n 0, 0, 0, 0), (52, .bipush 10, 10, 0, 0)], (54, .invokevirtual 140, 0, 57, 873)),
  (57, [], (57, .return_, 0, 0, 0))]
def mMd_giveTitle : MR := (⟨"PageFormatterModel", "giveTitle", "([II)V"⟩, prog_10_method_8_code, 4, (Option.none : Option Jvm.ClassFile.FieldType), 2, 43, bMd_giveTitle, 872, 871, 40, 63, 2)
set_option maxRecDepth 100000 in
theorem okMd_giveTitle : MOK mMd_giveTitle := ⟨by decide +kernel, by decide +kernel⟩
def bMd_bottom : List BLK := [
  (0, [(0, .aload_n 0, 0, 0, 0), (1, .getfield 113, 8, 33, 664), (4, .iconst 3, 3, 0, 0), (5, .isub, 0, 0, 0)], (6, .ireturn, 0, 0, 0))]
def mMd_bottom : MR := (⟨"PageFormatterModel", "bottom", "()I"⟩, prog_10_method_9_code, 1, (Option.some Jvm.ClassFile.FieldType.int), 0, 0, bMd_bottom, 864, 863, 38, 63, 0)
set_option maxRecDepth 100000 in
theorem okMd_bottom : MOK mMd_bottom := ⟨by decide +kernel, by decide +kernel⟩
def bMd_giveHead : List BLK := [
  (0, [(0, .aload_n 0, 0, 0, 0), (1, .aload_n 0, 0, 0, 0), (2, .getfield 122, 8, 36, 667), (5, .putfield 119, 8, 35, 666), (8, .aload_n 0, 0, 0, 0), (9, .dup, 0, 0, 0), (10, .getfield 122, 8, 36, 667), (13, .iconst 1, 1, 0, 0), (14, .iadd, 0, 0, 0), (15, .putfield 122, 8, 36, 667), (18, .aload_n 0, 0, 0, 0), (19, .aload_n 0, 0, 0, 0), (20, .getfield 72, 8, 37, 668), (23, .aload_n 0, 0, 0, 0), (24, .getfield 125, 8, 38, 669)], (27, .invokevirtual 147, 0, 30, 869)),
  (30, [(30, .aload_n 0, 0, 0, 0), (31, .iconst 4, 4, 0, 0), (32, .putfield 116, 8, 34, 665)], (35, .return_, 0, 0, 0))]
def mMd_giveHead : MR := (⟨"PageFormatterModel", "giveHead", "()V"⟩, prog_10_method_10_code, 1, (Option.none : Option Jvm.ClassFile.FieldType), 3, 66, bMd_giveHead, 868, 867, 39, 63, 0)
set_option maxRecDepth 100000 in
theorem okMd_giveHead : MOK mMd_giveHead := ⟨by decide +kernel, by decide +kernel⟩
def bMd_giveFoot : List BLK := [
  (0, [(0, .aload_n 0, 0, 0, 0), (1, .aload_n 0, 0, 0, 0), (2, .getfield 75, 8, 39, 670), (5, .aload_n 0, 0, 0, 0), (6, .getfield 128, 8, 40, 671)], (9, .invokevirtual 147, 0, 12, 869)),
  (12, [], (12, .return_, 0, 0, 0))]
def mMd_giveFoot : MR := (⟨"PageFormatterModel", "giveFoot", "()V"⟩, prog_10_method_11_code, 1, (Option.none : Option Jvm.ClassFile.FieldType), 3, 66, bMd_giveFoot, 888, 887, 44, 63, 0)
set_option maxRecDepth 100000 in
theorem okMd_giveFoot : MOK mMd_giveFoot := ⟨by decide +kernel, by decide +kernel⟩
def bMd_put : List BLK := [
  (0, [(0, .aload_n 0, 0, 0, 0), (1, .dup, 0, 0, 0), (2, .getfield 151, 8, 42, 673), (5, .iconst 1, 1, 0, 0), (6, .iadd, 0, 0, 0), (7, .putfield 151, 8, 42, 673), (10, .aload_n 0, 0, 0, 0), (11, .getfield 116, 8, 34, 665)], (14, .ifCond .eq 14, 28, 17, 0)),
  (17, [(17, .aload_n 0, 0, 0, 0), (18, .getfield 116, 8, 34, 665), (21, .aload_n 0, 0, 0, 0)], (22, .invokevirtual 154, 0, 25, 861)),
  (25, [], (25, .if_icmp .le 7, 32, 28, 0)),
  (28, [(28, .aload_n 0, 0, 0, 0)], (29, .invokevirtual 158, 0, 32, 865)),
  (32, [(32, .aload_n 0, 0, 0, 0), (33, .bipush 32, 32, 0, 0), (35, .aload_n 0, 0, 0, 0), (36, .getfield 161, 8, 3, 634)], (39, .ifCond .le 10, 49, 42, 0)),
  (42, [(42, .aload_n 0, 0, 0, 0), (43, .getfield 101, 8, 29, 660)], (46, .goto 4, 50, 49, 0)),
  (49, [(49, .iconst 0, 0, 0, 0)], (50, .nop, 0, 0, 0)),
  (50, [], (50, .invokevirtual 164, 0, 53, 881)),
  (53, [(53, .iconst 0, 0, 0, 0), (54, .istore_n 1, 0, 0, 0)], (55, .nop, 0, 0, 0)),
  (55, [(55, .iload_n 1, 0, 0, 0), (56, .aload_n 0, 0, 0, 0), (57, .getfield 161, 8, 3, 634)], (60, .if_icmp .ge 47, 107, 63, 0)),
  (63, [(63, .aload_n 0, 0, 0, 0), (64, .getfield 13, 8, 2, 633), (67, .iload_n 1, 0, 0, 0), (68, .iaload, 0, 0, 0), (69, .sipush 256, 256, 0, 0)], (72, .if_icmp .lt 15, 87, 75, 0)),
  (75, [(75, .aload_n 0, 0, 0, 0), (76, .bipush 95, 95, 0, 0)], (78, .invokevirtual 140, 0, 81, 873)),
  (81, [(81, .aload_n 0, 0, 0, 0), (82, .bipush 8, 8, 0, 0)], (84, .invokevirtual 140, 0, 87, 873)),
  (87, [(87, .aload_n 0, 0, 0, 0), (88, .aload_n 0, 0, 0, 0), (89, .getfield 13, 8, 2, 633), (92, .iload_n 1, 0, 0, 0), (93, .iaload, 0, 0, 0), (94, .sipush 255, 255, 0, 0), (97, .iand, 0, 0, 0)], (98, .invokevirtual 140, 0, 101, 873)),
  (101, [(101, .iinc 1 1, 1, 0, 0)], (104, .goto (-49), 55, 107, 0)),
  (107, [(107, .aload_n 0, 0, 0, 0), (108, .bipush 10, 10, 0, 0)], (110, .invokevirtual 140, 0, 113, 873)),
  (113, [(113, .aload_n 0, 0, 0, 0), (114, .aload_n 0, 0, 0, 0), (115, .getfield 98, 8, 28, 659), (118, .putfield 101, 8, 29, 660), (121, .aload_n 0, 0, 0, 0)], (122, .invokevirtual 154, 0, 125, 861)),
  (125, [(125, .aload_n 0, 0, 0, 0), (126, .getfield 116, 8, 34, 665), (129, .isub, 0, 0, 0), (130, .istore_n 1, 0, 0, 0), (131, .iload_n 1, 0, 0, 0)], (132, .ifCond .ge 7, 139, 135, 0)),
  (135, [(135, .iconst 0, 0, 0, 0)], (136, .goto 4, 140, 139, 0)),
  (139, [(139, .iload_n 1, 0, 0, 0)], (140, .nop, 0, 0, 0)),
  (140, [(140, .istore_n 1, 0, 0, 0), (141, .aload_n 0, 0, 0, 0), (142, .bipush 10, 10, 0, 0), (144, .aload_n 0, 0, 0, 0), (145, .getfield 95, 8, 27, 658), (148, .iconst 1, 1, 0, 0), (149, .isub, 0, 0, 0), (150, .iload_n 1, 0, 0, 0)], (151, .if_icmp .ge 12, 163, 154, 0)),
  (154, [(154, .aload_n 0, 0, 0, 0), (155, .getfield 95, 8, 27, 658), (158, .iconst 1, 1, 0, 0), (159, .isub, 0, 0, 0)], (160, .goto 4, 164, 163, 0)),
  (163, [(163, .iload_n 1, 0, 0, 0)], (164, .nop, 0, 0, 0)),
  (164, [], (164, .invokevirtual 164, 0, 167, 881)),
  (167, [(167, .aload_n 0, 0, 0, 0), (168, .dup, 0, 0, 0), (169, .getfield 116, 8, 34, 665), (172, .aload_n 0, 0, 0, 0), (173, .getfield 95, 8, 27, 658), (176, .iadd, 0, 0, 0), (177, .putfield 116, 8, 34, 665), (180, .aload_n 0, 0, 0, 0), (181, .getfield 116, 8, 34, 665), (184, .aload_n 0, 0, 0, 0)], (185, .invokevirtual 154, 0, 188, 861)),
  (188, [], (188, .if_icmp .le 7, 195, 191, 0)),
  (191, [(191, .aload_n 0, 0, 0, 0)], (192, .invokevirtual 168, 0, 195, 885)),
  (195, [], (195, .return_, 0, 0, 0))]
def mMd_put : MR := (⟨"PageFormatterModel", "put", "()V"⟩, prog_10_method_12_code, 2, (Option.none : Option Jvm.ClassFile.FieldType), 4, 86, bMd_put, 860, 859, 37, 63, 0)
set_option maxRecDepth 100000 in
theorem okMd_put : MOK mMd_put := ⟨by decide +kernel, by decide +kernel⟩
def bMd_space : List BLK := [
  (0, [(0, .aload_n 0, 0, 0, 0)], (1, .invokevirtual 171, 0, 4, 796)),
  (4, [(4, .aload_n 0, 0, 0, 0), (5, .getfield 116, 8, 34, 665), (8, .aload_n 0, 0, 0, 0)], (9, .invokevirtual 154, 0, 12, 861)),
  (12, [], (12, .if_icmp .le 4, 16, 15, 0)),
  (15, [], (15, .return_, 0, 0, 0)),
  (16, [(16, .aload_n 0, 0, 0, 0), (17, .getfield 116, 8, 34, 665)], (20, .ifCond .ne 7, 27, 23, 0)),
  (23, [(23, .aload_n 0, 0, 0, 0)], (24, .invokevirtual 158, 0, 27, 865)),
  (27, [(27, .aload_n 0, 0, 0, 0)], (28, .invokevirtual 154, 0, 31, 861)),
  (31, [(31, .iconst 1, 1, 0, 0), (32, .iadd, 0, 0, 0), (33, .aload_n 0, 0, 0, 0), (34, .getfield 116, 8, 34, 665), (37, .isub, 0, 0, 0), (38, .istore_n 2, 0, 0, 0), (39, .aload_n 0, 0, 0, 0), (40, .bipush 10, 10, 0, 0), (42, .iload_n 1, 0, 0, 0), (43, .iload_n 2, 0, 0, 0)], (44, .if_icmp .ge 7, 51, 47, 0)),
  (47, [(47, .iload_n 1, 0, 0, 0)], (48, .goto 4, 52, 51, 0)),
  (51, [(51, .iload_n 2, 0, 0, 0)], (52, .nop, 0, 0, 0)),
  (52, [], (52, .invokevirtual 164, 0, 55, 881)),
  (55, [(55, .aload_n 0, 0, 0, 0), (56, .dup, 0, 0, 0), (57, .getfield 116, 8, 34, 665), (60, .iload_n 1, 0, 0, 0), (61, .iadd, 0, 0, 0), (62, .putfield 116, 8, 34, 665), (65, .aload_n 0, 0, 0, 0), (66, .getfield 116, 8, 34, 665), (69, .aload_n 0, 0, 0, 0)], (70, .invokevirtual 154, 0, 73, 861)),
  (73, [], (73, .if_icmp .le 7, 80, 76, 0)),
  (76, [(76, .aload_n 0, 0, 0, 0)], (77, .invokevirtual 168, 0, 80, 885)),
  (80, [], (80, .return_, 0, 0, 0))]
def mMd_space : MR := (⟨"PageFormatterModel", "space", "(I)V"⟩, prog_10_method_13_code, 3, (Option.none : Option Jvm.ClassFile.FieldType), 7, 176, bMd_space, 900, 899, 47, 63, 1)
set_option maxRecDepth 100000 in
theorem okMd_space : MOK mMd_space := ⟨by decide +kernel, by decide +kernel⟩
def bMd_layPlaces : List BLK := [
  (0, [(0, .aload_n 0, 0, 0, 0), (1, .iconst 0, 0, 0, 0), (2, .putfield 174, 8, 11, 642), (5, .aload_n 0, 0, 0, 0), (6, .getfield 22, 8, 7, 638), (9, .iconst 0, 0, 0, 0), (10, .iconst 0, 0, 0, 0), (11, .iastore, 0, 0, 0), (12, .aload_n 0, 0, 0, 0), (13, .getfield 25, 8, 8, 639), (16, .iconst 0, 0, 0, 0), (17, .iconst 0, 0, 0, 0), (18, .iastore, 0, 0, 0), (19, .aload_n 0, 0, 0, 0), (20, .getfield 32, 8, 10, 641), (23, .iconst 0, 0, 0, 0), (24, .iconst 0, 0, 0, 0), (25, .iastore, 0, 0, 0), (26, .aload_n 0, 0, 0, 0), (27, .getfield 28, 8, 9, 640), (30, .iconst 0, 0, 0, 0), (31, .iconst 0, 0, 0, 0), (32, .bastore, 0, 0, 0), (33, .iconst 0, 0, 0, 0), (34, .istore_n 1, 0, 0, 0), (35, .iconst 0, 0, 0, 0), (36, .istore_n 2, 0, 0, 0), (37, .iconst 0, 0, 0, 0), (38, .istore_n 3, 0, 0, 0)], (39, .nop, 0, 0, 0)),
  (39, [(39, .iload_n 3, 0, 0, 0), (40, .aload_n 0, 0, 0, 0), (41, .getfield 85, 8, 6, 637)], (44, .if_icmp .ge 213, 257, 47, 0)),
  (47, [(47, .aload_n 0, 0, 0, 0), (48, .iload_n 1, 0, 0, 0), (49, .aload_n 0, 0, 0, 0), (50, .getfield 19, 8, 5, 636), (53, .iload_n 3, 0, 0, 0), (54, .iaload, 0, 0, 0)], (55, .invokevirtual 177, 0, 58, 804)),
  (58, [(58, .istore 4, 0, 0, 0), (60, .iconst 0, 0, 0, 0), (61, .istore 5, 0, 0, 0), (63, .iconst 0, 0, 0, 0), (64, .istore 6, 0, 0, 0), (66, .iload_n 1, 0, 0, 0), (67, .istore 7, 0, 0, 0)], (69, .nop, 0, 0, 0)),
  (69, [(69, .iload 7, 0, 0, 0), (71, .aload_n 0, 0, 0, 0), (72, .getfield 19, 8, 5, 636), (75, .iload_n 3, 0, 0, 0), (76, .iaload, 0, 0, 0)], (77, .if_icmp .ge 105, 182, 80, 0)),
  (80, [(80, .aload_n 0, 0, 0, 0), (81, .getfield 16, 8, 4, 635), (84, .iload 7, 0, 0, 0), (86, .iaload, 0, 0, 0), (87, .sipush 255, 255, 0, 0), (90, .iand, 0, 0, 0), (91, .bipush 94, 94, 0, 0)], (93, .if_icmp .eq 9, 102, 96, 0)),
  (96, [(96, .iinc 5 1, 1, 0, 0)], (99, .goto 77, 176, 102, 0)),
  (102, [(102, .iload 5, 0, 0, 0), (104, .iload 6, 0, 0, 0)], (106, .if_icmp .le 70, 176, 109, 0)),
  (109, [(109, .iload 5, 0, 0, 0), (111, .iload 4, 0, 0, 0)], (113, .if_icmp .ge 63, 176, 116, 0)),
  (116, [(116, .iload 5, 0, 0, 0), (118, .istore 6, 0, 0, 0), (120, .aload_n 0, 0, 0, 0), (121, .dup, 0, 0, 0), (122, .getfield 174, 8, 11, 642), (125, .iconst 1, 1, 0, 0), (126, .iadd, 0, 0, 0), (127, .putfield 174, 8, 11, 642), (130, .aload_n 0, 0, 0, 0), (131, .getfield 22, 8, 7, 638), (134, .aload_n 0, 0, 0, 0), (135, .getfield 174, 8, 11, 642), (138, .iload_n 2, 0, 0, 0), (139, .iload 5, 0, 0, 0), (141, .iadd, 0, 0, 0), (142, .iastore, 0, 0, 0), (143, .aload_n 0, 0, 0, 0), (144, .getfield 25, 8, 8, 639), (147, .aload_n 0, 0, 0, 0), (148, .getfield 174, 8, 11, 642), (151, .iload_n 3, 0, 0, 0), (152, .iastore, 0, 0, 0), (153, .aload_n 0, 0, 0, 0), (154, .getfield 32, 8, 10, 641), (157, .aload_n 0, 0, 0, 0), (158, .getfield 174, 8, 11, 642), (161, .iload 7, 0, 0, 0), (163, .iconst 1, 1, 0, 0), (164, .iadd, 0, 0, 0), (165, .iastore, 0, 0, 0), (166, .aload_n 0, 0, 0, 0), (167, .getfield 28, 8, 9, 640), (170, .aload_n 0, 0, 0, 0), (171, .getfield 174, 8, 11, 642), (174, .iconst 1, 1, 0, 0), (175, .bastore, 0, 0, 0)], (176, .nop, 0, 0, 0)),
  (176, [(176, .iinc 7 1, 1, 0, 0)], (179, .goto (-110), 69, 182, 0)),
  (182, [(182, .iload_n 2, 0, 0, 0), (183, .iload 4, 0, 0, 0), (185, .iadd, 0, 0, 0), (186, .istore_n 2, 0, 0, 0), (187, .aload_n 0, 0, 0, 0), (188, .dup, 0, 0, 0), (189, .getfield 174, 8, 11, 642), (192, .iconst 1, 1, 0, 0), (193, .iadd, 0, 0, 0), (194, .putfield 174, 8, 11, 642), (197, .aload_n 0, 0, 0, 0), (198, .getfield 22, 8, 7, 638), (201, .aload_n 0, 0, 0, 0), (202, .getfield 174, 8, 11, 642), (205, .iload_n 2, 0, 0, 0), (206, .iastore, 0, 0, 0), (207, .aload_n 0, 0, 0, 0), (208, .getfield 25, 8, 8, 639), (211, .aload_n 0, 0, 0, 0), (212, .getfield 174, 8, 11, 642), (215, .iload_n 3, 0, 0, 0), (216, .iconst 1, 1, 0, 0), (217, .iadd, 0, 0, 0), (218, .iastore, 0, 0, 0), (219, .aload_n 0, 0, 0, 0), (220, .getfield 32, 8, 10, 641), (223, .aload_n 0, 0, 0, 0), (224, .getfield 174, 8, 11, 642), (227, .aload_n 0, 0, 0, 0), (228, .getfield 19, 8, 5, 636), (231, .iload_n 3, 0, 0, 0), (232, .iaload, 0, 0, 0), (233, .iastore, 0, 0, 0), (234, .aload_n 0, 0, 0, 0), (235, .getfield 28, 8, 9, 640), (238, .aload_n 0, 0, 0, 0), (239, .getfield 174, 8, 11, 642), (242, .iconst 0, 0, 0, 0), (243, .bastore, 0, 0, 0), (244, .aload_n 0, 0, 0, 0), (245, .getfield 19, 8, 5, 636), (248, .iload_n 3, 0, 0, 0), (249, .iaload, 0, 0, 0), (250, .istore_n 1, 0, 0, 0), (251, .iinc 3 1, 1, 0, 0)], (254, .goto (-215), 39, 257, 0)),
  (257, [], (257, .return_, 0, 0, 0))]
def mMd_layPlaces : MR := (⟨"PageFormatterModel", "layPlaces", "()V"⟩, prog_10_method_14_code, 8, (Option.none : Option Jvm.ClassFile.FieldType), 1, 24, bMd_layPlaces, 803, 802, 25, 63, 0)
set_option maxRecDepth 100000 in
theorem okMd_layPlaces : MOK mMd_layPlaces := ⟨by decide +kernel, by decide +kernel⟩
def bMd_bytesIn : List BLK := [
  (0, [(0, .iconst 0, 0, 0, 0), (1, .istore_n 3, 0, 0, 0), (2, .iload_n 1, 0, 0, 0), (3, .istore 4, 0, 0, 0)], (5, .nop, 0, 0, 0)),
  (5, [(5, .iload 4, 0, 0, 0), (7, .iload_n 2, 0, 0, 0)], (8, .if_icmp .ge 33, 41, 11, 0)),
  (11, [(11, .aload_n 0, 0, 0, 0), (12, .getfield 16, 8, 4, 635), (15, .iload 4, 0, 0, 0), (17, .iaload, 0, 0, 0), (18, .sipush 255, 255, 0, 0), (21, .iand, 0, 0, 0), (22, .bipush 94, 94, 0, 0)], (24, .if_icmp .ne 7, 31, 27, 0)),
  (27, [(27, .iload_n 3, 0, 0, 0)], (28, .goto 6, 34, 31, 0)),
  (31, [(31, .iload_n 3, 0, 0, 0), (32, .iconst 1, 1, 0, 0), (33, .iadd, 0, 0, 0)], (34, .nop, 0, 0, 0)),
  (34, [(34, .istore_n 3, 0, 0, 0), (35, .iinc 4 1, 1, 0, 0)], (38, .goto (-33), 5, 41, 0)),
  (41, [(41, .iload_n 3, 0, 0, 0)], (42, .ireturn, 0, 0, 0))]
def mMd_bytesIn : MR := (⟨"PageFormatterModel", "bytesIn", "(II)I"⟩, prog_10_method_15_code, 5, (Option.some Jvm.ClassFile.FieldType.int), 0, 0, bMd_bytesIn, 807, 806, 26, 63, 2)
set_option maxRecDepth 100000 in
theorem okMd_bytesIn : MOK mMd_bytesIn := ⟨by decide +kernel, by decide +kernel⟩
def bMd_blanksOf : List BLK := [
  (0, [(0, .aload_n 0, 0, 0, 0), (1, .getfield 28, 8, 9, 640), (4, .iload_n 2, 0, 0, 0), (5, .baload, 0, 0, 0)], (6, .ifCond .eq 12, 18, 9, 0)),
  (9, [(9, .aload_n 0, 0, 0, 0), (10, .getfield 25, 8, 8, 639), (13, .iload_n 2, 0, 0, 0), (14, .iaload, 0, 0, 0)], (15, .goto 11, 26, 18, 0)),
  (18, [(18, .aload_n 0, 0, 0, 0), (19, .getfield 25, 8, 8, 639), (22, .iload_n 2, 0, 0, 0), (23, .iaload, 0, 0, 0), (24, .iconst 1, 1, 0, 0), (25, .isub, 0, 0, 0)], (26, .nop, 0, 0, 0)),
  (26, [(26, .aload_n 0, 0, 0, 0), (27, .getfield 25, 8, 8, 639), (30, .iload_n 1, 0, 0, 0), (31, .iaload, 0, 0, 0), (32, .isub, 0, 0, 0)], (33, .ireturn, 0, 0, 0))]
def mMd_blanksOf : MR := (⟨"PageFormatterModel", "blanksOf", "(II)I"⟩, prog_10_method_16_code, 3, (Option.some Jvm.ClassFile.FieldType.int), 0, 0, bMd_blanksOf, 820, 819, 29, 63, 2)
set_option maxRecDepth 100000 in
theorem okMd_blanksOf : MOK mMd_blanksOf := ⟨by decide +kernel, by decide +kernel⟩
