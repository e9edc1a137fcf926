def bMd_finish : List BLK := [
  (0, [(0, .aload_n 0, 0, 0, 0), (1, .getfield 151, 8, 42, 673), (4, .istore_n 1, 0, 0, 0), (5, .aload_n 0, 0, 0, 0)], (6, .invokevirtual 171, 0, 9, 796)),
  (9, [(9, .aload_n 0, 0, 0, 0), (10, .getfield 116, 8, 34, 665)], (13, .ifCond .le 9, 22, 16, 0)),
  (16, [(16, .aload_n 0, 0, 0, 0), (17, .bipush 99, 99, 0, 0)], (19, .invokevirtual 262, 0, 22, 897)),
  (22, [(22, .aload_n 0, 0, 0, 0)], (23, .invokevirtual 78, 0, 26, 627)),
  (26, [(26, .aload_n 0, 0, 0, 0), (27, .getfield 151, 8, 42, 673), (30, .iload_n 1, 0, 0, 0), (31, .isub, 0, 0, 0)], (32, .ireturn, 0, 0, 0))]
def mMd_finish : MR := (⟨"PageFormatterModel", "finish", "()I"⟩, prog_10_method_38_code, 2, (Option.some Jvm.ClassFile.FieldType.int), 8, 198, bMd_finish, 924, 922, 923, 63, 0)
set_option maxRecDepth 100000 in
theorem okMd_finish : MOK mMd_finish := ⟨by decide +kernel, by decide +kernel⟩
def bMd_wipe : List BLK := [
  (0, [(0, .aload_n 0, 0, 0, 0), (1, .getfield 137, 8, 24, 655), (4, .istore_n 1, 0, 0, 0), (5, .aload_n 0, 0, 0, 0), (6, .iconst 0, 0, 0, 0), (7, .putfield 137, 8, 24, 655), (10, .iload_n 1, 0, 0, 0)], (11, .ireturn, 0, 0, 0))]
def mMd_wipe : MR := (⟨"PageFormatterModel", "wipe", "()I"⟩, prog_10_method_39_code, 2, (Option.some Jvm.ClassFile.FieldType.int), 0, 0, bMd_wipe, 928, 926, 927, 63, 0)
set_option maxRecDepth 100000 in
theorem okMd_wipe : MOK mMd_wipe := ⟨by decide +kernel, by decide +kernel⟩
def bMd_length : List BLK := [
  (0, [(0, .aload_n 0, 0, 0, 0), (1, .getfield 137, 8, 24, 655)], (4, .ireturn, 0, 0, 0))]
def mMd_length : MR := (⟨"PageFormatterModel", "length", "()I"⟩, prog_10_method_40_code, 1, (Option.some Jvm.ClassFile.FieldType.int), 0, 0, bMd_length, 932, 930, 931, 63, 0)
set_option maxRecDepth 100000 in
theorem okMd_length : MOK mMd_length := ⟨by decide +kernel, by decide +kernel⟩
def bMd_at : List BLK := [
  (0, [(0, .iload_n 1, 0, 0, 0), (1, .iconst 0, 0, 0, 0), (2, .aload_n 0, 0, 0, 0), (3, .getfield 137, 8, 24, 655), (6, .iconst 1, 1, 0, 0), (7, .isub, 0, 0, 0)], (8, .invokestatic 131, 0, 11, 780)),
  (11, [], (11, .ifCond .eq 12, 23, 14, 0)),
  (14, [(14, .aload_n 0, 0, 0, 0), (15, .getfield 69, 8, 23, 654), (18, .iload_n 1, 0, 0, 0), (19, .iaload, 0, 0, 0)], (20, .goto 4, 24, 23, 0)),
  (23, [(23, .iconst (-1), 0, 1, 0)], (24, .nop, 0, 0, 0)),
  (24, [], (24, .ireturn, 0, 0, 0))]
def mMd_at : MR := (⟨"PageFormatterModel", "at", "(I)I"⟩, prog_10_method_41_code, 2, (Option.some Jvm.ClassFile.FieldType.int), 1, 22, bMd_at, 936, 934, 935, 63, 1)
set_option maxRecDepth 100000 in
theorem okMd_at : MOK mMd_at := ⟨by decide +kernel, by decide +kernel⟩
def bMd_demerits : List BLK := [
  (0, [(0, .aload_n 0, 0, 0, 0), (1, .getfield 47, 8, 15, 646)], (4, .lreturn, 0, 0, 0))]
def mMd_demerits : MR := (⟨"PageFormatterModel", "demerits", "()J"⟩, prog_10_method_42_code, 1, (Option.some Jvm.ClassFile.FieldType.long), 0, 0, bMd_demerits, 940, 938, 939, 63, 0)
set_option maxRecDepth 100000 in
theorem okMd_demerits : MOK mMd_demerits := ⟨by decide +kernel, by decide +kernel⟩
def bMd_line : List BLK := [
  (0, [(0, .iload_n 1, 0, 0, 0), (1, .iconst 0, 0, 0, 0), (2, .aload_n 0, 0, 0, 0), (3, .getfield 225, 8, 16, 647), (6, .iconst 1, 1, 0, 0), (7, .isub, 0, 0, 0)], (8, .invokestatic 131, 0, 11, 780)),
  (11, [], (11, .ifCond .ne 5, 16, 14, 0)),
  (14, [(14, .iconst (-1), 0, 1, 0)], (15, .ireturn, 0, 0, 0)),
  (16, [(16, .iload_n 2, 0, 0, 0)], (17, .tableswitch 89 0 5 #[39, 46, 53, 60, 67, 82], 39, 39, 0)),
  (56, [(56, .aload_n 0, 0, 0, 0), (57, .getfield 51, 8, 17, 648), (60, .iload_n 1, 0, 0, 0), (61, .iaload, 0, 0, 0)], (62, .ireturn, 0, 0, 0)),
  (63, [(63, .aload_n 0, 0, 0, 0), (64, .getfield 54, 8, 18, 649), (67, .iload_n 1, 0, 0, 0), (68, .iaload, 0, 0, 0)], (69, .ireturn, 0, 0, 0)),
  (70, [(70, .aload_n 0, 0, 0, 0), (71, .getfield 57, 8, 19, 650), (74, .iload_n 1, 0, 0, 0), (75, .iaload, 0, 0, 0)], (76, .ireturn, 0, 0, 0)),
  (77, [(77, .aload_n 0, 0, 0, 0), (78, .getfield 60, 8, 20, 651), (81, .iload_n 1, 0, 0, 0), (82, .iaload, 0, 0, 0)], (83, .ireturn, 0, 0, 0)),
  (84, [(84, .aload_n 0, 0, 0, 0), (85, .getfield 63, 8, 21, 652), (88, .iload_n 1, 0, 0, 0), (89, .baload, 0, 0, 0)], (90, .ifCond .eq 7, 97, 93, 0)),
  (93, [(93, .iconst 1, 1, 0, 0)], (94, .goto 4, 98, 97, 0)),
  (97, [(97, .iconst 0, 0, 0, 0)], (98, .nop, 0, 0, 0)),
  (98, [], (98, .ireturn, 0, 0, 0)),
  (99, [(99, .aload_n 0, 0, 0, 0), (100, .getfield 66, 8, 22, 653), (103, .iload_n 1, 0, 0, 0), (104, .iaload, 0, 0, 0)], (105, .ireturn, 0, 0, 0)),
  (106, [(106, .bipush (-2), 1, 1, 0)], (108, .ireturn, 0, 0, 0))]
def mMd_line : MR := (⟨"PageFormatterModel", "line", "(II)I"⟩, prog_10_method_43_code, 3, (Option.some Jvm.ClassFile.FieldType.int), 1, 22, bMd_line, 944, 942, 943, 63, 2)
set_option maxRecDepth 100000 in
theorem okMd_line : MOK mMd_line := ⟨by decide +kernel, by decide +kernel⟩
def bMd_count : List BLK := [
  (0, [(0, .iload_n 1, 0, 0, 0)], (1, .tableswitch 114 0 10 #[59, 64, 69, 74, 79, 84, 89, 94, 99, 104, 109], 59, 59, 0)),
  (60, [(60, .aload_n 0, 0, 0, 0), (61, .getfield 85, 8, 6, 637)], (64, .ireturn, 0, 0, 0)),
  (65, [(65, .aload_n 0, 0, 0, 0), (66, .getfield 116, 8, 34, 665)], (69, .ireturn, 0, 0, 0)),
  (70, [(70, .aload_n 0, 0, 0, 0), (71, .getfield 119, 8, 35, 666)], (74, .ireturn, 0, 0, 0)),
  (75, [(75, .aload_n 0, 0, 0, 0), (76, .getfield 122, 8, 36, 667)], (79, .ireturn, 0, 0, 0)),
  (80, [(80, .aload_n 0, 0, 0, 0), (81, .getfield 104, 8, 30, 661)], (84, .ireturn, 0, 0, 0)),
  (85, [(85, .aload_n 0, 0, 0, 0), (86, .getfield 98, 8, 28, 659)], (89, .ireturn, 0, 0, 0)),
  (90, [(90, .aload_n 0, 0, 0, 0), (91, .getfield 101, 8, 29, 660)], (94, .ireturn, 0, 0, 0)),
  (95, [(95, .aload_n 0, 0, 0, 0), (96, .getfield 95, 8, 27, 658)], (99, .ireturn, 0, 0, 0)),
  (100, [(100, .aload_n 0, 0, 0, 0), (101, .getfield 107, 8, 31, 662)], (104, .ireturn, 0, 0, 0)),
  (105, [(105, .aload_n 0, 0, 0, 0), (106, .getfield 110, 8, 32, 663)], (109, .ireturn, 0, 0, 0)),
  (110, [(110, .aload_n 0, 0, 0, 0), (111, .getfield 113, 8, 33, 664)], (114, .ireturn, 0, 0, 0)),
  (115, [(115, .aload_n 0, 0, 0, 0), (116, .iload_n 1, 0, 0, 0)], (117, .invokevirtual 287, 0, 120, 949)),
  (120, [], (120, .ireturn, 0, 0, 0))]
def mMd_count : MR := (⟨"PageFormatterModel", "count", "(I)I"⟩, prog_10_method_44_code, 2, (Option.some Jvm.ClassFile.FieldType.int), 1, 21, bMd_count, 948, 946, 947, 63, 1)
set_option maxRecDepth 100000 in
theorem okMd_count : MOK mMd_count := ⟨by decide +kernel, by decide +kernel⟩
def bMd_count2 : List BLK := [
  (0, [(0, .iload_n 1, 0, 0, 0)], (1, .tableswitch 85 11 16 #[39, 52, 65, 70, 75, 80], 39, 39, 0)),
  (40, [(40, .aload_n 0, 0, 0, 0), (41, .getfield 88, 8, 25, 656)], (44, .ifCond .eq 7, 51, 47, 0)),
  (47, [(47, .iconst 1, 1, 0, 0)], (48, .goto 4, 52, 51, 0)),
  (51, [(51, .iconst 0, 0, 0, 0)], (52, .nop, 0, 0, 0)),
  (52, [], (52, .ireturn, 0, 0, 0)),
  (53, [(53, .aload_n 0, 0, 0, 0), (54, .getfield 92, 8, 26, 657)], (57, .ifCond .eq 7, 64, 60, 0)),
  (60, [(60, .iconst 1, 1, 0, 0)], (61, .goto 4, 65, 64, 0)),
  (64, [(64, .iconst 0, 0, 0, 0)], (65, .nop, 0, 0, 0)),
  (65, [], (65, .ireturn, 0, 0, 0)),
  (66, [(66, .aload_n 0, 0, 0, 0), (67, .getfield 225, 8, 16, 647)], (70, .ireturn, 0, 0, 0)),
  (71, [(71, .aload_n 0, 0, 0, 0), (72, .getfield 269, 8, 41, 672)], (75, .ireturn, 0, 0, 0)),
  (76, [(76, .aload_n 0, 0, 0, 0), (77, .getfield 151, 8, 42, 673)], (80, .ireturn, 0, 0, 0)),
  (81, [(81, .aload_n 0, 0, 0, 0), (82, .getfield 81, 8, 1, 632)], (85, .ireturn, 0, 0, 0)),
  (86, [(86, .bipush (-2), 1, 1, 0)], (88, .ireturn, 0, 0, 0))]
def mMd_count2 : MR := (⟨"PageFormatterModel", "count2", "(I)I"⟩, prog_10_method_45_code, 2, (Option.some Jvm.ClassFile.FieldType.int), 0, 0, bMd_count2, 952, 951, 53, 63, 1)
set_option maxRecDepth 100000 in
theorem okMd_count2 : MOK mMd_count2 := ⟨by decide +kernel, by decide +kernel⟩
