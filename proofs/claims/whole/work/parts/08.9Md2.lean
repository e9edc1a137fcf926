def bMd_readNumber : List BLK := [
  (0, [(0, .aload_n 0, 0, 0, 0), (1, .getfield 240, 8, 44, 675), (4, .istore_n 1, 0, 0, 0), (5, .aload_n 0, 0, 0, 0), (6, .iconst 0, 0, 0, 0), (7, .putfield 243, 8, 46, 677), (10, .iload_n 1, 0, 0, 0), (11, .aload_n 0, 0, 0, 0), (12, .getfield 81, 8, 1, 632)], (15, .if_icmp .ge 48, 63, 18, 0)),
  (18, [(18, .aload_n 0, 0, 0, 0), (19, .getfield 7, 8, 0, 631), (22, .iload_n 1, 0, 0, 0), (23, .iaload, 0, 0, 0), (24, .bipush 43, 43, 0, 0)], (26, .if_icmp .eq 14, 40, 29, 0)),
  (29, [(29, .aload_n 0, 0, 0, 0), (30, .getfield 7, 8, 0, 631), (33, .iload_n 1, 0, 0, 0), (34, .iaload, 0, 0, 0), (35, .bipush 45, 45, 0, 0)], (37, .if_icmp .ne 26, 63, 40, 0)),
  (40, [(40, .aload_n 0, 0, 0, 0), (41, .aload_n 0, 0, 0, 0), (42, .getfield 7, 8, 0, 631), (45, .iload_n 1, 0, 0, 0), (46, .iaload, 0, 0, 0), (47, .bipush 43, 43, 0, 0)], (49, .if_icmp .ne 7, 56, 52, 0)),
  (52, [(52, .iconst 1, 1, 0, 0)], (53, .goto 4, 57, 56, 0)),
  (56, [(56, .iconst (-1), 0, 1, 0)], (57, .nop, 0, 0, 0)),
  (57, [(57, .putfield 243, 8, 46, 677), (60, .iinc 1 1, 1, 0, 0)], (63, .nop, 0, 0, 0)),
  (63, [(63, .aload_n 0, 0, 0, 0), (64, .iconst 0, 0, 0, 0), (65, .putfield 246, 8, 45, 676), (68, .aload_n 0, 0, 0, 0), (69, .iconst 0, 0, 0, 0), (70, .putfield 249, 8, 47, 678), (73, .iconst 0, 0, 0, 0), (74, .istore_n 2, 0, 0, 0)], (75, .nop, 0, 0, 0)),
  (75, [(75, .iload_n 1, 0, 0, 0), (76, .aload_n 0, 0, 0, 0), (77, .getfield 81, 8, 1, 632)], (80, .if_icmp .ge 66, 146, 83, 0)),
  (83, [(83, .aload_n 0, 0, 0, 0), (84, .getfield 7, 8, 0, 631), (87, .iload_n 1, 0, 0, 0), (88, .iaload, 0, 0, 0), (89, .bipush 48, 48, 0, 0), (91, .bipush 57, 57, 0, 0)], (93, .invokestatic 131, 0, 96, 780)),
  (96, [], (96, .ifCond .eq 50, 146, 99, 0)),
  (99, [(99, .aload_n 0, 0, 0, 0), (100, .iload_n 2, 0, 0, 0), (101, .iconst 4, 4, 0, 0)], (102, .if_icmp .ge 23, 125, 105, 0)),
  (105, [(105, .bipush 10, 10, 0, 0), (107, .aload_n 0, 0, 0, 0), (108, .getfield 249, 8, 47, 678), (111, .imul, 0, 0, 0), (112, .aload_n 0, 0, 0, 0), (113, .getfield 7, 8, 0, 631), (116, .iload_n 1, 0, 0, 0), (117, .iaload, 0, 0, 0), (118, .iadd, 0, 0, 0), (119, .bipush 48, 48, 0, 0), (121, .isub, 0, 0, 0)], (122, .goto 7, 129, 125, 0)),
  (125, [(125, .aload_n 0, 0, 0, 0), (126, .getfield 249, 8, 47, 678)], (129, .nop, 0, 0, 0)),
  (129, [(129, .putfield 249, 8, 47, 678), (132, .iinc 2 1, 1, 0, 0), (135, .aload_n 0, 0, 0, 0), (136, .iconst 1, 1, 0, 0), (137, .putfield 246, 8, 45, 676), (140, .iinc 1 1, 1, 0, 0)], (143, .goto (-68), 75, 146, 0)),
  (146, [], (146, .return_, 0, 0, 0))]
def mMd_readNumber : MR := (⟨"PageFormatterModel", "readNumber", "()V"⟩, prog_10_method_28_code, 3, (Option.none : Option Jvm.ClassFile.FieldType), 1, 22, bMd_readNumber, 795, 794, 23, 63, 0)
set_option maxRecDepth 100000 in
theorem okMd_readNumber : MOK mMd_readNumber := ⟨by decide +kernel, by decide +kernel⟩
def bMd_set : List BLK := [
  (0, [(0, .aload_n 0, 0, 0, 0), (1, .getfield 246, 8, 45, 676)], (4, .ifCond .ne 7, 11, 7, 0)),
  (7, [(7, .iload_n 2, 0, 0, 0)], (8, .goto 28, 36, 11, 0)),
  (11, [(11, .aload_n 0, 0, 0, 0), (12, .getfield 243, 8, 46, 677)], (15, .ifCond .ne 10, 25, 18, 0)),
  (18, [(18, .aload_n 0, 0, 0, 0), (19, .getfield 249, 8, 47, 678)], (22, .goto 14, 36, 25, 0)),
  (25, [(25, .iload_n 1, 0, 0, 0), (26, .aload_n 0, 0, 0, 0), (27, .getfield 243, 8, 46, 677), (30, .aload_n 0, 0, 0, 0), (31, .getfield 249, 8, 47, 678), (34, .imul, 0, 0, 0), (35, .iadd, 0, 0, 0)], (36, .nop, 0, 0, 0)),
  (36, [(36, .istore 5, 0, 0, 0), (38, .iload 5, 0, 0, 0), (40, .iload_n 3, 0, 0, 0)], (41, .if_icmp .ge 7, 48, 44, 0)),
  (44, [(44, .iload_n 3, 0, 0, 0)], (45, .goto 17, 62, 48, 0)),
  (48, [(48, .iload 5, 0, 0, 0), (50, .iload 4, 0, 0, 0)], (52, .if_icmp .le 8, 60, 55, 0)),
  (55, [(55, .iload 4, 0, 0, 0)], (57, .goto 5, 62, 60, 0)),
  (60, [(60, .iload 5, 0, 0, 0)], (62, .nop, 0, 0, 0)),
  (62, [], (62, .ireturn, 0, 0, 0))]
def mMd_set : MR := (⟨"PageFormatterModel", "set", "(IIII)I"⟩, prog_10_method_29_code, 6, (Option.some Jvm.ClassFile.FieldType.int), 0, 0, bMd_set, 892, 891, 45, 63, 4)
set_option maxRecDepth 100000 in
theorem okMd_set : MOK mMd_set := ⟨by decide +kernel, by decide +kernel⟩
def bMd_command : List BLK := [
  (0, [(0, .aload_n 0, 0, 0, 0), (1, .getfield 81, 8, 1, 632), (4, .iconst 2, 2, 0, 0)], (5, .if_icmp .le 23, 28, 8, 0)),
  (8, [(8, .sipush 256, 256, 0, 0), (11, .aload_n 0, 0, 0, 0), (12, .getfield 7, 8, 0, 631), (15, .iconst 1, 1, 0, 0), (16, .iaload, 0, 0, 0), (17, .imul, 0, 0, 0), (18, .aload_n 0, 0, 0, 0), (19, .getfield 7, 8, 0, 631), (22, .iconst 2, 2, 0, 0), (23, .iaload, 0, 0, 0), (24, .iadd, 0, 0, 0)], (25, .goto 4, 29, 28, 0)),
  (28, [(28, .iconst 0, 0, 0, 0)], (29, .nop, 0, 0, 0)),
  (29, [(29, .istore_n 1, 0, 0, 0), (30, .aload_n 0, 0, 0, 0), (31, .iconst 3, 3, 0, 0), (32, .putfield 240, 8, 44, 675)], (35, .nop, 0, 0, 0)),
  (35, [(35, .aload_n 0, 0, 0, 0), (36, .getfield 240, 8, 44, 675), (39, .aload_n 0, 0, 0, 0), (40, .getfield 81, 8, 1, 632)], (43, .if_icmp .ge 30, 73, 46, 0)),
  (46, [(46, .aload_n 0, 0, 0, 0), (47, .getfield 7, 8, 0, 631), (50, .aload_n 0, 0, 0, 0), (51, .getfield 240, 8, 44, 675), (54, .iaload, 0, 0, 0), (55, .bipush 32, 32, 0, 0)], (57, .if_icmp .ne 16, 73, 60, 0)),
  (60, [(60, .aload_n 0, 0, 0, 0), (61, .dup, 0, 0, 0), (62, .getfield 240, 8, 44, 675), (65, .iconst 1, 1, 0, 0), (66, .iadd, 0, 0, 0), (67, .putfield 240, 8, 44, 675)], (70, .goto (-35), 35, 73, 0)),
  (73, [(73, .aload_n 0, 0, 0, 0)], (74, .invokevirtual 252, 0, 77, 792)),
  (77, [(77, .iload_n 1, 0, 0, 0)], (78, .lookupswitch 259 #[(25202, 82), (26217, 89), (26990, 158), (27253, 116), (27763, 139), (28257, 116), (28262, 89), (29293, 216), (29801, 189)], 82, 82, 0)),
  (160, [(160, .aload_n 0, 0, 0, 0)], (161, .invokevirtual 171, 0, 164, 796)),
  (164, [], (164, .goto 178, 342, 167, 0)),
  (167, [(167, .aload_n 0, 0, 0, 0)], (168, .invokevirtual 171, 0, 171, 796)),
  (171, [(171, .aload_n 0, 0, 0, 0), (172, .aload_n 0, 0, 0, 0), (173, .getfield 7, 8, 0, 631), (176, .iconst 1, 1, 0, 0), (177, .iaload, 0, 0, 0), (178, .bipush 102, 102, 0, 0)], (180, .if_icmp .ne 7, 187, 183, 0)),
  (183, [(183, .iconst 1, 1, 0, 0)], (184, .goto 4, 188, 187, 0)),
  (187, [(187, .iconst 0, 0, 0, 0)], (188, .nop, 0, 0, 0)),
  (188, [(188, .putfield 88, 8, 25, 656)], (191, .goto 151, 342, 194, 0)),
  (194, [(194, .aload_n 0, 0, 0, 0), (195, .aload_n 0, 0, 0, 0), (196, .getfield 7, 8, 0, 631), (199, .iconst 1, 1, 0, 0), (200, .iaload, 0, 0, 0), (201, .bipush 106, 106, 0, 0)], (203, .if_icmp .ne 7, 210, 206, 0)),
  (206, [(206, .iconst 1, 1, 0, 0)], (207, .goto 4, 211, 210, 0)),
  (210, [(210, .iconst 0, 0, 0, 0)], (211, .nop, 0, 0, 0)),
  (211, [(211, .putfield 92, 8, 26, 657)], (214, .goto 128, 342, 217, 0)),
  (217, [(217, .aload_n 0, 0, 0, 0), (218, .aload_n 0, 0, 0, 0), (219, .aload_n 0, 0, 0, 0), (220, .getfield 95, 8, 27, 658), (223, .iconst 1, 1, 0, 0), (224, .iconst 1, 1, 0, 0), (225, .bipush 9, 9, 0, 0)], (227, .invokevirtual 255, 0, 230, 889)),
  (230, [(230, .putfield 95, 8, 27, 658)], (233, .goto 109, 342, 236, 0)),
  (236, [(236, .aload_n 0, 0, 0, 0), (237, .aload_n 0, 0, 0, 0), (238, .aload_n 0, 0, 0, 0), (239, .getfield 98, 8, 28, 659), (242, .iconst 0, 0, 0, 0), (243, .iconst 0, 0, 0, 0), (244, .aload_n 0, 0, 0, 0), (245, .getfield 104, 8, 30, 661), (248, .iconst 1, 1, 0, 0), (249, .isub, 0, 0, 0)], (250, .invokevirtual 255, 0, 253, 889)),
  (253, [(253, .putfield 98, 8, 28, 659), (256, .aload_n 0, 0, 0, 0), (257, .aload_n 0, 0, 0, 0), (258, .getfield 98, 8, 28, 659), (261, .putfield 101, 8, 29, 660)], (264, .goto 78, 342, 267, 0)),
  (267, [(267, .aload_n 0, 0, 0, 0)], (268, .invokevirtual 171, 0, 271, 796)),
  (271, [(271, .aload_n 0, 0, 0, 0), (272, .aload_n 0, 0, 0, 0), (273, .aload_n 0, 0, 0, 0), (274, .getfield 101, 8, 29, 660), (277, .iconst 0, 0, 0, 0), (278, .iconst 0, 0, 0, 0), (279, .aload_n 0, 0, 0, 0), (280, .getfield 104, 8, 30, 661), (283, .iconst 1, 1, 0, 0), (284, .isub, 0, 0, 0)], (285, .invokevirtual 255, 0, 288, 889)),
  (288, [(288, .putfield 101, 8, 29, 660)], (291, .goto 51, 342, 294, 0)),
  (294, [(294, .aload_n 0, 0, 0, 0), (295, .aload_n 0, 0, 0, 0), (296, .aload_n 0, 0, 0, 0), (297, .getfield 104, 8, 30, 661), (300, .bipush 40, 40, 0, 0), (302, .aload_n 0, 0, 0, 0), (303, .getfield 101, 8, 29, 660), (306, .aload_n 0, 0, 0, 0), (307, .getfield 98, 8, 28, 659)], (310, .if_icmp .le 10, 320, 313, 0)),
  (313, [(313, .aload_n 0, 0, 0, 0), (314, .getfield 101, 8, 29, 660)], (317, .goto 7, 324, 320, 0)),
  (320, [(320, .aload_n 0, 0, 0, 0), (321, .getfield 98, 8, 28, 659)], (324, .nop, 0, 0, 0)),
  (324, [(324, .iconst 1, 1, 0, 0), (325, .iadd, 0, 0, 0), (326, .bipush 80, 80, 0, 0)], (328, .invokevirtual 255, 0, 331, 889)),
  (331, [(331, .putfield 104, 8, 30, 661)], (334, .goto 8, 342, 337, 0)),
  (337, [(337, .aload_n 0, 0, 0, 0), (338, .iload_n 1, 0, 0, 0)], (339, .invokevirtual 259, 0, 342, 893)),
  (342, [], (342, .return_, 0, 0, 0))]
def mMd_command : MR := (⟨"PageFormatterModel", "command", "()V"⟩, prog_10_method_30_code, 2, (Option.none : Option Jvm.ClassFile.FieldType), 9, 219, bMd_command, 791, 790, 22, 63, 0)
set_option maxRecDepth 100000 in
theorem okMd_command : MOK mMd_command := ⟨by decide +kernel, by decide +kernel⟩
def bMd_command2 : List BLK := [
  (0, [(0, .iload_n 1, 0, 0, 0)], (1, .lookupswitch 212 #[(25200, 125), (25445, 67), (26223, 197), (26725, 182), (28780, 161), (29552, 109), (30060, 90)], 67, 67, 0)),
  (68, [(68, .aload_n 0, 0, 0, 0)], (69, .invokevirtual 171, 0, 72, 796)),
  (72, [(72, .aload_n 0, 0, 0, 0), (73, .aload_n 0, 0, 0, 0), (74, .aload_n 0, 0, 0, 0), (75, .getfield 107, 8, 31, 662), (78, .iconst 1, 1, 0, 0), (79, .iconst 0, 0, 0, 0), (80, .bipush 99, 99, 0, 0)], (82, .invokevirtual 255, 0, 85, 889)),
  (85, [(85, .putfield 107, 8, 31, 662)], (88, .goto 135, 223, 91, 0)),
  (91, [(91, .aload_n 0, 0, 0, 0), (92, .aload_n 0, 0, 0, 0), (93, .aload_n 0, 0, 0, 0), (94, .getfield 110, 8, 32, 663), (97, .iconst 1, 1, 0, 0), (98, .iconst 0, 0, 0, 0), (99, .bipush 99, 99, 0, 0)], (101, .invokevirtual 255, 0, 104, 889)),
  (104, [(104, .putfield 110, 8, 32, 663)], (107, .goto 116, 223, 110, 0)),
  (110, [(110, .aload_n 0, 0, 0, 0), (111, .aload_n 0, 0, 0, 0), (112, .iconst 0, 0, 0, 0), (113, .iconst 1, 1, 0, 0), (114, .iconst 0, 0, 0, 0), (115, .bipush 99, 99, 0, 0)], (117, .invokevirtual 255, 0, 120, 889)),
  (120, [], (120, .invokevirtual 262, 0, 123, 897)),
  (123, [], (123, .goto 100, 223, 126, 0)),
  (126, [(126, .aload_n 0, 0, 0, 0), (127, .getfield 116, 8, 34, 665)], (130, .ifCond .le 9, 139, 133, 0)),
  (133, [(133, .aload_n 0, 0, 0, 0), (134, .bipush 99, 99, 0, 0)], (136, .invokevirtual 262, 0, 139, 897)),
  (139, [(139, .aload_n 0, 0, 0, 0), (140, .aload_n 0, 0, 0, 0), (141, .aload_n 0, 0, 0, 0), (142, .getfield 122, 8, 36, 667), (145, .aload_n 0, 0, 0, 0), (146, .getfield 122, 8, 36, 667), (149, .iconst 1, 1, 0, 0), (150, .sipush 999, 999, 0, 0)], (153, .invokevirtual 255, 0, 156, 889)),
  (156, [(156, .putfield 122, 8, 36, 667)], (159, .goto 64, 223, 162, 0)),
  (162, [(162, .aload_n 0, 0, 0, 0), (163, .aload_n 0, 0, 0, 0), (164, .aload_n 0, 0, 0, 0), (165, .getfield 113, 8, 33, 664), (168, .bipush 24, 24, 0, 0), (170, .bipush 8, 8, 0, 0), (172, .bipush 99, 99, 0, 0)], (174, .invokevirtual 255, 0, 177, 889)),
  (177, [(177, .putfield 113, 8, 33, 664)], (180, .goto 43, 223, 183, 0)),
  (183, [(183, .aload_n 0, 0, 0, 0), (184, .aload_n 0, 0, 0, 0), (185, .aload_n 0, 0, 0, 0), (186, .getfield 72, 8, 37, 668)], (189, .invokevirtual 265, 0, 192, 901)),
  (192, [(192, .putfield 125, 8, 38, 669)], (195, .goto 28, 223, 198, 0)),
  (198, [(198, .aload_n 0, 0, 0, 0), (199, .aload_n 0, 0, 0, 0), (200, .aload_n 0, 0, 0, 0), (201, .getfield 75, 8, 39, 670)], (204, .invokevirtual 265, 0, 207, 901)),
  (207, [(207, .putfield 128, 8, 40, 671)], (210, .goto 13, 223, 213, 0)),
  (213, [(213, .aload_n 0, 0, 0, 0), (214, .dup, 0, 0, 0), (215, .getfield 269, 8, 41, 672), (218, .iconst 1, 1, 0, 0), (219, .iadd, 0, 0, 0), (220, .putfield 269, 8, 41, 672)], (223, .nop, 0, 0, 0)),
  (223, [], (223, .return_, 0, 0, 0))]
def mMd_command2 : MR := (⟨"PageFormatterModel", "command", "(I)V"⟩, prog_10_method_31_code, 2, (Option.none : Option Jvm.ClassFile.FieldType), 8, 198, bMd_command2, 896, 895, 46, 63, 1)
set_option maxRecDepth 100000 in
theorem okMd_command2 : MOK mMd_command2 := ⟨by decide +kernel, by decide +kernel⟩
def bMd_copyRest : List BLK := [
  (0, [(0, .iconst 0, 0, 0, 0), (1, .istore_n 2, 0, 0, 0), (2, .aload_n 0, 0, 0, 0), (3, .getfield 240, 8, 44, 675), (6, .istore_n 3, 0, 0, 0)], (7, .nop, 0, 0, 0)),
  (7, [(7, .iload_n 3, 0, 0, 0), (8, .aload_n 0, 0, 0, 0), (9, .getfield 81, 8, 1, 632)], (12, .if_icmp .ge 21, 33, 15, 0)),
  (15, [(15, .aload_n 1, 0, 0, 0), (16, .iload_n 2, 0, 0, 0), (17, .aload_n 0, 0, 0, 0), (18, .getfield 7, 8, 0, 631), (21, .iload_n 3, 0, 0, 0), (22, .iaload, 0, 0, 0), (23, .iastore, 0, 0, 0), (24, .iinc 2 1, 1, 0, 0), (27, .iinc 3 1, 1, 0, 0)], (30, .goto (-23), 7, 33, 0)),
  (33, [(33, .iload_n 2, 0, 0, 0)], (34, .ireturn, 0, 0, 0))]
def mMd_copyRest : MR := (⟨"PageFormatterModel", "copyRest", "([I)I"⟩, prog_10_method_32_code, 4, (Option.some Jvm.ClassFile.FieldType.int), 0, 0, bMd_copyRest, 904, 903, 48, 63, 1)
set_option maxRecDepth 100000 in
theorem okMd_copyRest : MOK mMd_copyRest := ⟨by decide +kernel, by decide +kernel⟩
def bMd_text : List BLK := [
  (0, [(0, .iconst 0, 0, 0, 0), (1, .istore_n 1, 0, 0, 0)], (2, .nop, 0, 0, 0)),
  (2, [(2, .iload_n 1, 0, 0, 0), (3, .aload_n 0, 0, 0, 0), (4, .getfield 81, 8, 1, 632)], (7, .if_icmp .ge 20, 27, 10, 0)),
  (10, [(10, .aload_n 0, 0, 0, 0), (11, .getfield 7, 8, 0, 631), (14, .iload_n 1, 0, 0, 0), (15, .iaload, 0, 0, 0), (16, .bipush 32, 32, 0, 0)], (18, .if_icmp .ne 9, 27, 21, 0)),
  (21, [(21, .iinc 1 1, 1, 0, 0)], (24, .goto (-22), 2, 27, 0)),
  (27, [(27, .iload_n 1, 0, 0, 0), (28, .aload_n 0, 0, 0, 0), (29, .getfield 81, 8, 1, 632)], (32, .if_icmp .ne 7, 39, 35, 0)),
  (35, [(35, .iconst 1, 1, 0, 0)], (36, .goto 4, 40, 39, 0)),
  (39, [(39, .iconst 0, 0, 0, 0)], (40, .nop, 0, 0, 0)),
  (40, [(40, .istore_n 2, 0, 0, 0), (41, .iload_n 1, 0, 0, 0)], (42, .ifCond .gt 7, 49, 45, 0)),
  (45, [(45, .iload_n 2, 0, 0, 0)], (46, .ifCond .eq 7, 53, 49, 0)),
  (49, [(49, .aload_n 0, 0, 0, 0)], (50, .invokevirtual 171, 0, 53, 796)),
  (53, [(53, .iload_n 2, 0, 0, 0)], (54, .ifCond .eq 13, 67, 57, 0)),
  (57, [(57, .aload_n 0, 0, 0, 0), (58, .iconst 0, 0, 0, 0), (59, .putfield 161, 8, 3, 634), (62, .aload_n 0, 0, 0, 0)], (63, .invokevirtual 234, 0, 66, 857)),
  (66, [], (66, .return_, 0, 0, 0)),
  (67, [(67, .iload_n 1, 0, 0, 0)], (68, .ifCond .le 37, 105, 71, 0)),
  (71, [(71, .aload_n 0, 0, 0, 0), (72, .aload_n 0, 0, 0, 0), (73, .getfield 101, 8, 29, 660), (76, .iload_n 1, 0, 0, 0), (77, .iadd, 0, 0, 0), (78, .aload_n 0, 0, 0, 0), (79, .getfield 104, 8, 30, 661), (82, .iconst 1, 1, 0, 0), (83, .isub, 0, 0, 0)], (84, .if_icmp .le 12, 96, 87, 0)),
  (87, [(87, .aload_n 0, 0, 0, 0), (88, .getfield 104, 8, 30, 661), (91, .iconst 1, 1, 0, 0), (92, .isub, 0, 0, 0)], (93, .goto 9, 102, 96, 0)),
  (96, [(96, .aload_n 0, 0, 0, 0), (97, .getfield 101, 8, 29, 660), (100, .iload_n 1, 0, 0, 0), (101, .iadd, 0, 0, 0)], (102, .nop, 0, 0, 0)),
  (102, [(102, .putfield 101, 8, 29, 660)], (105, .nop, 0, 0, 0)),
  (105, [(105, .aload_n 0, 0, 0, 0), (106, .getfield 110, 8, 32, 663)], (109, .ifCond .le 9, 118, 112, 0)),
  (112, [(112, .sipush 256, 256, 0, 0)], (115, .goto 4, 119, 118, 0)),
  (118, [(118, .iconst 0, 0, 0, 0)], (119, .nop, 0, 0, 0)),
  (119, [(119, .istore_n 3, 0, 0, 0), (120, .aload_n 0, 0, 0, 0), (121, .aload_n 0, 0, 0, 0), (122, .getfield 110, 8, 32, 663)], (125, .ifCond .le 12, 137, 128, 0)),
  (128, [(128, .aload_n 0, 0, 0, 0), (129, .getfield 110, 8, 32, 663), (132, .iconst 1, 1, 0, 0), (133, .isub, 0, 0, 0)], (134, .goto 4, 138, 137, 0)),
  (137, [(137, .iconst 0, 0, 0, 0)], (138, .nop, 0, 0, 0)),
  (138, [(138, .putfield 110, 8, 32, 663), (141, .aload_n 0, 0, 0, 0), (142, .getfield 107, 8, 31, 662)], (145, .ifCond .gt 10, 155, 148, 0)),
  (148, [(148, .aload_n 0, 0, 0, 0), (149, .getfield 88, 8, 25, 656)], (152, .ifCond .ne 99, 251, 155, 0)),
  (155, [(155, .aload_n 0, 0, 0, 0), (156, .iconst 0, 0, 0, 0), (157, .putfield 161, 8, 3, 634), (160, .iload_n 1, 0, 0, 0), (161, .istore 4, 0, 0, 0)], (163, .nop, 0, 0, 0)),
  (163, [(163, .iload 4, 0, 0, 0), (165, .aload_n 0, 0, 0, 0), (166, .getfield 81, 8, 1, 632)], (169, .if_icmp .ge 66, 235, 172, 0)),
  (172, [(172, .aload_n 0, 0, 0, 0), (173, .getfield 7, 8, 0, 631), (176, .iload 4, 0, 0, 0), (178, .iaload, 0, 0, 0), (179, .bipush 94, 94, 0, 0)], (181, .if_icmp .eq 48, 229, 184, 0)),
  (184, [(184, .aload_n 0, 0, 0, 0), (185, .getfield 13, 8, 2, 633), (188, .aload_n 0, 0, 0, 0), (189, .getfield 161, 8, 3, 634), (192, .aload_n 0, 0, 0, 0), (193, .getfield 7, 8, 0, 631), (196, .iload 4, 0, 0, 0), (198, .iaload, 0, 0, 0), (199, .bipush 32, 32, 0, 0)], (201, .if_icmp .ne 8, 209, 204, 0)),
  (204, [(204, .bipush 32, 32, 0, 0)], (206, .goto 12, 218, 209, 0)),
  (209, [(209, .aload_n 0, 0, 0, 0), (210, .getfield 7, 8, 0, 631), (213, .iload 4, 0, 0, 0), (215, .iaload, 0, 0, 0), (216, .iload_n 3, 0, 0, 0), (217, .ior, 0, 0, 0)], (218, .nop, 0, 0, 0)),
  (218, [(218, .iastore, 0, 0, 0), (219, .aload_n 0, 0, 0, 0), (220, .dup, 0, 0, 0), (221, .getfield 161, 8, 3, 634), (224, .iconst 1, 1, 0, 0), (225, .iadd, 0, 0, 0), (226, .putfield 161, 8, 3, 634)], (229, .nop, 0, 0, 0)),
  (229, [(229, .iinc 4 1, 1, 0, 0)], (232, .goto (-69), 163, 235, 0)),
  (235, [(235, .aload_n 0, 0, 0, 0), (236, .getfield 107, 8, 31, 662)], (239, .ifCond .le 7, 246, 242, 0)),
  (242, [(242, .aload_n 0, 0, 0, 0)], (243, .invokevirtual 272, 0, 246, 909)),
  (246, [(246, .aload_n 0, 0, 0, 0)], (247, .invokevirtual 234, 0, 250, 857)),
  (250, [], (250, .return_, 0, 0, 0)),
  (251, [(251, .aload_n 0, 0, 0, 0), (252, .iload_n 1, 0, 0, 0), (253, .iload_n 3, 0, 0, 0)], (254, .invokevirtual 275, 0, 257, 913)),
  (257, [], (257, .return_, 0, 0, 0))]
def mMd_text : MR := (⟨"PageFormatterModel", "text", "()V"⟩, prog_10_method_33_code, 5, (Option.none : Option Jvm.ClassFile.FieldType), 8, 200, bMd_text, 908, 907, 49, 63, 0)
set_option maxRecDepth 100000 in
theorem okMd_text : MOK mMd_text := ⟨by decide +kernel, by decide +kernel⟩
def bMd_centre : List BLK := [
  (0, [(0, .aload_n 0, 0, 0, 0), (1, .dup, 0, 0, 0), (2, .getfield 107, 8, 31, 662), (5, .iconst 1, 1, 0, 0), (6, .isub, 0, 0, 0), (7, .putfield 107, 8, 31, 662)], (10, .nop, 0, 0, 0)),
  (10, [(10, .aload_n 0, 0, 0, 0), (11, .getfield 161, 8, 3, 634)], (14, .ifCond .le 32, 46, 17, 0)),
  (17, [(17, .aload_n 0, 0, 0, 0), (18, .getfield 13, 8, 2, 633), (21, .aload_n 0, 0, 0, 0), (22, .getfield 161, 8, 3, 634), (25, .iconst 1, 1, 0, 0), (26, .isub, 0, 0, 0), (27, .iaload, 0, 0, 0), (28, .bipush 32, 32, 0, 0)], (30, .if_icmp .ne 16, 46, 33, 0)),
  (33, [(33, .aload_n 0, 0, 0, 0), (34, .dup, 0, 0, 0), (35, .getfield 161, 8, 3, 634), (38, .iconst 1, 1, 0, 0), (39, .isub, 0, 0, 0), (40, .putfield 161, 8, 3, 634)], (43, .goto (-33), 10, 46, 0)),
  (46, [(46, .aload_n 0, 0, 0, 0), (47, .getfield 104, 8, 30, 661), (50, .aload_n 0, 0, 0, 0), (51, .getfield 101, 8, 29, 660), (54, .iadd, 0, 0, 0), (55, .iconst 1, 1, 0, 0), (56, .iadd, 0, 0, 0), (57, .aload_n 0, 0, 0, 0), (58, .getfield 161, 8, 3, 634), (61, .isub, 0, 0, 0), (62, .istore_n 1, 0, 0, 0), (63, .aload_n 0, 0, 0, 0), (64, .iload_n 1, 0, 0, 0)], (65, .ifCond .ge 7, 72, 68, 0)),
  (68, [(68, .iconst 0, 0, 0, 0)], (69, .goto 6, 75, 72, 0)),
  (72, [(72, .iload_n 1, 0, 0, 0), (73, .iconst 2, 2, 0, 0), (74, .idiv, 0, 0, 0)], (75, .nop, 0, 0, 0)),
  (75, [(75, .putfield 101, 8, 29, 660)], (78, .return_, 0, 0, 0))]
def mMd_centre : MR := (⟨"PageFormatterModel", "centre", "()V"⟩, prog_10_method_34_code, 2, (Option.none : Option Jvm.ClassFile.FieldType), 0, 0, bMd_centre, 912, 911, 50, 63, 0)
set_option maxRecDepth 100000 in
theorem okMd_centre : MOK mMd_centre := ⟨by decide +kernel, by decide +kernel⟩
def bMd_readWords : List BLK := [
  (0, [(0, .iload_n 1, 0, 0, 0), (1, .istore_n 3, 0, 0, 0)], (2, .nop, 0, 0, 0)),
  (2, [(2, .iload_n 3, 0, 0, 0), (3, .aload_n 0, 0, 0, 0), (4, .getfield 81, 8, 1, 632)], (7, .if_icmp .ge 157, 164, 10, 0)),
  (10, [(10, .aload_n 0, 0, 0, 0), (11, .getfield 7, 8, 0, 631), (14, .iload_n 3, 0, 0, 0), (15, .iaload, 0, 0, 0), (16, .bipush 32, 32, 0, 0)], (18, .if_icmp .ne 9, 27, 21, 0)),
  (21, [(21, .iinc 3 1, 1, 0, 0)], (24, .goto (-22), 2, 27, 0)),
  (27, [(27, .aload_n 0, 0, 0, 0), (28, .iload_n 3, 0, 0, 0)], (29, .invokevirtual 278, 0, 32, 917)),
  (32, [], (32, .ifCond .eq 28, 60, 35, 0)),
  (35, [(35, .iload_n 3, 0, 0, 0), (36, .aload_n 0, 0, 0, 0), (37, .getfield 81, 8, 1, 632)], (40, .if_icmp .ge (-38), 2, 43, 0)),
  (43, [(43, .aload_n 0, 0, 0, 0), (44, .getfield 7, 8, 0, 631), (47, .iload_n 3, 0, 0, 0), (48, .iaload, 0, 0, 0), (49, .bipush 32, 32, 0, 0)], (51, .if_icmp .eq (-49), 2, 54, 0)),
  (54, [(54, .iinc 3 1, 1, 0, 0)], (57, .goto (-22), 35, 60, 0)),
  (60, [(60, .aload_n 0, 0, 0, 0), (61, .getfield 85, 8, 6, 637), (64, .bipush 80, 80, 0, 0)], (66, .if_icmp .ne 7, 73, 69, 0)),
  (69, [(69, .aload_n 0, 0, 0, 0)], (70, .invokevirtual 171, 0, 73, 796)),
  (73, [(73, .aload_n 0, 0, 0, 0), (74, .getfield 85, 8, 6, 637)], (77, .ifCond .ne 7, 84, 80, 0)),
  (80, [(80, .iconst 0, 0, 0, 0)], (81, .goto 14, 95, 84, 0)),
  (84, [(84, .aload_n 0, 0, 0, 0), (85, .getfield 19, 8, 5, 636), (88, .aload_n 0, 0, 0, 0), (89, .getfield 85, 8, 6, 637), (92, .iconst 1, 1, 0, 0), (93, .isub, 0, 0, 0), (94, .iaload, 0, 0, 0)], (95, .nop, 0, 0, 0)),
  (95, [(95, .istore 4, 0, 0, 0)], (97, .nop, 0, 0, 0)),
  (97, [(97, .iload_n 3, 0, 0, 0), (98, .aload_n 0, 0, 0, 0), (99, .getfield 81, 8, 1, 632)], (102, .if_icmp .ge 38, 140, 105, 0)),
  (105, [(105, .aload_n 0, 0, 0, 0), (106, .getfield 7, 8, 0, 631), (109, .iload_n 3, 0, 0, 0), (110, .iaload, 0, 0, 0), (111, .bipush 32, 32, 0, 0)], (113, .if_icmp .eq 27, 140, 116, 0)),
  (116, [(116, .aload_n 0, 0, 0, 0), (117, .getfield 16, 8, 4, 635), (120, .iload 4, 0, 0, 0), (122, .aload_n 0, 0, 0, 0), (123, .getfield 7, 8, 0, 631), (126, .iload_n 3, 0, 0, 0), (127, .iaload, 0, 0, 0), (128, .iload_n 2, 0, 0, 0), (129, .ior, 0, 0, 0), (130, .iastore, 0, 0, 0), (131, .iinc 4 1, 1, 0, 0), (134, .iinc 3 1, 1, 0, 0)], (137, .goto (-40), 97, 140, 0)),
  (140, [(140, .aload_n 0, 0, 0, 0), (141, .getfield 19, 8, 5, 636), (144, .aload_n 0, 0, 0, 0), (145, .getfield 85, 8, 6, 637), (148, .iload 4, 0, 0, 0), (150, .iastore, 0, 0, 0), (151, .aload_n 0, 0, 0, 0), (152, .dup, 0, 0, 0), (153, .getfield 85, 8, 6, 637), (156, .iconst 1, 1, 0, 0), (157, .iadd, 0, 0, 0), (158, .putfield 85, 8, 6, 637)], (161, .goto (-159), 2, 164, 0)),
  (164, [], (164, .return_, 0, 0, 0))]
def mMd_readWords : MR := (⟨"PageFormatterModel", "readWords", "(II)V"⟩, prog_10_method_35_code, 5, (Option.none : Option Jvm.ClassFile.FieldType), 7, 176, bMd_readWords, 916, 915, 51, 63, 2)
set_option maxRecDepth 100000 in
theorem okMd_readWords : MOK mMd_readWords := ⟨by decide +kernel, by decide +kernel⟩
def bMd_isBare : List BLK := [
  (0, [(0, .iconst 1, 1, 0, 0), (1, .istore_n 2, 0, 0, 0), (2, .iload_n 1, 0, 0, 0), (3, .istore_n 3, 0, 0, 0)], (4, .nop, 0, 0, 0)),
  (4, [(4, .iload_n 3, 0, 0, 0), (5, .aload_n 0, 0, 0, 0), (6, .getfield 81, 8, 1, 632)], (9, .if_icmp .ge 41, 50, 12, 0)),
  (12, [(12, .aload_n 0, 0, 0, 0), (13, .getfield 7, 8, 0, 631), (16, .iload_n 3, 0, 0, 0), (17, .iaload, 0, 0, 0), (18, .bipush 32, 32, 0, 0)], (20, .if_icmp .eq 30, 50, 23, 0)),
  (23, [(23, .iload_n 2, 0, 0, 0)], (24, .ifCond .eq 18, 42, 27, 0)),
  (27, [(27, .aload_n 0, 0, 0, 0), (28, .getfield 7, 8, 0, 631), (31, .iload_n 3, 0, 0, 0), (32, .iaload, 0, 0, 0), (33, .bipush 94, 94, 0, 0)], (35, .if_icmp .ne 7, 42, 38, 0)),
  (38, [(38, .iconst 1, 1, 0, 0)], (39, .goto 4, 43, 42, 0)),
  (42, [(42, .iconst 0, 0, 0, 0)], (43, .nop, 0, 0, 0)),
  (43, [(43, .istore_n 2, 0, 0, 0), (44, .iinc 3 1, 1, 0, 0)], (47, .goto (-43), 4, 50, 0)),
  (50, [(50, .iload_n 2, 0, 0, 0)], (51, .ireturn, 0, 0, 0))]
def mMd_isBare : MR := (⟨"PageFormatterModel", "isBare", "(I)Z"⟩, prog_10_method_36_code, 4, (Option.some Jvm.ClassFile.FieldType.boolean), 0, 0, bMd_isBare, 920, 919, 52, 63, 1)
set_option maxRecDepth 100000 in
theorem okMd_isBare : MOK mMd_isBare := ⟨by decide +kernel, by decide +kernel⟩
def bMd_enter : List BLK := [
  (0, [(0, .aload_n 0, 0, 0, 0), (1, .getfield 151, 8, 42, 673), (4, .istore_n 1, 0, 0, 0), (5, .aload_n 0, 0, 0, 0), (6, .getfield 81, 8, 1, 632)], (9, .ifCond .le 21, 30, 12, 0)),
  (12, [(12, .aload_n 0, 0, 0, 0), (13, .getfield 7, 8, 0, 631), (16, .iconst 0, 0, 0, 0), (17, .iaload, 0, 0, 0), (18, .bipush 46, 46, 0, 0)], (20, .if_icmp .ne 10, 30, 23, 0)),
  (23, [(23, .aload_n 0, 0, 0, 0)], (24, .invokevirtual 282, 0, 27, 788)),
  (27, [], (27, .goto 7, 34, 30, 0)),
  (30, [(30, .aload_n 0, 0, 0, 0)], (31, .invokevirtual 284, 0, 34, 905)),
  (34, [(34, .aload_n 0, 0, 0, 0), (35, .iconst 0, 0, 0, 0), (36, .putfield 81, 8, 1, 632), (39, .aload_n 0, 0, 0, 0), (40, .getfield 151, 8, 42, 673), (43, .iload_n 1, 0, 0, 0), (44, .isub, 0, 0, 0)], (45, .ireturn, 0, 0, 0))]
def mMd_enter : MR := (⟨"PageFormatterModel", "enter", "()I"⟩, prog_10_method_37_code, 2, (Option.some Jvm.ClassFile.FieldType.int), 10, 240, bMd_enter, 787, 785, 786, 63, 0)
set_option maxRecDepth 100000 in
theorem okMd_enter : MOK mMd_enter := ⟨by decide +kernel, by decide +kernel⟩
