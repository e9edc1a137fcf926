def bPf_breaksFirst : List BLK := [
  (0, [(0, .aload_n 0, 0, 0, 0), (1, .getfield 19, 7, 1, 288), (4, .getfield 158, 0, 0, 99)], (7, .lookupswitch 75 #[(25200, 67), (25202, 65), (25445, 65), (26217, 65), (28262, 65), (29552, 65), (29801, 65)], 65, 65, 0)),
  (72, [(72, .iconst 1, 1, 0, 0)], (73, .ireturn, 0, 0, 0)),
  (74, [(74, .aload_n 0, 0, 0, 0), (75, .getfield 42, 7, 4, 291)], (78, .invokevirtual 95, 0, 81, 349)),
  (81, [], (81, .ireturn, 0, 0, 0)),
  (82, [(82, .iconst 0, 0, 0, 0)], (83, .ireturn, 0, 0, 0))]
def mPf_breaksFirst : MR := (⟨"PageFormatter", "breaksFirst", "()Z"⟩, prog_1_method_11_code, 1, (Option.some Jvm.ClassFile.FieldType.boolean), 1, 20, bPf_breaksFirst, 348, 347, 1, 55, 0)
set_option maxRecDepth 100000 in
theorem okPf_breaksFirst : MOK mPf_breaksFirst := ⟨by decide +kernel, by decide +kernel⟩
def bPf_obey : List BLK := [
  (0, [(0, .aload_n 0, 0, 0, 0), (1, .getfield 19, 7, 1, 288), (4, .getfield 158, 0, 0, 99)], (7, .lookupswitch 452 #[(25200, 367), (25202, 137), (25445, 289), (26217, 140), (26223, 428), (26725, 404), (26990, 212), (27253, 162), (27763, 184), (28257, 173), (28262, 151), (28780, 374), (29293, 254), (29552, 345), (29801, 219), (30060, 317)], 137, 137, 0)),
  (144, [], (144, .goto 325, 469, 147, 0)),
  (147, [(147, .aload_n 0, 0, 0, 0), (148, .getfield 26, 7, 2, 289), (151, .iconst 1, 1, 0, 0), (152, .putfield 148, 1, 7, 145)], (155, .goto 314, 469, 158, 0)),
  (158, [(158, .aload_n 0, 0, 0, 0), (159, .getfield 26, 7, 2, 289), (162, .iconst 0, 0, 0, 0), (163, .putfield 148, 1, 7, 145)], (166, .goto 303, 469, 169, 0)),
  (169, [(169, .aload_n 0, 0, 0, 0), (170, .getfield 26, 7, 2, 289), (173, .iconst 1, 1, 0, 0), (174, .putfield 152, 1, 8, 147)], (177, .goto 292, 469, 180, 0)),
  (180, [(180, .aload_n 0, 0, 0, 0), (181, .getfield 26, 7, 2, 289), (184, .iconst 0, 0, 0, 0), (185, .putfield 152, 1, 8, 147)], (188, .goto 281, 469, 191, 0)),
  (191, [(191, .aload_n 0, 0, 0, 0), (192, .getfield 26, 7, 2, 289), (195, .aload_n 0, 0, 0, 0), (196, .getfield 19, 7, 1, 288), (199, .aload_n 0, 0, 0, 0), (200, .getfield 26, 7, 2, 289), (203, .getfield 136, 1, 3, 136), (206, .iconst 1, 1, 0, 0), (207, .iconst 1, 1, 0, 0), (208, .bipush 9, 9, 0, 0)], (210, .invokevirtual 161, 0, 213, 490)),
  (213, [(213, .putfield 136, 1, 3, 136)], (216, .goto 253, 469, 219, 0)),
  (219, [(219, .aload_n 0, 0, 0, 0)], (220, .invokevirtual 165, 0, 223, 496)),
  (223, [], (223, .goto 246, 469, 226, 0)),
  (226, [(226, .aload_n 0, 0, 0, 0), (227, .getfield 26, 7, 2, 289), (230, .aload_n 0, 0, 0, 0), (231, .getfield 19, 7, 1, 288), (234, .aload_n 0, 0, 0, 0), (235, .getfield 26, 7, 2, 289), (238, .getfield 133, 1, 2, 133), (241, .iconst 0, 0, 0, 0), (242, .iconst 0, 0, 0, 0), (243, .aload_n 0, 0, 0, 0), (244, .getfield 26, 7, 2, 289), (247, .getfield 127, 1, 0, 127), (250, .iconst 1, 1, 0, 0), (251, .isub, 0, 0, 0)], (252, .invokevirtual 161, 0, 255, 490)),
  (255, [(255, .putfield 133, 1, 2, 133)], (258, .goto 211, 469, 261, 0)),
  (261, [(261, .aload_n 0, 0, 0, 0), (262, .getfield 26, 7, 2, 289), (265, .aload_n 0, 0, 0, 0), (266, .getfield 19, 7, 1, 288), (269, .aload_n 0, 0, 0, 0), (270, .getfield 26, 7, 2, 289), (273, .getfield 127, 1, 0, 127), (276, .bipush 40, 40, 0, 0), (278, .aload_n 0, 0, 0, 0), (279, .getfield 26, 7, 2, 289)], (282, .invokevirtual 168, 0, 285, 500)),
  (285, [(285, .bipush 80, 80, 0, 0)], (287, .invokevirtual 161, 0, 290, 490)),
  (290, [(290, .putfield 127, 1, 0, 127)], (293, .goto 176, 469, 296, 0)),
  (296, [(296, .aload_n 0, 0, 0, 0), (297, .getfield 26, 7, 2, 289), (300, .aload_n 0, 0, 0, 0), (301, .getfield 19, 7, 1, 288), (304, .aload_n 0, 0, 0, 0), (305, .getfield 26, 7, 2, 289), (308, .getfield 139, 1, 4, 138), (311, .iconst 1, 1, 0, 0), (312, .iconst 0, 0, 0, 0), (313, .bipush 99, 99, 0, 0)], (315, .invokevirtual 161, 0, 318, 490)),
  (318, [(318, .putfield 139, 1, 4, 138)], (321, .goto 148, 469, 324, 0)),
  (324, [(324, .aload_n 0, 0, 0, 0), (325, .getfield 26, 7, 2, 289), (328, .aload_n 0, 0, 0, 0), (329, .getfield 19, 7, 1, 288), (332, .aload_n 0, 0, 0, 0), (333, .getfield 26, 7, 2, 289), (336, .getfield 142, 1, 5, 140), (339, .iconst 1, 1, 0, 0), (340, .iconst 0, 0, 0, 0), (341, .bipush 99, 99, 0, 0)], (343, .invokevirtual 161, 0, 346, 490)),
  (346, [(346, .putfield 142, 1, 5, 140)], (349, .goto 120, 469, 352, 0)),
  (352, [(352, .aload_n 0, 0, 0, 0), (353, .getfield 42, 7, 4, 291), (356, .aload_n 0, 0, 0, 0), (357, .getfield 19, 7, 1, 288), (360, .iconst 0, 0, 0, 0), (361, .iconst 1, 1, 0, 0), (362, .iconst 0, 0, 0, 0), (363, .bipush 99, 99, 0, 0)], (365, .invokevirtual 161, 0, 368, 490)),
  (368, [], (368, .invokevirtual 98, 0, 371, 505)),
  (371, [], (371, .goto 98, 469, 374, 0)),
  (374, [(374, .aload_n 0, 0, 0, 0)], (375, .invokevirtual 172, 0, 378, 509)),
  (378, [], (378, .goto 91, 469, 381, 0)),
  (381, [(381, .aload_n 0, 0, 0, 0), (382, .getfield 26, 7, 2, 289), (385, .aload_n 0, 0, 0, 0), (386, .getfield 19, 7, 1, 288), (389, .aload_n 0, 0, 0, 0), (390, .getfield 26, 7, 2, 289), (393, .getfield 145, 1, 6, 143), (396, .bipush 24, 24, 0, 0), (398, .bipush 8, 8, 0, 0), (400, .bipush 99, 99, 0, 0)], (402, .invokevirtual 161, 0, 405, 490)),
  (405, [(405, .putfield 145, 1, 6, 143)], (408, .goto 61, 469, 411, 0)),
  (411, [(411, .aload_n 0, 0, 0, 0), (412, .getfield 42, 7, 4, 291), (415, .getfield 175, 3, 2, 192), (418, .aload_n 0, 0, 0, 0), (419, .getfield 12, 7, 0, 287), (422, .aload_n 0, 0, 0, 0), (423, .getfield 19, 7, 1, 288), (426, .getfield 178, 0, 1, 101)], (429, .invokevirtual 181, 0, 432, 513)),
  (432, [], (432, .goto 37, 469, 435, 0)),
  (435, [(435, .aload_n 0, 0, 0, 0), (436, .getfield 42, 7, 4, 291), (439, .getfield 185, 3, 3, 194), (442, .aload_n 0, 0, 0, 0), (443, .getfield 12, 7, 0, 287), (446, .aload_n 0, 0, 0, 0), (447, .getfield 19, 7, 1, 288), (450, .getfield 178, 0, 1, 101)], (453, .invokevirtual 181, 0, 456, 513)),
  (456, [], (456, .goto 13, 469, 459, 0)),
  (459, [(459, .aload_n 0, 0, 0, 0), (460, .dup, 0, 0, 0), (461, .getfield 60, 7, 7, 294), (464, .iconst 1, 1, 0, 0), (465, .iadd, 0, 0, 0), (466, .putfield 60, 7, 7, 294)], (469, .nop, 0, 0, 0)),
  (469, [], (469, .return_, 0, 0, 0))]
def mPf_obey : MR := (⟨"PageFormatter", "obey", "()V"⟩, prog_1_method_12_code, 1, (Option.none : Option Jvm.ClassFile.FieldType), 5, 107, bPf_obey, 489, 488, 11, 55, 0)
set_option maxRecDepth 100000 in
theorem okPf_obey : MOK mPf_obey := ⟨by decide +kernel, by decide +kernel⟩
def bPf_setIndent : List BLK := [
  (0, [(0, .aload_n 0, 0, 0, 0), (1, .getfield 26, 7, 2, 289), (4, .aload_n 0, 0, 0, 0), (5, .getfield 19, 7, 1, 288), (8, .aload_n 0, 0, 0, 0), (9, .getfield 26, 7, 2, 289), (12, .getfield 130, 1, 1, 130), (15, .iconst 0, 0, 0, 0), (16, .iconst 0, 0, 0, 0), (17, .aload_n 0, 0, 0, 0), (18, .getfield 26, 7, 2, 289), (21, .getfield 127, 1, 0, 127), (24, .iconst 1, 1, 0, 0), (25, .isub, 0, 0, 0)], (26, .invokevirtual 161, 0, 29, 490)),
  (29, [(29, .putfield 130, 1, 1, 130), (32, .aload_n 0, 0, 0, 0), (33, .getfield 26, 7, 2, 289), (36, .aload_n 0, 0, 0, 0), (37, .getfield 26, 7, 2, 289), (40, .getfield 130, 1, 1, 130), (43, .putfield 133, 1, 2, 133)], (46, .return_, 0, 0, 0))]
def mPf_setIndent : MR := (⟨"PageFormatter", "setIndent", "()V"⟩, prog_1_method_13_code, 1, (Option.none : Option Jvm.ClassFile.FieldType), 2, 46, bPf_setIndent, 499, 498, 12, 55, 0)
set_option maxRecDepth 100000 in
theorem okPf_setIndent : MOK mPf_setIndent := ⟨by decide +kernel, by decide +kernel⟩
def bPf_beginPage : List BLK := [
  (0, [(0, .aload_n 0, 0, 0, 0), (1, .getfield 42, 7, 4, 291)], (4, .invokevirtual 95, 0, 7, 349)),
  (7, [], (7, .ifCond .eq 12, 19, 10, 0)),
  (10, [(10, .aload_n 0, 0, 0, 0), (11, .getfield 42, 7, 4, 291), (14, .bipush 99, 99, 0, 0)], (16, .invokevirtual 98, 0, 19, 505)),
  (19, [(19, .aload_n 0, 0, 0, 0), (20, .getfield 42, 7, 4, 291), (23, .aload_n 0, 0, 0, 0), (24, .getfield 19, 7, 1, 288), (27, .aload_n 0, 0, 0, 0), (28, .getfield 42, 7, 4, 291), (31, .getfield 124, 3, 6, 200), (34, .aload_n 0, 0, 0, 0), (35, .getfield 42, 7, 4, 291), (38, .getfield 124, 3, 6, 200), (41, .iconst 1, 1, 0, 0), (42, .sipush 999, 999, 0, 0)], (45, .invokevirtual 161, 0, 48, 490)),
  (48, [(48, .putfield 124, 3, 6, 200)], (51, .return_, 0, 0, 0))]
def mPf_beginPage : MR := (⟨"PageFormatter", "beginPage", "()V"⟩, prog_1_method_14_code, 1, (Option.none : Option Jvm.ClassFile.FieldType), 4, 87, bPf_beginPage, 512, 511, 13, 55, 0)
set_option maxRecDepth 100000 in
theorem okPf_beginPage : MOK mPf_beginPage := ⟨by decide +kernel, by decide +kernel⟩
def bPf_takeText : List BLK := [
  (0, [(0, .aload_n 0, 0, 0, 0), (1, .getfield 12, 7, 0, 287)], (4, .invokevirtual 188, 0, 7, 522)),
  (7, [(7, .istore_n 1, 0, 0, 0), (8, .iload_n 1, 0, 0, 0)], (9, .ifCond .gt 13, 22, 12, 0)),
  (12, [(12, .aload_n 0, 0, 0, 0), (13, .getfield 12, 7, 0, 287), (16, .getfield 64, 6, 1, 84)], (19, .ifCond .ne 7, 26, 22, 0)),
  (22, [(22, .aload_n 0, 0, 0, 0)], (23, .invokevirtual 86, 0, 26, 353)),
  (26, [(26, .iload_n 1, 0, 0, 0), (27, .aload_n 0, 0, 0, 0), (28, .getfield 12, 7, 0, 287), (31, .getfield 64, 6, 1, 84)], (34, .if_icmp .ne 8, 42, 37, 0)),
  (37, [(37, .aload_n 0, 0, 0, 0)], (38, .invokevirtual 191, 0, 41, 527)),
  (41, [], (41, .return_, 0, 0, 0)),
  (42, [(42, .aload_n 0, 0, 0, 0), (43, .getfield 26, 7, 2, 289), (46, .iload_n 1, 0, 0, 0)], (47, .invokevirtual 194, 0, 50, 531)),
  (50, [(50, .aload_n 0, 0, 0, 0), (51, .getfield 12, 7, 0, 287), (54, .iload_n 1, 0, 0, 0)], (55, .invokevirtual 197, 0, 58, 536)),
  (58, [(58, .aload_n 0, 0, 0, 0), (59, .getfield 26, 7, 2, 289)], (62, .invokevirtual 200, 0, 65, 540)),
  (65, [(65, .istore_n 2, 0, 0, 0), (66, .aload_n 0, 0, 0, 0), (67, .getfield 26, 7, 2, 289), (70, .getfield 139, 1, 4, 138)], (73, .ifCond .le 11, 84, 76, 0)),
  (76, [(76, .aload_n 0, 0, 0, 0), (77, .iload_n 2, 0, 0, 0)], (78, .invokevirtual 203, 0, 81, 544)),
  (81, [], (81, .goto 33, 114, 84, 0)),
  (84, [(84, .aload_n 0, 0, 0, 0), (85, .getfield 26, 7, 2, 289), (88, .getfield 148, 1, 7, 145)], (91, .ifCond .ne 18, 109, 94, 0)),
  (94, [(94, .aload_n 0, 0, 0, 0), (95, .getfield 12, 7, 0, 287)], (98, .invokevirtual 207, 0, 101, 548)),
  (101, [(101, .aload_n 0, 0, 0, 0), (102, .iload_n 2, 0, 0, 0)], (103, .invokevirtual 210, 0, 106, 557)),
  (106, [], (106, .goto 8, 114, 109, 0)),
  (109, [(109, .aload_n 0, 0, 0, 0), (110, .iload_n 2, 0, 0, 0)], (111, .invokevirtual 213, 0, 114, 562)),
  (114, [], (114, .return_, 0, 0, 0))]
def mPf_takeText : MR := (⟨"PageFormatter", "takeText", "()V"⟩, prog_1_method_15_code, 3, (Option.none : Option Jvm.ClassFile.FieldType), 6, 149, bPf_takeText, 521, 520, 14, 55, 0)
set_option maxRecDepth 100000 in
theorem okPf_takeText : MOK mPf_takeText := ⟨by decide +kernel, by decide +kernel⟩
def bPf_putEmptyLine : List BLK := [
  (0, [(0, .aload_n 0, 0, 0, 0), (1, .getfield 42, 7, 4, 291), (4, .iconst 1, 1, 0, 0)], (5, .invokevirtual 216, 0, 8, 425)),
  (8, [(8, .aload_n 0, 0, 0, 0), (9, .getfield 42, 7, 4, 291)], (12, .invokevirtual 219, 0, 15, 471)),
  (15, [], (15, .return_, 0, 0, 0))]
def mPf_putEmptyLine : MR := (⟨"PageFormatter", "putEmptyLine", "()V"⟩, prog_1_method_16_code, 1, (Option.none : Option Jvm.ClassFile.FieldType), 4, 87, bPf_putEmptyLine, 530, 529, 15, 55, 0)
set_option maxRecDepth 100000 in
theorem okPf_putEmptyLine : MOK mPf_putEmptyLine := ⟨by decide +kernel, by decide +kernel⟩
def bPf_putCentred : List BLK := [
  (0, [(0, .aload_n 0, 0, 0, 0), (1, .getfield 26, 7, 2, 289), (4, .dup, 0, 0, 0), (5, .getfield 139, 1, 4, 138), (8, .iconst 1, 1, 0, 0), (9, .isub, 0, 0, 0), (10, .putfield 139, 1, 4, 138), (13, .aload_n 0, 0, 0, 0), (14, .getfield 12, 7, 0, 287)], (17, .invokevirtual 207, 0, 20, 548)),
  (20, [(20, .aload_n 0, 0, 0, 0), (21, .getfield 12, 7, 0, 287)], (24, .invokevirtual 222, 0, 27, 552)),
  (27, [(27, .aload_n 0, 0, 0, 0), (28, .getfield 26, 7, 2, 289), (31, .getfield 127, 1, 0, 127), (34, .aload_n 0, 0, 0, 0), (35, .getfield 26, 7, 2, 289), (38, .getfield 133, 1, 2, 133), (41, .iadd, 0, 0, 0), (42, .iconst 1, 1, 0, 0), (43, .iadd, 0, 0, 0), (44, .aload_n 0, 0, 0, 0), (45, .getfield 12, 7, 0, 287), (48, .getfield 64, 6, 1, 84), (51, .isub, 0, 0, 0), (52, .istore_n 2, 0, 0, 0), (53, .aload_n 0, 0, 0, 0), (54, .getfield 26, 7, 2, 289), (57, .iconst 0, 0, 0, 0), (58, .iload_n 2, 0, 0, 0)], (59, .invokestatic 225, 0, 62, 556)),
  (62, [(62, .iconst 2, 2, 0, 0), (63, .idiv, 0, 0, 0), (64, .putfield 133, 1, 2, 133), (67, .aload_n 0, 0, 0, 0), (68, .iload_n 1, 0, 0, 0)], (69, .invokevirtual 210, 0, 72, 557)),
  (72, [], (72, .return_, 0, 0, 0))]
def mPf_putCentred : MR := (⟨"PageFormatter", "putCentred", "(Z)V"⟩, prog_1_method_17_code, 3, (Option.none : Option Jvm.ClassFile.FieldType), 5, 108, bPf_putCentred, 547, 546, 16, 55, 1)
set_option maxRecDepth 100000 in
theorem okPf_putCentred : MOK mPf_putCentred := ⟨by decide +kernel, by decide +kernel⟩
def bPf_putEntered : List BLK := [
  (0, [(0, .aload_n 0, 0, 0, 0), (1, .getfield 42, 7, 4, 291), (4, .aload_n 0, 0, 0, 0), (5, .getfield 12, 7, 0, 287), (8, .getfield 64, 6, 1, 84)], (11, .ifCond .ne 7, 18, 14, 0)),
  (14, [(14, .iconst 1, 1, 0, 0)], (15, .goto 4, 19, 18, 0)),
  (18, [(18, .iconst 0, 0, 0, 0)], (19, .nop, 0, 0, 0)),
  (19, [], (19, .invokevirtual 216, 0, 22, 425)),
  (22, [(22, .aload_n 0, 0, 0, 0), (23, .getfield 33, 7, 3, 290), (26, .aload_n 0, 0, 0, 0), (27, .getfield 12, 7, 0, 287), (30, .getfield 230, 6, 0, 80), (33, .iconst 0, 0, 0, 0), (34, .aload_n 0, 0, 0, 0), (35, .getfield 12, 7, 0, 287), (38, .getfield 64, 6, 1, 84), (41, .iload_n 1, 0, 0, 0)], (42, .invokevirtual 234, 0, 45, 561)),
  (45, [(45, .aload_n 0, 0, 0, 0), (46, .getfield 42, 7, 4, 291)], (49, .invokevirtual 219, 0, 52, 471)),
  (52, [], (52, .return_, 0, 0, 0))]
def mPf_putEntered : MR := (⟨"PageFormatter", "putEntered", "(Z)V"⟩, prog_1_method_18_code, 2, (Option.none : Option Jvm.ClassFile.FieldType), 4, 87, bPf_putEntered, 560, 559, 17, 55, 1)
set_option maxRecDepth 100000 in
theorem okPf_putEntered : MOK mPf_putEntered := ⟨by decide +kernel, by decide +kernel⟩
def bPf_gatherWords : List BLK := [
  (0, [(0, .iconst 0, 0, 0, 0), (1, .istore_n 2, 0, 0, 0), (2, .iconst 0, 0, 0, 0), (3, .istore_n 3, 0, 0, 0)], (4, .nop, 0, 0, 0)),
  (4, [(4, .iload_n 3, 0, 0, 0), (5, .aload_n 0, 0, 0, 0), (6, .getfield 12, 7, 0, 287), (9, .getfield 64, 6, 1, 84)], (12, .if_icmp .gt 82, 94, 15, 0)),
  (15, [(15, .iload_n 3, 0, 0, 0), (16, .aload_n 0, 0, 0, 0), (17, .getfield 12, 7, 0, 287), (20, .getfield 64, 6, 1, 84)], (23, .if_icmp .ge 19, 42, 26, 0)),
  (26, [(26, .aload_n 0, 0, 0, 0), (27, .getfield 12, 7, 0, 287), (30, .iload_n 3, 0, 0, 0)], (31, .invokevirtual 74, 0, 34, 324)),
  (34, [(34, .bipush 32, 32, 0, 0)], (36, .if_icmp .eq 6, 42, 39, 0)),
  (39, [], (39, .goto 49, 88, 42, 0)),
  (42, [(42, .aload_n 0, 0, 0, 0), (43, .getfield 12, 7, 0, 287), (46, .iload_n 2, 0, 0, 0), (47, .iload_n 3, 0, 0, 0)], (48, .invokevirtual 238, 0, 51, 566)),
  (51, [], (51, .ifCond .eq 33, 84, 54, 0)),
  (54, [(54, .aload_n 0, 0, 0, 0), (55, .getfield 49, 7, 5, 292), (58, .getfield 115, 4, 6, 234), (61, .bipush 80, 80, 0, 0)], (63, .if_icmp .lt 7, 70, 66, 0)),
  (66, [(66, .aload_n 0, 0, 0, 0)], (67, .invokevirtual 86, 0, 70, 353)),
  (70, [(70, .aload_n 0, 0, 0, 0), (71, .getfield 49, 7, 5, 292), (74, .aload_n 0, 0, 0, 0), (75, .getfield 12, 7, 0, 287), (78, .iload_n 2, 0, 0, 0), (79, .iload_n 3, 0, 0, 0), (80, .iload_n 1, 0, 0, 0)], (81, .invokevirtual 242, 0, 84, 570)),
  (84, [(84, .iload_n 3, 0, 0, 0), (85, .iconst 1, 1, 0, 0), (86, .iadd, 0, 0, 0), (87, .istore_n 2, 0, 0, 0)], (88, .nop, 0, 0, 0)),
  (88, [(88, .iinc 3 1, 1, 0, 0)], (91, .goto (-87), 4, 94, 0)),
  (94, [], (94, .return_, 0, 0, 0))]
def mPf_gatherWords : MR := (⟨"PageFormatter", "gatherWords", "(Z)V"⟩, prog_1_method_19_code, 4, (Option.none : Option Jvm.ClassFile.FieldType), 5, 126, bPf_gatherWords, 565, 564, 18, 55, 1)
set_option maxRecDepth 100000 in
theorem okPf_gatherWords : MOK mPf_gatherWords := ⟨by decide +kernel, by decide +kernel⟩
def bPf_breakParagraph : List BLK := [
  (0, [(0, .aload_n 0, 0, 0, 0), (1, .getfield 49, 7, 5, 292), (4, .getfield 115, 4, 6, 234)], (7, .ifCond .ne 4, 11, 10, 0)),
  (10, [], (10, .return_, 0, 0, 0)),
  (11, [(11, .aload_n 0, 0, 0, 0), (12, .getfield 56, 7, 6, 293), (15, .aload_n 0, 0, 0, 0), (16, .getfield 49, 7, 5, 292), (19, .aload_n 0, 0, 0, 0), (20, .getfield 26, 7, 2, 289), (23, .getfield 127, 1, 0, 127), (26, .aload_n 0, 0, 0, 0), (27, .getfield 26, 7, 2, 289), (30, .getfield 133, 1, 2, 133), (33, .isub, 0, 0, 0), (34, .aload_n 0, 0, 0, 0), (35, .getfield 26, 7, 2, 289), (38, .getfield 127, 1, 0, 127), (41, .aload_n 0, 0, 0, 0), (42, .getfield 26, 7, 2, 289), (45, .getfield 130, 1, 1, 130), (48, .isub, 0, 0, 0)], (49, .invokevirtual 246, 0, 52, 357)),
  (52, [(52, .aload_n 0, 0, 0, 0), (53, .getfield 56, 7, 6, 293), (56, .aload_n 0, 0, 0, 0), (57, .getfield 49, 7, 5, 292)], (60, .invokevirtual 250, 0, 63, 410)),
  (63, [(63, .iconst 0, 0, 0, 0), (64, .istore_n 1, 0, 0, 0), (65, .iconst 0, 0, 0, 0), (66, .istore_n 2, 0, 0, 0)], (67, .nop, 0, 0, 0)),
  (67, [(67, .iload_n 2, 0, 0, 0), (68, .aload_n 0, 0, 0, 0), (69, .getfield 56, 7, 6, 293), (72, .getfield 155, 5, 6, 266)], (75, .if_icmp .ge 97, 172, 78, 0)),
  (78, [(78, .aload_n 0, 0, 0, 0), (79, .getfield 26, 7, 2, 289), (82, .getfield 152, 1, 8, 147)], (85, .ifCond .eq 20, 105, 88, 0)),
  (88, [(88, .iload_n 2, 0, 0, 0), (89, .aload_n 0, 0, 0, 0), (90, .getfield 56, 7, 6, 293), (93, .getfield 155, 5, 6, 266), (96, .iconst 1, 1, 0, 0), (97, .isub, 0, 0, 0)], (98, .if_icmp .ge 7, 105, 101, 0)),
  (101, [(101, .iconst 1, 1, 0, 0)], (102, .goto 4, 106, 105, 0)),
  (105, [(105, .iconst 0, 0, 0, 0)], (106, .nop, 0, 0, 0)),
  (106, [(106, .istore_n 3, 0, 0, 0), (107, .aload_n 0, 0, 0, 0), (108, .getfield 56, 7, 6, 293), (111, .iload_n 2, 0, 0, 0)], (112, .invokevirtual 254, 0, 115, 421)),
  (115, [(115, .istore 4, 0, 0, 0), (117, .aload_n 0, 0, 0, 0), (118, .getfield 42, 7, 4, 291), (121, .iconst 0, 0, 0, 0)], (122, .invokevirtual 216, 0, 125, 425)),
  (125, [(125, .aload_n 0, 0, 0, 0), (126, .getfield 49, 7, 5, 292), (129, .aload_n 0, 0, 0, 0), (130, .getfield 33, 7, 3, 290), (133, .iload_n 1, 0, 0, 0), (134, .iload 4, 0, 0, 0), (136, .iload_n 3, 0, 0, 0)], (137, .ifCond .eq 15, 152, 140, 0)),
  (140, [(140, .aload_n 0, 0, 0, 0), (141, .getfield 56, 7, 6, 293), (144, .iload_n 2, 0, 0, 0), (145, .iconst 1, 1, 0, 0)], (146, .invokevirtual 111, 0, 149, 452)),
  (149, [], (149, .goto 4, 153, 152, 0)),
  (152, [(152, .iconst 0, 0, 0, 0)], (153, .nop, 0, 0, 0)),
  (153, [], (153, .invokevirtual 257, 0, 156, 456)),
  (156, [(156, .aload_n 0, 0, 0, 0), (157, .getfield 42, 7, 4, 291)], (160, .invokevirtual 219, 0, 163, 471)),
  (163, [(163, .iload 4, 0, 0, 0), (165, .istore_n 1, 0, 0, 0), (166, .iinc 2 1, 1, 0, 0)], (169, .goto (-102), 67, 172, 0)),
  (172, [(172, .aload_n 0, 0, 0, 0), (173, .getfield 49, 7, 5, 292)], (176, .invokevirtual 261, 0, 179, 482)),
  (179, [], (179, .return_, 0, 0, 0))]
def mPf_breakParagraph : MR := (⟨"PageFormatter", "breakParagraph", "()V"⟩, prog_1_method_20_code, 5, (Option.none : Option Jvm.ClassFile.FieldType), 4, 102, bPf_breakParagraph, 356, 355, 2, 55, 0)
set_option maxRecDepth 100000 in
theorem okPf_breakParagraph : MOK mPf_breakParagraph := ⟨by decide +kernel, by decide +kernel⟩
