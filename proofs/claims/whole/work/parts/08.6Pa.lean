def bPa_clear : List BLK := [
  (0, [(0, .aload_n 0, 0, 0, 0), (1, .iconst 0, 0, 0, 0), (2, .putfield 26, 4, 4, 230), (5, .aload_n 0, 0, 0, 0), (6, .iconst 0, 0, 0, 0), (7, .putfield 30, 4, 5, 231), (10, .aload_n 0, 0, 0, 0), (11, .iconst 0, 0, 0, 0), (12, .putfield 33, 4, 6, 233)], (15, .return_, 0, 0, 0))]
def mPa_clear : MR := (⟨"PageFormatter$Paragraph", "clear", "()V"⟩, prog_6_method_2_code, 1, (Option.none : Option Jvm.ClassFile.FieldType), 0, 0, bPa_clear, 485, 483, 484, 61, 0)
set_option maxRecDepth 100000 in
theorem okPa_clear : MOK mPa_clear := ⟨by decide +kernel, by decide +kernel⟩
def bPa_addWord : List BLK := [
  (0, [(0, .aload_n 0, 0, 0, 0), (1, .getfield 33, 4, 6, 233), (4, .bipush 80, 80, 0, 0)], (6, .if_icmp .lt 4, 10, 9, 0)),
  (9, [], (9, .return_, 0, 0, 0)),
  (10, [(10, .aload_n 0, 0, 0, 0), (11, .getfield 26, 4, 4, 230), (14, .istore 5, 0, 0, 0), (16, .iload_n 2, 0, 0, 0), (17, .istore 6, 0, 0, 0)], (19, .nop, 0, 0, 0)),
  (19, [(19, .iload 6, 0, 0, 0), (21, .iload_n 3, 0, 0, 0)], (22, .if_icmp .ge 59, 81, 25, 0)),
  (25, [(25, .aload_n 1, 0, 0, 0), (26, .iload 6, 0, 0, 0)], (28, .invokevirtual 36, 0, 31, 574)),
  (31, [(31, .bipush 94, 94, 0, 0)], (33, .if_icmp .ne 6, 39, 36, 0)),
  (36, [], (36, .goto 39, 75, 39, 0)),
  (39, [(39, .aload_n 0, 0, 0, 0), (40, .getfield 26, 4, 4, 230), (43, .iload 5, 0, 0, 0)], (45, .if_icmp .le 20, 65, 48, 0)),
  (48, [(48, .aload_n 1, 0, 0, 0), (49, .iload 6, 0, 0, 0), (51, .iconst 1, 1, 0, 0), (52, .isub, 0, 0, 0)], (53, .invokevirtual 36, 0, 56, 574)),
  (56, [(56, .bipush 94, 94, 0, 0)], (58, .if_icmp .ne 7, 65, 61, 0)),
  (61, [(61, .aload_n 0, 0, 0, 0)], (62, .invokevirtual 42, 0, 65, 575)),
  (65, [(65, .aload_n 0, 0, 0, 0), (66, .aload_n 1, 0, 0, 0), (67, .iload 6, 0, 0, 0)], (69, .invokevirtual 36, 0, 72, 574)),
  (72, [], (72, .invokevirtual 45, 0, 75, 579)),
  (75, [(75, .iinc 6 1, 1, 0, 0)], (78, .goto (-59), 19, 81, 0)),
  (81, [(81, .aload_n 0, 0, 0, 0), (82, .getfield 22, 4, 3, 229), (85, .aload_n 0, 0, 0, 0), (86, .getfield 33, 4, 6, 233), (89, .iload 4, 0, 0, 0), (91, .bastore, 0, 0, 0), (92, .aload_n 0, 0, 0, 0), (93, .dup, 0, 0, 0), (94, .getfield 33, 4, 6, 233), (97, .iconst 1, 1, 0, 0), (98, .iadd, 0, 0, 0), (99, .putfield 33, 4, 6, 233), (102, .aload_n 0, 0, 0, 0)], (103, .invokevirtual 42, 0, 106, 575)),
  (106, [], (106, .return_, 0, 0, 0))]
def mPa_addWord : MR := (⟨"PageFormatter$Paragraph", "addWord", "(LPageFormatter$Text;IIZ)V"⟩, prog_6_method_3_code, 7, (Option.none : Option Jvm.ClassFile.FieldType), 1, 21, bPa_addWord, 573, 571, 572, 61, 4)
set_option maxRecDepth 100000 in
theorem okPa_addWord : MOK mPa_addWord := ⟨by decide +kernel, by decide +kernel⟩
def bPa_addLetter : List BLK := [
  (0, [(0, .aload_n 0, 0, 0, 0), (1, .getfield 26, 4, 4, 230), (4, .aload_n 0, 0, 0, 0), (5, .getfield 9, 4, 0, 226), (8, .arraylength, 0, 0, 0)], (9, .if_icmp .ge 24, 33, 12, 0)),
  (12, [(12, .aload_n 0, 0, 0, 0), (13, .getfield 9, 4, 0, 226), (16, .aload_n 0, 0, 0, 0), (17, .getfield 26, 4, 4, 230), (20, .iload_n 1, 0, 0, 0), (21, .i2b, 0, 0, 0), (22, .bastore, 0, 0, 0), (23, .aload_n 0, 0, 0, 0), (24, .dup, 0, 0, 0), (25, .getfield 26, 4, 4, 230), (28, .iconst 1, 1, 0, 0), (29, .iadd, 0, 0, 0), (30, .putfield 26, 4, 4, 230)], (33, .nop, 0, 0, 0)),
  (33, [], (33, .return_, 0, 0, 0))]
def mPa_addLetter : MR := (⟨"PageFormatter$Paragraph", "addLetter", "(I)V"⟩, prog_6_method_4_code, 2, (Option.none : Option Jvm.ClassFile.FieldType), 0, 0, bPa_addLetter, 582, 581, 20, 61, 1)
set_option maxRecDepth 100000 in
theorem okPa_addLetter : MOK mPa_addLetter := ⟨by decide +kernel, by decide +kernel⟩
def bPa_addPlace : List BLK := [
  (0, [(0, .aload_n 0, 0, 0, 0), (1, .getfield 30, 4, 5, 231), (4, .sipush 4000, 4000, 0, 0)], (7, .if_icmp .ge 39, 46, 10, 0)),
  (10, [(10, .aload_n 0, 0, 0, 0), (11, .dup, 0, 0, 0), (12, .getfield 30, 4, 5, 231), (15, .iconst 1, 1, 0, 0), (16, .iadd, 0, 0, 0), (17, .putfield 30, 4, 5, 231), (20, .aload_n 0, 0, 0, 0), (21, .getfield 15, 4, 1, 227), (24, .aload_n 0, 0, 0, 0), (25, .getfield 30, 4, 5, 231), (28, .aload_n 0, 0, 0, 0), (29, .getfield 26, 4, 4, 230), (32, .iastore, 0, 0, 0), (33, .aload_n 0, 0, 0, 0), (34, .getfield 19, 4, 2, 228), (37, .aload_n 0, 0, 0, 0), (38, .getfield 30, 4, 5, 231), (41, .aload_n 0, 0, 0, 0), (42, .getfield 33, 4, 6, 233), (45, .iastore, 0, 0, 0)], (46, .nop, 0, 0, 0)),
  (46, [], (46, .return_, 0, 0, 0))]
def mPa_addPlace : MR := (⟨"PageFormatter$Paragraph", "addPlace", "()V"⟩, prog_6_method_5_code, 1, (Option.none : Option Jvm.ClassFile.FieldType), 0, 0, bPa_addPlace, 578, 577, 19, 61, 0)
set_option maxRecDepth 100000 in
theorem okPa_addPlace : MOK mPa_addPlace := ⟨by decide +kernel, by decide +kernel⟩
def bPa_isHyphen : List BLK := [
  (0, [(0, .iload_n 1, 0, 0, 0)], (1, .ifCond .le 32, 33, 4, 0)),
  (4, [(4, .iload_n 1, 0, 0, 0), (5, .aload_n 0, 0, 0, 0), (6, .getfield 30, 4, 5, 231)], (9, .if_icmp .gt 24, 33, 12, 0)),
  (12, [(12, .aload_n 0, 0, 0, 0), (13, .getfield 19, 4, 2, 228), (16, .iload_n 1, 0, 0, 0), (17, .iaload, 0, 0, 0), (18, .aload_n 0, 0, 0, 0), (19, .getfield 19, 4, 2, 228), (22, .iload_n 1, 0, 0, 0), (23, .iconst 1, 1, 0, 0), (24, .isub, 0, 0, 0), (25, .iaload, 0, 0, 0)], (26, .if_icmp .ne 7, 33, 29, 0)),
  (29, [(29, .iconst 1, 1, 0, 0)], (30, .goto 4, 34, 33, 0)),
  (33, [(33, .iconst 0, 0, 0, 0)], (34, .nop, 0, 0, 0)),
  (34, [], (34, .ireturn, 0, 0, 0))]
def mPa_isHyphen : MR := (⟨"PageFormatter$Paragraph", "isHyphen", "(I)Z"⟩, prog_6_method_6_code, 2, (Option.some Jvm.ClassFile.FieldType.boolean), 0, 0, bPa_isHyphen, 388, 386, 387, 61, 1)
set_option maxRecDepth 100000 in
theorem okPa_isHyphen : MOK mPa_isHyphen := ⟨by decide +kernel, by decide +kernel⟩
def bPa_blanksIn : List BLK := [
  (0, [(0, .iload_n 1, 0, 0, 0)], (1, .ifCond .lt 16, 17, 4, 0)),
  (4, [(4, .iload_n 1, 0, 0, 0), (5, .iload_n 2, 0, 0, 0)], (6, .if_icmp .ge 11, 17, 9, 0)),
  (9, [(9, .iload_n 2, 0, 0, 0), (10, .aload_n 0, 0, 0, 0), (11, .getfield 30, 4, 5, 231)], (14, .if_icmp .le 5, 19, 17, 0)),
  (17, [(17, .iconst 0, 0, 0, 0)], (18, .ireturn, 0, 0, 0)),
  (19, [(19, .aload_n 0, 0, 0, 0), (20, .getfield 19, 4, 2, 228), (23, .iload_n 2, 0, 0, 0), (24, .iconst 1, 1, 0, 0), (25, .isub, 0, 0, 0), (26, .iaload, 0, 0, 0), (27, .aload_n 0, 0, 0, 0), (28, .getfield 19, 4, 2, 228), (31, .iload_n 1, 0, 0, 0), (32, .iaload, 0, 0, 0), (33, .isub, 0, 0, 0)], (34, .ireturn, 0, 0, 0))]
def mPa_blanksIn : MR := (⟨"PageFormatter$Paragraph", "blanksIn", "(II)I"⟩, prog_6_method_7_code, 3, (Option.some Jvm.ClassFile.FieldType.int), 0, 0, bPa_blanksIn, 384, 382, 383, 61, 2)
set_option maxRecDepth 100000 in
theorem okPa_blanksIn : MOK mPa_blanksIn := ⟨by decide +kernel, by decide +kernel⟩
def bPa_lettersIn : List BLK := [
  (0, [(0, .iload_n 1, 0, 0, 0)], (1, .ifCond .lt 16, 17, 4, 0)),
  (4, [(4, .iload_n 1, 0, 0, 0), (5, .iload_n 2, 0, 0, 0)], (6, .if_icmp .ge 11, 17, 9, 0)),
  (9, [(9, .iload_n 2, 0, 0, 0), (10, .aload_n 0, 0, 0, 0), (11, .getfield 30, 4, 5, 231)], (14, .if_icmp .le 5, 19, 17, 0)),
  (17, [(17, .iconst 0, 0, 0, 0)], (18, .ireturn, 0, 0, 0)),
  (19, [(19, .aload_n 0, 0, 0, 0), (20, .getfield 15, 4, 1, 227), (23, .iload_n 2, 0, 0, 0), (24, .iaload, 0, 0, 0), (25, .aload_n 0, 0, 0, 0), (26, .getfield 15, 4, 1, 227), (29, .iload_n 1, 0, 0, 0), (30, .iaload, 0, 0, 0), (31, .isub, 0, 0, 0)], (32, .ireturn, 0, 0, 0))]
def mPa_lettersIn : MR := (⟨"PageFormatter$Paragraph", "lettersIn", "(II)I"⟩, prog_6_method_8_code, 3, (Option.some Jvm.ClassFile.FieldType.int), 0, 0, bPa_lettersIn, 380, 378, 379, 61, 2)
set_option maxRecDepth 100000 in
theorem okPa_lettersIn : MOK mPa_lettersIn := ⟨by decide +kernel, by decide +kernel⟩
def bPa_lengthOf : List BLK := [
  (0, [(0, .aload_n 0, 0, 0, 0), (1, .iload_n 1, 0, 0, 0), (2, .iload_n 2, 0, 0, 0)], (3, .invokevirtual 49, 0, 6, 377)),
  (6, [(6, .aload_n 0, 0, 0, 0), (7, .iload_n 1, 0, 0, 0), (8, .iload_n 2, 0, 0, 0)], (9, .invokevirtual 53, 0, 12, 381)),
  (12, [(12, .iadd, 0, 0, 0), (13, .aload_n 0, 0, 0, 0), (14, .iload_n 2, 0, 0, 0)], (15, .invokevirtual 56, 0, 18, 385)),
  (18, [], (18, .ifCond .eq 7, 25, 21, 0)),
  (21, [(21, .iconst 1, 1, 0, 0)], (22, .goto 4, 26, 25, 0)),
  (25, [(25, .iconst 0, 0, 0, 0)], (26, .nop, 0, 0, 0)),
  (26, [(26, .iadd, 0, 0, 0)], (27, .ireturn, 0, 0, 0))]
def mPa_lengthOf : MR := (⟨"PageFormatter$Paragraph", "lengthOf", "(II)I"⟩, prog_6_method_9_code, 3, (Option.some Jvm.ClassFile.FieldType.int), 1, 22, bPa_lengthOf, 376, 374, 375, 61, 2)
set_option maxRecDepth 100000 in
theorem okPa_lengthOf : MOK mPa_lengthOf := ⟨by decide +kernel, by decide +kernel⟩
def bPa_write : List BLK := [
  (0, [(0, .aload_n 0, 0, 0, 0), (1, .iload_n 2, 0, 0, 0), (2, .iload_n 3, 0, 0, 0)], (3, .invokevirtual 53, 0, 6, 381)),
  (6, [(6, .istore 5, 0, 0, 0), (8, .iconst 0, 0, 0, 0), (9, .istore 6, 0, 0, 0), (11, .iload_n 2, 0, 0, 0), (12, .istore 7, 0, 0, 0)], (14, .nop, 0, 0, 0)),
  (14, [(14, .iload 7, 0, 0, 0), (16, .iload_n 3, 0, 0, 0)], (17, .if_icmp .ge 66, 83, 20, 0)),
  (20, [(20, .iload 7, 0, 0, 0), (22, .iload_n 2, 0, 0, 0)], (23, .if_icmp .le 47, 70, 26, 0)),
  (26, [(26, .iload 5, 0, 0, 0)], (28, .ifCond .le 42, 70, 31, 0)),
  (31, [(31, .aload_n 0, 0, 0, 0), (32, .iload 7, 0, 0, 0)], (34, .invokevirtual 56, 0, 37, 385)),
  (37, [], (37, .ifCond .ne 33, 70, 40, 0)),
  (40, [(40, .iinc 6 1, 1, 0, 0), (43, .aload_n 1, 0, 0, 0), (44, .bipush 32, 32, 0, 0), (46, .iconst 1, 1, 0, 0), (47, .iload 4, 0, 0, 0), (49, .iload 6, 0, 0, 0), (51, .imul, 0, 0, 0), (52, .iload 5, 0, 0, 0), (54, .idiv, 0, 0, 0), (55, .iadd, 0, 0, 0), (56, .iload 4, 0, 0, 0), (58, .iload 6, 0, 0, 0), (60, .iconst 1, 1, 0, 0), (61, .isub, 0, 0, 0), (62, .imul, 0, 0, 0), (63, .iload 5, 0, 0, 0), (65, .idiv, 0, 0, 0), (66, .isub, 0, 0, 0)], (67, .invokevirtual 60, 0, 70, 460)),
  (70, [(70, .aload_n 0, 0, 0, 0), (71, .aload_n 1, 0, 0, 0), (72, .iload 7, 0, 0, 0)], (74, .invokevirtual 66, 0, 77, 461)),
  (77, [(77, .iinc 7 1, 1, 0, 0)], (80, .goto (-66), 14, 83, 0)),
  (83, [(83, .aload_n 0, 0, 0, 0), (84, .iload_n 3, 0, 0, 0)], (85, .invokevirtual 56, 0, 88, 385)),
  (88, [], (88, .ifCond .eq 9, 97, 91, 0)),
  (91, [(91, .aload_n 1, 0, 0, 0), (92, .bipush 45, 45, 0, 0)], (94, .invokevirtual 70, 0, 97, 470)),
  (97, [], (97, .return_, 0, 0, 0))]
def mPa_write : MR := (⟨"PageFormatter$Paragraph", "write", "(LPageFormatter$Output;III)V"⟩, prog_6_method_10_code, 8, (Option.none : Option Jvm.ClassFile.FieldType), 3, 70, bPa_write, 459, 457, 458, 61, 4)
set_option maxRecDepth 100000 in
theorem okPa_write : MOK mPa_write := ⟨by decide +kernel, by decide +kernel⟩
def bPa_writePiece : List BLK := [
  (0, [(0, .iload_n 2, 0, 0, 0)], (1, .ifCond .lt 11, 12, 4, 0)),
  (4, [(4, .iload_n 2, 0, 0, 0), (5, .aload_n 0, 0, 0, 0), (6, .getfield 30, 4, 5, 231)], (9, .if_icmp .lt 4, 13, 12, 0)),
  (12, [], (12, .return_, 0, 0, 0)),
  (13, [(13, .aload_n 0, 0, 0, 0), (14, .getfield 19, 4, 2, 228), (17, .iload_n 2, 0, 0, 0), (18, .iaload, 0, 0, 0), (19, .istore_n 3, 0, 0, 0), (20, .iload_n 3, 0, 0, 0)], (21, .ifCond .lt 22, 43, 24, 0)),
  (24, [(24, .iload_n 3, 0, 0, 0), (25, .bipush 80, 80, 0, 0)], (27, .if_icmp .ge 16, 43, 30, 0)),
  (30, [(30, .aload_n 0, 0, 0, 0), (31, .getfield 22, 4, 3, 229), (34, .iload_n 3, 0, 0, 0), (35, .baload, 0, 0, 0)], (36, .ifCond .eq 7, 43, 39, 0)),
  (39, [(39, .iconst 1, 1, 0, 0)], (40, .goto 4, 44, 43, 0)),
  (43, [(43, .iconst 0, 0, 0, 0)], (44, .nop, 0, 0, 0)),
  (44, [(44, .istore 4, 0, 0, 0), (46, .aload_n 1, 0, 0, 0), (47, .aload_n 0, 0, 0, 0), (48, .getfield 9, 4, 0, 226), (51, .aload_n 0, 0, 0, 0), (52, .getfield 15, 4, 1, 227), (55, .iload_n 2, 0, 0, 0), (56, .iaload, 0, 0, 0), (57, .aload_n 0, 0, 0, 0), (58, .getfield 15, 4, 1, 227), (61, .iload_n 2, 0, 0, 0), (62, .iconst 1, 1, 0, 0), (63, .iadd, 0, 0, 0), (64, .iaload, 0, 0, 0), (65, .iload 4, 0, 0, 0)], (67, .invokevirtual 73, 0, 70, 465)),
  (70, [], (70, .return_, 0, 0, 0))]
def mPa_writePiece : MR := (⟨"PageFormatter$Paragraph", "writePiece", "(LPageFormatter$Output;I)V"⟩, prog_6_method_11_code, 5, (Option.none : Option Jvm.ClassFile.FieldType), 2, 46, bPa_writePiece, 464, 463, 9, 61, 2)
set_option maxRecDepth 100000 in
theorem okPa_writePiece : MOK mPa_writePiece := ⟨by decide +kernel, by decide +kernel⟩
