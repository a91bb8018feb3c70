def md_X0_init : MD := (yX0_init, cX0_init, 1, none, 3, 390)
def tb_X0_init : List (Nat × Instr) := [(0, .aload_n 0), (1, .invokespecial 3), (4, .aload_n 0), (5, .sipush 320), (8, .newarray .int), (10, .putfield 9), (13, .aload_n 0), (14, .bipush 6), (16, .newarray .int), (18, .putfield 15), (21, .aload_n 0), (22, .bipush 64), (24, .newarray .int), (26, .putfield 18), (29, .return_)]
set_option maxRecDepth 100000 in
theorem ok_X0_init : jOk md_X0_init tb_X0_init := jOk_of (by decide +kernel)
def md_J6_bitCount_0f7a4 : MD := (yJ6_bitCount_0f7a4, cJ6_bitCount_0f7a4, 1, (some .int), 0, 0)
def tb_J6_bitCount_0f7a4 : List (Nat × Instr) := [(0, .iload_n 0), (1, .iload_n 0), (2, .iconst 1), (3, .iushr), (4, .ldc_w 265), (7, .iand), (8, .isub), (9, .istore_n 0), (10, .iload_n 0), (11, .ldc_w 266), (14, .iand), (15, .iload_n 0), (16, .iconst 2), (17, .iushr), (18, .ldc_w 266), (21, .iand), (22, .iadd), (23, .istore_n 0), (24, .iload_n 0), (25, .iload_n 0), (26, .iconst 4), (27, .iushr), (28, .iadd), (29, .ldc_w 267), (32, .iand), (33, .istore_n 0), (34, .iload_n 0), (35, .iload_n 0), (36, .bipush 8), (38, .iushr), (39, .iadd), (40, .istore_n 0), (41, .iload_n 0), (42, .iload_n 0), (43, .bipush 16), (45, .iushr), (46, .iadd), (47, .istore_n 0), (48, .iload_n 0), (49, .bipush 63), (51, .iand), (52, .ireturn)]
set_option maxRecDepth 100000 in
theorem ok_J6_bitCount_0f7a4 : jOk md_J6_bitCount_0f7a4 tb_J6_bitCount_0f7a4 := jOk_of (by decide +kernel)
def md_X0_add : MD := (yX0_add, cX0_add, 3, none, 0, 0)
def tb_X0_add : List (Nat × Instr) := [(0, .iload_n 1), (1, .ifCond .ne 40), (4, .aload_n 0), (5, .getfield 21), (8, .ifCond .lt 33), (11, .aload_n 0), (12, .getfield 21), (15, .sipush 320), (18, .if_icmp .ge 23), (21, .aload_n 0), (22, .getfield 9), (25, .aload_n 0), (26, .getfield 21), (29, .iload_n 2), (30, .iastore), (31, .aload_n 0), (32, .dup), (33, .getfield 21), (36, .iconst 1), (37, .iadd), (38, .putfield 21), (41, .return_)]
set_option maxRecDepth 100000 in
theorem ok_X0_add : jOk md_X0_add tb_X0_add := jOk_of (by decide +kernel)
def md_X5_isIn : MD := (yX5_isIn, cX5_isIn, 2, (some .boolean), 0, 0)
def tb_X5_isIn : List (Nat × Instr) := [(0, .iload_n 1), (1, .ifCond .lt 22), (4, .iload_n 1), (5, .bipush 6), (7, .if_icmp .ge 16), (10, .iload_n 0), (11, .iload_n 1), (12, .ishr), (13, .iconst 1), (14, .iand), (15, .iconst 1), (16, .if_icmp .ne 7), (19, .iconst 1), (20, .goto 4), (23, .iconst 0), (24, .ireturn)]
set_option maxRecDepth 100000 in
theorem ok_X5_isIn : jOk md_X5_isIn tb_X5_isIn := jOk_of (by decide +kernel)
def md_X0_draw : MD := (yX0_draw, cX0_draw, 7, none, 0, 0)
def tb_X0_draw : List (Nat × Instr) := [(0, .aload_n 0), (1, .getfield 30), (4, .istore 4), (6, .iload_n 1), (7, .ifCond .lt 15), (10, .iload_n 1), (11, .iload 4), (13, .if_icmp .ge 9), (16, .iload_n 1), (17, .bipush 6), (19, .if_icmp .lt 10), (22, .aload_n 0), (23, .iload_n 2), (24, .iload_n 3), (25, .invokevirtual 39), (28, .return_), (29, .iload_n 2), (30, .aload_n 0), (31, .getfield 15), (34, .iload_n 1), (35, .iaload), (36, .iconst (-1)), (37, .ixor), (38, .iand), (39, .istore 5), (41, .iconst 0), (42, .istore 6), (44, .iload 6), (46, .iload 4), (48, .if_icmp .ge 42), (51, .iload 5), (53, .iload 6), (55, .invokestatic 43), (58, .ifCond .eq 26), (61, .aload_n 0), (62, .iload_n 1), (63, .iconst 1), (64, .iadd), (65, .iload_n 2), (66, .iconst 1), (67, .iload 6), (69, .ishl), (70, .iconst (-1)), (71, .ixor), (72, .iand), (73, .iload_n 3), (74, .iload 6), (76, .iconst 3), (77, .iload_n 1), (78, .imul), (79, .ishl), (80, .ior), (81, .invokestatic 35), (84, .iinc 6 1), (87, .goto (-43)), (90, .iload 4), (92, .iload_n 1), (93, .isub), (94, .iload_n 2), (95, .invokestatic 47), (98, .if_icmp .le 19), (101, .aload_n 0), (102, .iload_n 1), (103, .iconst 1), (104, .iadd), (105, .iload_n 2), (106, .iload_n 3), (107, .bipush 7), (109, .iconst 3), (110, .iload_n 1), (111, .imul), (112, .ishl), (113, .ior), (114, .invokestatic 35), (117, .return_)]
set_option maxRecDepth 100000 in
theorem ok_X0_draw : jOk md_X0_draw tb_X0_draw := jOk_of (by decide +kernel)
def md_X1_has : MD := (yX1_has, cX1_has, 2, (some .boolean), 0, 0)
def tb_X1_has : List (Nat × Instr) := [(0, .iload_n 1), (1, .ifCond .lt 21), (4, .iload_n 1), (5, .aload_n 0), (6, .getfield 27), (9, .if_icmp .ge 13), (12, .iload_n 1), (13, .bipush 6), (15, .if_icmp .ge 7), (18, .iconst 1), (19, .goto 4), (22, .iconst 0), (23, .ireturn)]
set_option maxRecDepth 100000 in
theorem ok_X1_has : jOk md_X1_has tb_X1_has := jOk_of (by decide +kernel)
def md_X1_lovedBy : MD := (yX1_lovedBy, cX1_lovedBy, 2, (some .int), 0, 0)
def tb_X1_lovedBy : List (Nat × Instr) := [(0, .aload_n 0), (1, .iload_n 1), (2, .invokevirtual 34), (5, .ifCond .eq 12), (8, .aload_n 0), (9, .getfield 21), (12, .iload_n 1), (13, .iaload), (14, .goto 4), (17, .iconst 0), (18, .ireturn)]
set_option maxRecDepth 100000 in
theorem ok_X1_lovedBy : jOk md_X1_lovedBy tb_X1_lovedBy := jOk_of (by decide +kernel)
def md_X0_seek : MD := (yX0_seek, cX0_seek, 5, none, 0, 0)
def tb_X0_seek : List (Nat × Instr) := [(0, .aload_n 0), (1, .iconst 0), (2, .putfield 21), (5, .aload_n 0), (6, .aload_n 1), (7, .getfield 25), (10, .putfield 30), (13, .iconst 0), (14, .istore 4), (16, .iload 4), (18, .bipush 6), (20, .if_icmp .ge 35), (23, .aload_n 0), (24, .getfield 15), (27, .iload 4), (29, .iconst 1), (30, .iload 4), (32, .ishl), (33, .iload_n 3), (34, .ifCond .eq 7), (37, .iconst 0), (38, .goto 9), (41, .aload_n 1), (42, .iload 4), (44, .invokevirtual 31), (47, .ior), (48, .iastore), (49, .iinc 4 1), (52, .goto (-36)), (55, .aload_n 0), (56, .iconst 0), (57, .iload_n 2), (58, .iconst 0), (59, .invokestatic 35), (62, .return_)]
set_option maxRecDepth 100000 in
theorem ok_X0_seek : jOk md_X0_seek tb_X0_seek := jOk_of (by decide +kernel)
def md_X0_victimIn : MD := (yX0_victimIn, cX0_victimIn, 4, (some .int), 0, 0)
def tb_X0_victimIn : List (Nat × Instr) := [(0, .iload_n 1), (1, .ifCond .lt 18), (4, .iload_n 1), (5, .aload_n 0), (6, .getfield 21), (9, .if_icmp .ge 10), (12, .iload_n 1), (13, .sipush 320), (16, .if_icmp .lt 6), (19, .bipush (-9)), (21, .ireturn), (22, .aload_n 0), (23, .getfield 9), (26, .iload_n 1), (27, .iaload), (28, .iconst 3), (29, .iload_n 2), (30, .imul), (31, .ishr), (32, .bipush 7), (34, .iand), (35, .istore_n 3), (36, .iload_n 3), (37, .bipush 7), (39, .if_icmp .ne 8), (42, .bipush (-9)), (44, .goto 4), (47, .iload_n 3), (48, .ireturn)]
set_option maxRecDepth 100000 in
theorem ok_X0_victimIn : jOk md_X0_victimIn tb_X0_victimIn := jOk_of (by decide +kernel)
def md_X0_victimsOf : MD := (yX0_victimsOf, cX0_victimsOf, 5, (some .int), 0, 0)
def tb_X0_victimsOf : List (Nat × Instr) := [(0, .iconst 0), (1, .istore_n 3), (2, .iconst 0), (3, .istore 4), (5, .iload 4), (7, .aload_n 0), (8, .getfield 30), (11, .if_icmp .ge 33), (14, .iload_n 2), (15, .iload 4), (17, .ishr), (18, .iconst 1), (19, .iand), (20, .iconst 1), (21, .if_icmp .ne 17), (24, .iload_n 3), (25, .iconst 1), (26, .iload_n 1), (27, .iconst 3), (28, .iload 4), (30, .imul), (31, .ishr), (32, .bipush 7), (34, .iand), (35, .ishl), (36, .ior), (37, .istore_n 3), (38, .iinc 4 1), (41, .goto (-36)), (44, .iload_n 3), (45, .ireturn)]
set_option maxRecDepth 100000 in
theorem ok_X0_victimsOf : jOk md_X0_victimsOf tb_X0_victimsOf := jOk_of (by decide +kernel)
def md_X0_retain : MD := (yX0_retain, cX0_retain, 5, none, 0, 0)
def tb_X0_retain : List (Nat × Instr) := [(0, .iconst 0), (1, .istore_n 3), (2, .iconst 0), (3, .istore 4), (5, .iload 4), (7, .aload_n 0), (8, .getfield 21), (11, .if_icmp .ge 49), (14, .iload 4), (16, .sipush 320), (19, .if_icmp .ge 41), (22, .aload_n 0), (23, .aload_n 0), (24, .getfield 9), (27, .iload 4), (29, .iaload), (30, .iload_n 1), (31, .invokevirtual 52), (34, .iload_n 2), (35, .if_icmp .ne 19), (38, .aload_n 0), (39, .getfield 9), (42, .iload_n 3), (43, .aload_n 0), (44, .getfield 9), (47, .iload 4), (49, .iaload), (50, .iastore), (51, .iinc 3 1), (54, .iinc 4 1), (57, .goto (-52)), (60, .aload_n 0), (61, .iload_n 3), (62, .putfield 21), (65, .return_)]
set_option maxRecDepth 100000 in
theorem ok_X0_retain : jOk md_X0_retain tb_X0_retain := jOk_of (by decide +kernel)
def md_X0_countPair : MD := (yX0_countPair, cX0_countPair, 5, (some .int), 0, 0)
def tb_X0_countPair : List (Nat × Instr) := [(0, .iconst 0), (1, .istore_n 3), (2, .iconst 0), (3, .istore 4), (5, .iload 4), (7, .aload_n 0), (8, .getfield 21), (11, .if_icmp .ge 23), (14, .aload_n 0), (15, .iload 4), (17, .iload_n 1), (18, .invokevirtual 56), (21, .iload_n 2), (22, .if_icmp .ne 6), (25, .iinc 3 1), (28, .iinc 4 1), (31, .goto (-26)), (34, .iload_n 3), (35, .ireturn)]
set_option maxRecDepth 100000 in
theorem ok_X0_countPair : jOk md_X0_countPair tb_X0_countPair := jOk_of (by decide +kernel)
def md_X0_countMutual : MD := (yX0_countMutual, cX0_countMutual, 5, (some .int), 0, 0)
def tb_X0_countMutual : List (Nat × Instr) := [(0, .iconst 0), (1, .istore_n 3), (2, .iconst 0), (3, .istore 4), (5, .iload 4), (7, .aload_n 0), (8, .getfield 21), (11, .if_icmp .ge 34), (14, .aload_n 0), (15, .iload 4), (17, .iload_n 1), (18, .invokevirtual 56), (21, .iload_n 2), (22, .if_icmp .ne 17), (25, .aload_n 0), (26, .iload 4), (28, .iload_n 2), (29, .invokevirtual 56), (32, .iload_n 1), (33, .if_icmp .ne 6), (36, .iinc 3 1), (39, .iinc 4 1), (42, .goto (-37)), (45, .iload_n 3), (46, .ireturn)]
set_option maxRecDepth 100000 in
theorem ok_X0_countMutual : jOk md_X0_countMutual tb_X0_countMutual := jOk_of (by decide +kernel)
def md_J7_fill_53178 : MD := (yJ7_fill_53178, cJ7_fill_53178, 4, none, 0, 0)
def tb_J7_fill_53178 : List (Nat × Instr) := [(0, .iconst 0), (1, .istore_n 2), (2, .aload_n 0), (3, .arraylength), (4, .istore_n 3), (5, .iload_n 2), (6, .iload_n 3), (7, .if_icmp .ge 13), (10, .aload_n 0), (11, .iload_n 2), (12, .iload_n 1), (13, .iastore), (14, .iinc 2 1), (17, .goto (-12)), (20, .return_)]
set_option maxRecDepth 100000 in
theorem ok_J7_fill_53178 : jOk md_J7_fill_53178 tb_J7_fill_53178 := jOk_of (by decide +kernel)
def md_X0_mostAlike : MD := (yX0_mostAlike, cX0_mostAlike, 5, (some .int), 0, 0)
def tb_X0_mostAlike : List (Nat × Instr) := [(0, .aload_n 0), (1, .getfield 18), (4, .iconst 0), (5, .invokestatic 59), (8, .iconst 0), (9, .istore_n 2), (10, .iconst 0), (11, .istore_n 3), (12, .iload_n 3), (13, .aload_n 0), (14, .getfield 21), (17, .if_icmp .ge 64), (20, .iload_n 3), (21, .sipush 320), (24, .if_icmp .ge 57), (27, .aload_n 0), (28, .aload_n 0), (29, .getfield 9), (32, .iload_n 3), (33, .iaload), (34, .iload_n 1), (35, .invokevirtual 52), (38, .istore 4), (40, .iload 4), (42, .ifCond .lt 33), (45, .iload 4), (47, .bipush 64), (49, .if_icmp .ge 26), (52, .aload_n 0), (53, .getfield 18), (56, .iload 4), (58, .dup2), (59, .iaload), (60, .iconst 1), (61, .iadd), (62, .iastore), (63, .iload_n 2), (64, .aload_n 0), (65, .getfield 18), (68, .iload 4), (70, .iaload), (71, .invokestatic 65), (74, .istore_n 2), (75, .iinc 3 1), (78, .goto (-66)), (81, .iload_n 2), (82, .ireturn)]
set_option maxRecDepth 100000 in
theorem ok_X0_mostAlike : jOk md_X0_mostAlike tb_X0_mostAlike := jOk_of (by decide +kernel)
def md_X1_init : MD := (yX1_init, cX1_init, 1, none, 5, 30)
def tb_X1_init : List (Nat × Instr) := [(0, .aload_n 0), (1, .invokespecial 3), (4, .aload_n 0), (5, .bipush 6), (7, .newarray .int), (9, .putfield 9), (12, .aload_n 0), (13, .bipush 6), (15, .newarray .int), (17, .putfield 15), (20, .aload_n 0), (21, .bipush 6), (23, .newarray .int), (25, .putfield 18), (28, .aload_n 0), (29, .bipush 6), (31, .newarray .int), (33, .putfield 21), (36, .aload_n 0), (37, .bipush 6), (39, .newarray .int), (41, .putfield 24), (44, .return_)]
set_option maxRecDepth 100000 in
theorem ok_X1_init : jOk md_X1_init tb_X1_init := jOk_of (by decide +kernel)
def md_X1_clear : MD := (yX1_clear, cX1_clear, 1, none, 0, 0)
def tb_X1_clear : List (Nat × Instr) := [(0, .aload_n 0), (1, .iconst 0), (2, .putfield 27), (5, .aload_n 0), (6, .iconst 0), (7, .putfield 31), (10, .return_)]
set_option maxRecDepth 100000 in
theorem ok_X1_clear : jOk md_X1_clear tb_X1_clear := jOk_of (by decide +kernel)
def md_X1_join : MD := (yX1_join, cX1_join, 5, none, 0, 0)
def tb_X1_join : List (Nat × Instr) := [(0, .aload_n 0), (1, .getfield 27), (4, .ifCond .lt 12), (7, .aload_n 0), (8, .getfield 27), (11, .bipush 6), (13, .if_icmp .lt 4), (16, .return_), (17, .aload_n 0), (18, .getfield 9), (21, .aload_n 0), (22, .getfield 27), (25, .iload_n 1), (26, .iastore), (27, .aload_n 0), (28, .getfield 15), (31, .aload_n 0), (32, .getfield 27), (35, .iload_n 2), (36, .iastore), (37, .aload_n 0), (38, .getfield 18), (41, .aload_n 0), (42, .getfield 27), (45, .iload_n 3), (46, .iastore), (47, .aload_n 0), (48, .getfield 21), (51, .aload_n 0), (52, .getfield 27), (55, .iconst 0), (56, .iastore), (57, .aload_n 0), (58, .getfield 24), (61, .aload_n 0), (62, .getfield 27), (65, .iload 4), (67, .iastore), (68, .aload_n 0), (69, .dup), (70, .getfield 27), (73, .iconst 1), (74, .iadd), (75, .putfield 27), (78, .return_)]
set_option maxRecDepth 100000 in
theorem ok_X1_join : jOk md_X1_join tb_X1_join := jOk_of (by decide +kernel)
def md_X1_pair : MD := (yX1_pair, cX1_pair, 3, none, 0, 0)
def tb_X1_pair : List (Nat × Instr) := [(0, .aload_n 0), (1, .iload_n 1), (2, .invokevirtual 34), (5, .ifCond .eq 45), (8, .aload_n 0), (9, .iload_n 2), (10, .invokevirtual 34), (13, .ifCond .eq 37), (16, .aload_n 0), (17, .getfield 21), (20, .iload_n 1), (21, .dup2), (22, .iaload), (23, .iconst 1), (24, .iload_n 2), (25, .ishl), (26, .ior), (27, .iastore), (28, .aload_n 0), (29, .getfield 21), (32, .iload_n 2), (33, .dup2), (34, .iaload), (35, .iconst 1), (36, .iload_n 1), (37, .ishl), (38, .ior), (39, .iastore), (40, .aload_n 0), (41, .dup), (42, .getfield 31), (45, .iconst 1), (46, .iadd), (47, .putfield 31), (50, .return_)]
set_option maxRecDepth 100000 in
theorem ok_X1_pair : jOk md_X1_pair tb_X1_pair := jOk_of (by decide +kernel)
def md_X1_everyone : MD := (yX1_everyone, cX1_everyone, 1, (some .int), 0, 0)
def tb_X1_everyone : List (Nat × Instr) := [(0, .iconst 1), (1, .aload_n 0), (2, .getfield 27), (5, .ishl), (6, .iconst 1), (7, .isub), (8, .ireturn)]
set_option maxRecDepth 100000 in
theorem ok_X1_everyone : jOk md_X1_everyone tb_X1_everyone := jOk_of (by decide +kernel)
def md_X1_kindOf : MD := (yX1_kindOf, cX1_kindOf, 2, (some .int), 0, 0)
def tb_X1_kindOf : List (Nat × Instr) := [(0, .aload_n 0), (1, .iload_n 1), (2, .invokevirtual 34), (5, .ifCond .eq 12), (8, .aload_n 0), (9, .getfield 9), (12, .iload_n 1), (13, .iaload), (14, .goto 4), (17, .iconst 0), (18, .ireturn)]
set_option maxRecDepth 100000 in
theorem ok_X1_kindOf : jOk md_X1_kindOf tb_X1_kindOf := jOk_of (by decide +kernel)
def md_X1_aimOf : MD := (yX1_aimOf, cX1_aimOf, 2, (some .int), 0, 0)
def tb_X1_aimOf : List (Nat × Instr) := [(0, .aload_n 0), (1, .iload_n 1), (2, .invokevirtual 34), (5, .ifCond .eq 12), (8, .aload_n 0), (9, .getfield 15), (12, .iload_n 1), (13, .iaload), (14, .goto 4), (17, .iconst 0), (18, .ireturn)]
set_option maxRecDepth 100000 in
theorem ok_X1_aimOf : jOk md_X1_aimOf tb_X1_aimOf := jOk_of (by decide +kernel)
def md_X1_zealOf : MD := (yX1_zealOf, cX1_zealOf, 2, (some .int), 0, 0)
def tb_X1_zealOf : List (Nat × Instr) := [(0, .aload_n 0), (1, .iload_n 1), (2, .invokevirtual 34), (5, .ifCond .eq 12), (8, .aload_n 0), (9, .getfield 18), (12, .iload_n 1), (13, .iaload), (14, .goto 4), (17, .iconst 0), (18, .ireturn)]
set_option maxRecDepth 100000 in
theorem ok_X1_zealOf : jOk md_X1_zealOf tb_X1_zealOf := jOk_of (by decide +kernel)
def md_X1_firstVictimOf : MD := (yX1_firstVictimOf, cX1_firstVictimOf, 2, (some .int), 0, 0)
def tb_X1_firstVictimOf : List (Nat × Instr) := [(0, .aload_n 0), (1, .iload_n 1), (2, .invokevirtual 34), (5, .ifCond .eq 12), (8, .aload_n 0), (9, .getfield 24), (12, .iload_n 1), (13, .iaload), (14, .goto 5), (17, .bipush (-9)), (19, .ireturn)]
set_option maxRecDepth 100000 in
theorem ok_X1_firstVictimOf : jOk md_X1_firstVictimOf tb_X1_firstVictimOf := jOk_of (by decide +kernel)
def md_X1_isOf : MD := (yX1_isOf, cX1_isOf, 4, (some .boolean), 0, 0)
def tb_X1_isOf : List (Nat × Instr) := [(0, .aload_n 0), (1, .iload_n 1), (2, .invokevirtual 38), (5, .istore_n 3), (6, .iload_n 3), (7, .iload_n 2), (8, .if_icmp .eq 23), (11, .iload_n 3), (12, .iconst 4), (13, .if_icmp .ne 8), (16, .iload_n 2), (17, .iconst 1), (18, .if_icmp .eq 13), (21, .iload_n 3), (22, .iconst 5), (23, .if_icmp .ne 12), (26, .iload_n 2), (27, .iconst 3), (28, .if_icmp .ne 7), (31, .iconst 1), (32, .goto 4), (35, .iconst 0), (36, .ireturn)]
set_option maxRecDepth 100000 in
theorem ok_X1_isOf : jOk md_X1_isOf tb_X1_isOf := jOk_of (by decide +kernel)
def md_X1_power : MD := (yX1_power, cX1_power, 3, (some .int), 0, 0)
def tb_X1_power : List (Nat × Instr) := [(0, .aload_n 0), (1, .iload_n 1), (2, .invokevirtual 42), (5, .istore_n 2), (6, .aload_n 0), (7, .iload_n 1), (8, .iconst 1), (9, .invokevirtual 45), (12, .ifCond .eq 6), (15, .iinc 2 1), (18, .aload_n 0), (19, .iload_n 1), (20, .iconst 4), (21, .invokevirtual 45), (24, .ifCond .eq 6), (27, .iinc 2 2), (30, .aload_n 0), (31, .iload_n 1), (32, .iconst 3), (33, .invokevirtual 45), (36, .ifCond .eq 7), (39, .iload_n 2), (40, .iconst 2), (41, .idiv), (42, .istore_n 2), (43, .aload_n 0), (44, .iload_n 1), (45, .iconst 5), (46, .invokevirtual 45), (49, .ifCond .eq 11), (52, .iconst 0), (53, .iload_n 2), (54, .iconst 1), (55, .isub), (56, .invokestatic 49), (59, .istore_n 2), (60, .iload_n 2), (61, .ireturn)]
set_option maxRecDepth 100000 in
theorem ok_X1_power : jOk md_X1_power tb_X1_power := jOk_of (by decide +kernel)
def md_X1_against : MD := (yX1_against, cX1_against, 4, (some .int), 0, 0)
def tb_X1_against : List (Nat × Instr) := [(0, .aload_n 0), (1, .iload_n 1), (2, .invokevirtual 55), (5, .iload_n 2), (6, .invokestatic 58), (9, .ifCond .eq 5), (12, .iconst 0), (13, .ireturn), (14, .aload_n 0), (15, .iload_n 1), (16, .invokevirtual 61), (19, .istore_n 3), (20, .aload_n 0), (21, .iload_n 2), (22, .iconst 2), (23, .invokevirtual 45), (26, .ifCond .eq 13), (29, .iconst 0), (30, .iload_n 3), (31, .iconst 1), (32, .isub), (33, .invokestatic 49), (36, .goto 4), (39, .iload_n 3), (40, .ireturn)]
set_option maxRecDepth 100000 in
theorem ok_X1_against : jOk md_X1_against tb_X1_against := jOk_of (by decide +kernel)
def md_X2_init : MD := (yX2_init, cX2_init, 2, none, 1, 60)
def tb_X2_init : List (Nat × Instr) := [(0, .aload_n 0), (1, .invokespecial 3), (4, .aload_n 0), (5, .iconst 0), (6, .iload_n 1), (7, .invokestatic 9), (10, .newarray .int), (12, .putfield 15), (15, .aload_n 0), (16, .iconst (-1)), (17, .putfield 21), (20, .return_)]
set_option maxRecDepth 100000 in
theorem ok_X2_init : jOk md_X2_init tb_X2_init := jOk_of (by decide +kernel)
def md_X2_isMissing : MD := (yX2_isMissing, cX2_isMissing, 1, (some .boolean), 0, 0)
def tb_X2_isMissing : List (Nat × Instr) := [(0, .aload_n 0), (1, .getfield 21), (4, .ifCond .ge 7), (7, .iconst 1), (8, .goto 4), (11, .iconst 0), (12, .ireturn)]
set_option maxRecDepth 100000 in
theorem ok_X2_isMissing : jOk md_X2_isMissing tb_X2_isMissing := jOk_of (by decide +kernel)
def md_X2_holds : MD := (yX2_holds, cX2_holds, 2, (some .boolean), 0, 0)
def tb_X2_holds : List (Nat × Instr) := [(0, .iload_n 1), (1, .ifCond .lt 24), (4, .iload_n 1), (5, .aload_n 0), (6, .getfield 21), (9, .if_icmp .ge 16), (12, .iload_n 1), (13, .aload_n 0), (14, .getfield 15), (17, .arraylength), (18, .if_icmp .ge 7), (21, .iconst 1), (22, .goto 4), (25, .iconst 0), (26, .ireturn)]
set_option maxRecDepth 100000 in
theorem ok_X2_holds : jOk md_X2_holds tb_X2_holds := jOk_of (by decide +kernel)
def md_X2_holdsSpan : MD := (yX2_holdsSpan, cX2_holdsSpan, 3, (some .boolean), 0, 0)
def tb_X2_holdsSpan : List (Nat × Instr) := [(0, .iload_n 1), (1, .ifCond .lt 33), (4, .iload_n 2), (5, .ifCond .lt 29), (8, .iload_n 1), (9, .i2l), (10, .iload_n 2), (11, .i2l), (12, .ladd), (13, .aload_n 0), (14, .getfield 21), (17, .aload_n 0), (18, .getfield 15), (21, .arraylength), (22, .invokestatic 25), (25, .i2l), (26, .lcmp), (27, .ifCond .gt 7), (30, .iconst 1), (31, .goto 4), (34, .iconst 0), (35, .ireturn)]
set_option maxRecDepth 100000 in
theorem ok_X2_holdsSpan : jOk md_X2_holdsSpan tb_X2_holdsSpan := jOk_of (by decide +kernel)
def md_X2_get : MD := (yX2_get, cX2_get, 2, (some .int), 0, 0)
def tb_X2_get : List (Nat × Instr) := [(0, .aload_n 0), (1, .iload_n 1), (2, .invokevirtual 28), (5, .ifCond .eq 12), (8, .aload_n 0), (9, .getfield 15), (12, .iload_n 1), (13, .iaload), (14, .goto 4), (17, .iconst 0), (18, .ireturn)]
set_option maxRecDepth 100000 in
theorem ok_X2_get : jOk md_X2_get tb_X2_get := jOk_of (by decide +kernel)
def md_X2_set : MD := (yX2_set, cX2_set, 3, none, 0, 0)
def tb_X2_set : List (Nat × Instr) := [(0, .aload_n 0), (1, .iload_n 1), (2, .invokevirtual 28), (5, .ifCond .eq 10), (8, .aload_n 0), (9, .getfield 15), (12, .iload_n 1), (13, .iload_n 2), (14, .iastore), (15, .return_)]
set_option maxRecDepth 100000 in
theorem ok_X2_set : jOk md_X2_set tb_X2_set := jOk_of (by decide +kernel)
def md_X2_renew : MD := (yX2_renew, cX2_renew, 4, none, 0, 0)
def tb_X2_renew : List (Nat × Instr) := [(0, .aload_n 0), (1, .iconst 0), (2, .iload_n 1), (3, .aload_n 0), (4, .getfield 15), (7, .arraylength), (8, .invokestatic 25), (11, .invokestatic 9), (14, .putfield 21), (17, .iconst 0), (18, .istore_n 3), (19, .iload_n 3), (20, .aload_n 0), (21, .getfield 21), (24, .if_icmp .ge 15), (27, .aload_n 0), (28, .iload_n 3), (29, .iload_n 2), (30, .invokevirtual 32), (33, .iinc 3 1), (36, .goto (-17)), (39, .return_)]
set_option maxRecDepth 100000 in
theorem ok_X2_renew : jOk md_X2_renew tb_X2_renew := jOk_of (by decide +kernel)
def md_X2_discard : MD := (yX2_discard, cX2_discard, 1, none, 0, 0)
def tb_X2_discard : List (Nat × Instr) := [(0, .aload_n 0), (1, .iconst (-1)), (2, .putfield 21), (5, .return_)]
set_option maxRecDepth 100000 in
theorem ok_X2_discard : jOk md_X2_discard tb_X2_discard := jOk_of (by decide +kernel)
def md_X2_take : MD := (yX2_take, cX2_take, 5, none, 0, 0)
def tb_X2_take : List (Nat × Instr) := [(0, .aload_n 1), (1, .iload_n 2), (2, .iload 4), (4, .invokevirtual 36), (7, .ifCond .eq 28), (10, .aload_n 0), (11, .iload_n 3), (12, .iload 4), (14, .invokevirtual 36), (17, .ifCond .eq 18), (20, .aload_n 1), (21, .getfield 15), (24, .iload_n 2), (25, .aload_n 0), (26, .getfield 15), (29, .iload_n 3), (30, .iload 4), (32, .invokestatic 40), (35, .return_)]
set_option maxRecDepth 100000 in
theorem ok_X2_take : jOk md_X2_take tb_X2_take := jOk_of (by decide +kernel)
def md_X2_meanCut : MD := (yX2_meanCut, cX2_meanCut, 4, (some .int), 0, 0)
def tb_X2_meanCut : List (Nat × Instr) := [(0, .lconst 0), (1, .lstore_n 1), (2, .iconst 0), (3, .istore_n 3), (4, .iload_n 3), (5, .aload_n 0), (6, .getfield 21), (9, .if_icmp .ge 18), (12, .lload_n 1), (13, .aload_n 0), (14, .iload_n 3), (15, .invokevirtual 46), (18, .i2l), (19, .ladd), (20, .lstore_n 1), (21, .iinc 3 1), (24, .goto (-20)), (27, .aload_n 0), (28, .getfield 21), (31, .ifCond .le 14), (34, .lload_n 1), (35, .aload_n 0), (36, .getfield 21), (39, .i2l), (40, .ldiv), (41, .l2i), (42, .goto 4), (45, .iconst 0), (46, .ireturn)]
set_option maxRecDepth 100000 in
theorem ok_X2_meanCut : jOk md_X2_meanCut tb_X2_meanCut := jOk_of (by decide +kernel)
def md_X2_mixInto : MD := (yX2_mixInto, cX2_mixInto, 6, (some .long), 0, 0)
def tb_X2_mixInto : List (Nat × Instr) := [(0, .ldc2_w 50), (3, .lload_n 1), (4, .lmul), (5, .aload_n 0), (6, .getfield 21), (9, .i2l), (10, .ladd), (11, .lstore_n 3), (12, .iconst 0), (13, .istore 5), (15, .iload 5), (17, .aload_n 0), (18, .getfield 21), (21, .if_icmp .ge 23), (24, .ldc2_w 50), (27, .lload_n 3), (28, .lmul), (29, .aload_n 0), (30, .iload 5), (32, .invokevirtual 46), (35, .i2l), (36, .ladd), (37, .lstore_n 3), (38, .iinc 5 1), (41, .goto (-26)), (44, .lload_n 3), (45, .lreturn)]
set_option maxRecDepth 100000 in
theorem ok_X2_mixInto : jOk md_X2_mixInto tb_X2_mixInto := jOk_of (by decide +kernel)
def md_X3_init : MD := (yX3_init, cX3_init, 1, none, 1, 6)
def tb_X3_init : List (Nat × Instr) := [(0, .aload_n 0), (1, .invokespecial 3), (4, .aload_n 0), (5, .bipush 6), (7, .newarray .int), (9, .putfield 9), (12, .return_)]
set_option maxRecDepth 100000 in
theorem ok_X3_init : jOk md_X3_init tb_X3_init := jOk_of (by decide +kernel)
def md_X3_faultOfFoes : MD := (yX3_faultOfFoes, cX3_faultOfFoes, 5, (some .int), 0, 0)
def tb_X3_faultOfFoes : List (Nat × Instr) := [(0, .iconst 0), (1, .istore_n 2), (2, .iconst 0), (3, .istore_n 3), (4, .iload_n 3), (5, .aload_n 1), (6, .getfield 37), (9, .if_icmp .ge 70), (12, .iload_n 3), (13, .bipush 6), (15, .if_icmp .ge 64), (18, .aload_n 1), (19, .iload_n 3), (20, .invokevirtual 77), (23, .istore 4), (25, .iload 4), (27, .bipush (-9)), (29, .if_icmp .ne 6), (32, .goto 41), (35, .iload 4), (37, .iload_n 3), (38, .if_icmp .eq 21), (41, .aload_n 1), (42, .iload 4), (44, .invokevirtual 80), (47, .ifCond .eq 12), (50, .iload_n 2), (51, .iload 4), (53, .invokestatic 69), (56, .ifCond .eq 10), (59, .aload_n 0), (60, .getfield 9), (63, .iload_n 3), (64, .iaload), (65, .ireturn), (66, .iload_n 2), (67, .iconst 1), (68, .iload 4), (70, .ishl), (71, .ior), (72, .istore_n 2), (73, .iinc 3 1), (76, .goto (-72)), (79, .bipush (-9)), (81, .ireturn)]
set_option maxRecDepth 100000 in
theorem ok_X3_faultOfFoes : jOk md_X3_faultOfFoes tb_X3_faultOfFoes := jOk_of (by decide +kernel)
def md_X3_figure : MD := (yX3_figure, cX3_figure, 5, (some .int), 0, 0)
def tb_X3_figure : List (Nat × Instr) := [(0, .aload_n 0), (1, .iload_n 1), (2, .invokevirtual 58), (5, .ifCond .ne 5), (8, .iconst (-1)), (9, .ireturn), (10, .aload_n 0), (11, .iload_n 1), (12, .invokevirtual 30), (15, .bipush 48), (17, .isub), (18, .istore 4), (20, .iload 4), (22, .iload_n 2), (23, .if_icmp .lt 14), (26, .iload 4), (28, .iload_n 3), (29, .if_icmp .gt 8), (32, .iload 4), (34, .goto 4), (37, .iconst (-1)), (38, .ireturn)]
set_option maxRecDepth 100000 in
theorem ok_X3_figure : jOk md_X3_figure tb_X3_figure := jOk_of (by decide +kernel)
def md_X3_readLove : MD := (yX3_readLove, cX3_readLove, 6, (some .int), 0, 0)
def tb_X3_readLove : List (Nat × Instr) := [(0, .aload_n 3), (1, .getfield 37), (4, .iconst 2), (5, .if_icmp .lt 12), (8, .aload_n 3), (9, .getfield 51), (12, .bipush 8), (14, .if_icmp .lt 5), (17, .iload_n 2), (18, .ireturn), (19, .aload_n 1), (20, .iload_n 2), (21, .iconst 1), (22, .iadd), (23, .iconst 0), (24, .aload_n 3), (25, .getfield 37), (28, .iconst 1), (29, .isub), (30, .invokestatic 54), (33, .istore 4), (35, .iload 4), (37, .ifCond .ge 7), (40, .iload_n 2), (41, .iconst 1), (42, .iadd), (43, .ireturn), (44, .aload_n 1), (45, .iload_n 2), (46, .iconst 2), (47, .iadd), (48, .iconst 0), (49, .aload_n 3), (50, .getfield 37), (53, .iconst 1), (54, .isub), (55, .invokestatic 54), (58, .istore 5), (60, .iload 5), (62, .ifCond .lt 24), (65, .iload 5), (67, .iload 4), (69, .if_icmp .eq 17), (72, .aload_n 3), (73, .iload 4), (75, .invokevirtual 66), (78, .iload 5), (80, .invokestatic 69), (83, .ifCond .eq 7), (86, .iload_n 2), (87, .iconst 2), (88, .iadd), (89, .ireturn), (90, .aload_n 3), (91, .iload 4), (93, .iload 5), (95, .invokevirtual 73), (98, .bipush (-9)), (100, .ireturn)]
set_option maxRecDepth 100000 in
theorem ok_X3_readLove : jOk md_X3_readLove tb_X3_readLove := jOk_of (by decide +kernel)
def md_X3_kindBy : MD := (yX3_kindBy, cX3_kindBy, 2, (some .int), 0, 0)
def tb_X3_kindBy : List (Nat × Instr) := [(0, .iconst 0), (1, .istore_n 1), (2, .iload_n 1), (3, .getstatic 83), (6, .arraylength), (7, .if_icmp .ge 20), (10, .getstatic 83), (13, .iload_n 1), (14, .iaload), (15, .iload_n 0), (16, .if_icmp .ne 5), (19, .iload_n 1), (20, .ireturn), (21, .iinc 1 1), (24, .goto (-22)), (27, .iconst (-1)), (28, .ireturn)]
set_option maxRecDepth 100000 in
theorem ok_X3_kindBy : jOk md_X3_kindBy tb_X3_kindBy := jOk_of (by decide +kernel)
def md_X3_readPerson : MD := (yX3_readPerson, cX3_readPerson, 9, (some .int), 0, 0)
def tb_X3_readPerson : List (Nat × Instr) := [(0, .aload_n 1), (1, .iload_n 2), (2, .invokevirtual 30), (5, .invokestatic 48), (8, .istore 4), (10, .iload 4), (12, .ifCond .lt 19), (15, .aload_n 3), (16, .getfield 51), (19, .ifCond .gt 12), (22, .aload_n 3), (23, .getfield 37), (26, .bipush 6), (28, .if_icmp .lt 5), (31, .iload_n 2), (32, .ireturn), (33, .aload_n 1), (34, .iload_n 2), (35, .iconst 1), (36, .iadd), (37, .iconst 1), (38, .bipush 9), (40, .invokestatic 54), (43, .istore 5), (45, .iload 5), (47, .ifCond .ge 7), (50, .iload_n 2), (51, .iconst 1), (52, .iadd), (53, .ireturn), (54, .aload_n 1), (55, .iload_n 2), (56, .iconst 2), (57, .iadd), (58, .iconst 0), (59, .iconst 5), (60, .invokestatic 54), (63, .istore 6), (65, .iload 6), (67, .ifCond .ge 7), (70, .iload_n 2), (71, .iconst 2), (72, .iadd), (73, .ireturn), (74, .aload_n 1), (75, .iload_n 2), (76, .iconst 3), (77, .iadd), (78, .invokevirtual 58), (81, .ifCond .eq 19), (84, .aload_n 1), (85, .iload_n 2), (86, .iconst 3), (87, .iadd), (88, .invokevirtual 30), (91, .bipush 45), (93, .if_icmp .ne 7), (96, .iconst 1), (97, .goto 4), (100, .iconst 0), (101, .istore 7), (103, .iload 7), (105, .ifCond .eq 8), (108, .bipush (-9)), (110, .goto 13), (113, .aload_n 1), (114, .iload_n 2), (115, .iconst 3), (116, .iadd), (117, .iconst 0), (118, .bipush 9), (120, .invokestatic 54), (123, .istore 8), (125, .iload 7), (127, .ifCond .ne 12), (130, .iload 8), (132, .ifCond .ge 7), (135, .iload_n 2), (136, .iconst 3), (137, .iadd), (138, .ireturn), (139, .aload_n 3), (140, .getfield 37), (143, .ifCond .lt 24), (146, .aload_n 3), (147, .getfield 37), (150, .bipush 6), (152, .if_icmp .ge 15), (155, .aload_n 0), (156, .getfield 9), (159, .aload_n 3), (160, .getfield 37), (163, .iload_n 2), (164, .iconst 3), (165, .iadd), (166, .iastore), (167, .aload_n 3), (168, .iload 4), (170, .iload 5), (172, .iload 6), (174, .iload 8), (176, .invokevirtual 62), (179, .bipush (-9)), (181, .ireturn)]
set_option maxRecDepth 100000 in
theorem ok_X3_readPerson : jOk md_X3_readPerson tb_X3_readPerson := jOk_of (by decide +kernel)
def md_X3_readItem : MD := (yX3_readItem, cX3_readItem, 4, (some .int), 0, 0)
def tb_X3_readItem : List (Nat × Instr) := [(0, .aload_n 1), (1, .iload_n 2), (2, .invokevirtual 30), (5, .bipush 32), (7, .if_icmp .ne 6), (10, .bipush (-9)), (12, .ireturn), (13, .aload_n 1), (14, .iload_n 2), (15, .invokevirtual 30), (18, .bipush 111), (20, .if_icmp .ne 13), (23, .aload_n 0), (24, .aload_n 1), (25, .iload_n 2), (26, .aload_n 3), (27, .invokevirtual 42), (30, .goto 10), (33, .aload_n 0), (34, .aload_n 1), (35, .iload_n 2), (36, .aload_n 3), (37, .invokevirtual 45), (40, .ireturn)]
set_option maxRecDepth 100000 in
theorem ok_X3_readItem : jOk md_X3_readItem tb_X3_readItem := jOk_of (by decide +kernel)
def md_X3_widthOf : MD := (yX3_widthOf, cX3_widthOf, 1, (some .int), 0, 0)
def tb_X3_widthOf : List (Nat × Instr) := [(0, .iload_n 0), (1, .bipush 32), (3, .if_icmp .ne 5), (6, .iconst 1), (7, .ireturn), (8, .iload_n 0), (9, .bipush 111), (11, .if_icmp .ne 7), (14, .iconst 3), (15, .goto 4), (18, .iconst 4), (19, .ireturn)]
set_option maxRecDepth 100000 in
theorem ok_X3_widthOf : jOk md_X3_widthOf tb_X3_widthOf := jOk_of (by decide +kernel)
def md_X3_read : MD := (yX3_read, cX3_read, 6, (some .int), 0, 0)
def tb_X3_read : List (Nat × Instr) := [(0, .aload_n 2), (1, .invokevirtual 15), (4, .iconst 0), (5, .istore_n 3), (6, .iconst 0), (7, .istore 4), (9, .iload 4), (11, .aload_n 1), (12, .getfield 20), (15, .if_icmp .ge 51), (18, .iload 4), (20, .iload_n 3), (21, .if_icmp .ge 6), (24, .goto 36), (27, .aload_n 0), (28, .aload_n 1), (29, .iload 4), (31, .aload_n 2), (32, .invokevirtual 26), (35, .istore 5), (37, .iload 5), (39, .bipush (-9)), (41, .if_icmp .eq 6), (44, .iload 5), (46, .ireturn), (47, .iload 4), (49, .aload_n 1), (50, .iload 4), (52, .invokevirtual 30), (55, .invokestatic 34), (58, .iadd), (59, .istore_n 3), (60, .iinc 4 1), (63, .goto (-54)), (66, .aload_n 2), (67, .getfield 37), (70, .iconst 2), (71, .if_icmp .ge 10), (74, .aload_n 1), (75, .getfield 20), (78, .goto 8), (81, .aload_n 0), (82, .aload_n 2), (83, .invokevirtual 38), (86, .ireturn)]
set_option maxRecDepth 100000 in
theorem ok_X3_read : jOk md_X3_read tb_X3_read := jOk_of (by decide +kernel)
def md_X4_init : MD := (yX4_init, cX4_init, 1, none, 3, 738)
def tb_X4_init : List (Nat × Instr) := [(0, .aload_n 0), (1, .invokespecial 3), (4, .aload_n 0), (5, .sipush 246), (8, .newarray .int), (10, .putfield 9), (13, .aload_n 0), (14, .sipush 246), (17, .newarray .int), (19, .putfield 15), (22, .aload_n 0), (23, .sipush 246), (26, .newarray .int), (28, .putfield 18), (31, .return_)]
set_option maxRecDepth 100000 in
theorem ok_X4_init : jOk md_X4_init tb_X4_init := jOk_of (by decide +kernel)
def md_X4_slot : MD := (yX4_slot, cX4_slot, 3, (some .int), 0, 0)
def tb_X4_slot : List (Nat × Instr) := [(0, .aload_n 0), (1, .getfield 21), (4, .bipush 6), (6, .imul), (7, .iload_n 1), (8, .iadd), (9, .istore_n 2), (10, .iload_n 2), (11, .ifCond .lt 14), (14, .iload_n 2), (15, .sipush 246), (18, .if_icmp .ge 7), (21, .iload_n 2), (22, .goto 4), (25, .iconst 0), (26, .ireturn)]
set_option maxRecDepth 100000 in
theorem ok_X4_slot : jOk md_X4_slot tb_X4_slot := jOk_of (by decide +kernel)
def md_X4_setDeeds : MD := (yX4_setDeeds, cX4_setDeeds, 3, none, 0, 0)
def tb_X4_setDeeds : List (Nat × Instr) := [(0, .aload_n 0), (1, .getfield 15), (4, .aload_n 0), (5, .iload_n 1), (6, .invokevirtual 44), (9, .iload_n 2), (10, .iastore), (11, .return_)]
set_option maxRecDepth 100000 in
theorem ok_X4_setDeeds : jOk md_X4_setDeeds tb_X4_setDeeds := jOk_of (by decide +kernel)
def md_X4_setVictim : MD := (yX4_setVictim, cX4_setVictim, 3, none, 0, 0)
def tb_X4_setVictim : List (Nat × Instr) := [(0, .aload_n 0), (1, .getfield 9), (4, .aload_n 0), (5, .iload_n 1), (6, .invokevirtual 44), (9, .iload_n 2), (10, .iastore), (11, .return_)]
set_option maxRecDepth 100000 in
theorem ok_X4_setVictim : jOk md_X4_setVictim tb_X4_setVictim := jOk_of (by decide +kernel)
def md_X4_begin : MD := (yX4_begin, cX4_begin, 3, none, 0, 0)
def tb_X4_begin : List (Nat × Instr) := [(0, .aload_n 0), (1, .iconst 0), (2, .putfield 21), (5, .iconst 0), (6, .istore_n 2), (7, .iload_n 2), (8, .bipush 6), (10, .if_icmp .ge 32), (13, .aload_n 0), (14, .iload_n 2), (15, .aload_n 1), (16, .iload_n 2), (17, .invokevirtual 25), (20, .invokevirtual 31), (23, .aload_n 0), (24, .iload_n 2), (25, .iconst 0), (26, .invokevirtual 35), (29, .aload_n 0), (30, .getfield 18), (33, .iload_n 2), (34, .iconst 0), (35, .iastore), (36, .iinc 2 1), (39, .goto (-32)), (42, .return_)]
set_option maxRecDepth 100000 in
theorem ok_X4_begin : jOk md_X4_begin tb_X4_begin := jOk_of (by decide +kernel)
def md_X4_beginTurn : MD := (yX4_beginTurn, cX4_beginTurn, 3, (some .boolean), 0, 0)
def tb_X4_beginTurn : List (Nat × Instr) := [(0, .aload_n 0), (1, .getfield 21), (4, .ifCond .lt 12), (7, .aload_n 0), (8, .getfield 21), (11, .bipush 40), (13, .if_icmp .lt 5), (16, .iconst 0), (17, .ireturn), (18, .aload_n 0), (19, .getfield 21), (22, .bipush 6), (24, .imul), (25, .istore_n 1), (26, .iload_n 1), (27, .bipush 6), (29, .iadd), (30, .istore_n 2), (31, .aload_n 0), (32, .getfield 9), (35, .iload_n 1), (36, .aload_n 0), (37, .getfield 9), (40, .iload_n 2), (41, .bipush 6), (43, .invokestatic 38), (46, .aload_n 0), (47, .getfield 15), (50, .iload_n 1), (51, .aload_n 0), (52, .getfield 15), (55, .iload_n 2), (56, .bipush 6), (58, .invokestatic 38), (61, .aload_n 0), (62, .getfield 18), (65, .iload_n 1), (66, .aload_n 0), (67, .getfield 18), (70, .iload_n 2), (71, .bipush 6), (73, .invokestatic 38), (76, .aload_n 0), (77, .dup), (78, .getfield 21), (81, .iconst 1), (82, .iadd), (83, .putfield 21), (86, .iconst 1), (87, .ireturn)]
set_option maxRecDepth 100000 in
theorem ok_X4_beginTurn : jOk md_X4_beginTurn tb_X4_beginTurn := jOk_of (by decide +kernel)
def md_X4_backTo : MD := (yX4_backTo, cX4_backTo, 3, (some .int), 0, 0)
def tb_X4_backTo : List (Nat × Instr) := [(0, .aload_n 0), (1, .getfield 21), (4, .iload_n 1), (5, .isub), (6, .istore_n 2), (7, .aload_n 0), (8, .iload_n 1), (9, .putfield 21), (12, .iload_n 2), (13, .ireturn)]
set_option maxRecDepth 100000 in
theorem ok_X4_backTo : jOk md_X4_backTo tb_X4_backTo := jOk_of (by decide +kernel)
def md_X4_take : MD := (yX4_take, cX4_take, 2, none, 0, 0)
def tb_X4_take : List (Nat × Instr) := [(0, .aload_n 0), (1, .aload_n 1), (2, .getfield 21), (5, .putfield 21), (8, .aload_n 1), (9, .getfield 9), (12, .iconst 0), (13, .aload_n 0), (14, .getfield 9), (17, .iconst 0), (18, .sipush 246), (21, .invokestatic 38), (24, .aload_n 1), (25, .getfield 15), (28, .iconst 0), (29, .aload_n 0), (30, .getfield 15), (33, .iconst 0), (34, .sipush 246), (37, .invokestatic 38), (40, .aload_n 1), (41, .getfield 18), (44, .iconst 0), (45, .aload_n 0), (46, .getfield 18), (49, .iconst 0), (50, .sipush 246), (53, .invokestatic 38), (56, .return_)]
set_option maxRecDepth 100000 in
theorem ok_X4_take : jOk md_X4_take tb_X4_take := jOk_of (by decide +kernel)
def md_X4_victimOf : MD := (yX4_victimOf, cX4_victimOf, 2, (some .int), 0, 0)
def tb_X4_victimOf : List (Nat × Instr) := [(0, .aload_n 0), (1, .getfield 9), (4, .aload_n 0), (5, .iload_n 1), (6, .invokevirtual 44), (9, .iaload), (10, .ireturn)]
set_option maxRecDepth 100000 in
theorem ok_X4_victimOf : jOk md_X4_victimOf tb_X4_victimOf := jOk_of (by decide +kernel)
def md_X4_deedsOf : MD := (yX4_deedsOf, cX4_deedsOf, 2, (some .int), 0, 0)
def tb_X4_deedsOf : List (Nat × Instr) := [(0, .aload_n 0), (1, .getfield 15), (4, .aload_n 0), (5, .iload_n 1), (6, .invokevirtual 44), (9, .iaload), (10, .ireturn)]
set_option maxRecDepth 100000 in
theorem ok_X4_deedsOf : jOk md_X4_deedsOf tb_X4_deedsOf := jOk_of (by decide +kernel)
def md_X4_finesOf : MD := (yX4_finesOf, cX4_finesOf, 2, (some .int), 0, 0)
def tb_X4_finesOf : List (Nat × Instr) := [(0, .aload_n 0), (1, .getfield 18), (4, .aload_n 0), (5, .iload_n 1), (6, .invokevirtual 44), (9, .iaload), (10, .ireturn)]
set_option maxRecDepth 100000 in
theorem ok_X4_finesOf : jOk md_X4_finesOf tb_X4_finesOf := jOk_of (by decide +kernel)
def md_X4_fine : MD := (yX4_fine, cX4_fine, 2, none, 0, 0)
def tb_X4_fine : List (Nat × Instr) := [(0, .aload_n 0), (1, .getfield 18), (4, .aload_n 0), (5, .iload_n 1), (6, .invokevirtual 44), (9, .dup2), (10, .iaload), (11, .iconst 1), (12, .iadd), (13, .iastore), (14, .return_)]
set_option maxRecDepth 100000 in
theorem ok_X4_fine : jOk md_X4_fine tb_X4_fine := jOk_of (by decide +kernel)
