section
set_option maxRecDepth 100000 in
theorem zf_X5_isAfter : zc_X5_isAfter.find? (fun r => r.1 == 0) = some (0, .iload_n 0, 1, 0, 0, 0, 0) ∧ zc_X5_isAfter.find? (fun r => r.1 == 1) = some (1, .iconst 2, 1, 0, 0, 0, 0) ∧ zc_X5_isAfter.find? (fun r => r.1 == 2) = some (2, .irem, 1, 0, 0, 0, 0) ∧ zc_X5_isAfter.find? (fun r => r.1 == 3) = some (3, .iconst 1, 1, 0, 0, 0, 0) ∧ zc_X5_isAfter.find? (fun r => r.1 == 4) = some (4, .if_icmp .ne 7, 3, 11, 0, 0, 0) ∧ zc_X5_isAfter.find? (fun r => r.1 == 7) = some (7, .iconst 1, 1, 0, 0, 0, 0) ∧ zc_X5_isAfter.find? (fun r => r.1 == 8) = some (8, .goto 4, 3, 12, 0, 0, 0) ∧ zc_X5_isAfter.find? (fun r => r.1 == 11) = some (11, .iconst 0, 1, 0, 0, 0, 0) ∧ zc_X5_isAfter.find? (fun r => r.1 == 12) = some (12, .ireturn, 1, 0, 0, 0, 0) := zi_fdi (zc := zc_X5_isAfter) (by decide +kernel)
set_option maxRecDepth 100000 in
theorem zf_X5_gatherWithDialogs : zc_X5_gatherWithDialogs.find? (fun r => r.1 == 0) = some (0, .iconst 0, 1, 0, 0, 0, 0) ∧ zc_X5_gatherWithDialogs.find? (fun r => r.1 == 1) = some (1, .istore_n 2, 1, 0, 0, 0, 0) ∧ zc_X5_gatherWithDialogs.find? (fun r => r.1 == 2) = some (2, .iload_n 2, 1, 0, 0, 0, 0) ∧ zc_X5_gatherWithDialogs.find? (fun r => r.1 == 3) = some (3, .bipush 10, 2, 0, 0, 0, 0) ∧ zc_X5_gatherWithDialogs.find? (fun r => r.1 == 5) = some (5, .if_icmp .ge 25, 3, 30, 0, 0, 0) ∧ zc_X5_gatherWithDialogs.find? (fun r => r.1 == 8) = some (8, .aload_n 0, 1, 0, 0, 0, 0) ∧ zc_X5_gatherWithDialogs.find? (fun r => r.1 == 9) = some (9, .getfield 38, 3, 5, 5, 287, 0) ∧ zc_X5_gatherWithDialogs.find? (fun r => r.1 == 12) = some (12, .iload_n 2, 1, 0, 0, 0, 0) ∧ zc_X5_gatherWithDialogs.find? (fun r => r.1 == 13) = some (13, .iload_n 2, 1, 0, 0, 0, 0) ∧ zc_X5_gatherWithDialogs.find? (fun r => r.1 == 14) = some (14, .iload_n 1, 1, 0, 0, 0, 0) ∧ zc_X5_gatherWithDialogs.find? (fun r => r.1 == 15) = some (15, .if_icmp .ne 7, 3, 22, 0, 0, 0) ∧ zc_X5_gatherWithDialogs.find? (fun r => r.1 == 18) = some (18, .iconst 1, 1, 0, 0, 0, 0) ∧ zc_X5_gatherWithDialogs.find? (fun r => r.1 == 19) = some (19, .goto 4, 3, 23, 0, 0, 0) ∧ zc_X5_gatherWithDialogs.find? (fun r => r.1 == 22) = some (22, .iconst 0, 1, 0, 0, 0, 0) ∧ zc_X5_gatherWithDialogs.find? (fun r => r.1 == 23) = some (23, .bastore, 1, 0, 0, 0, 0) ∧ zc_X5_gatherWithDialogs.find? (fun r => r.1 == 24) = some (24, .iinc 2 1, 3, 0, 0, 0, 0) ∧ zc_X5_gatherWithDialogs.find? (fun r => r.1 == 27) = some (27, .goto (-25), 3, 2, 0, 0, 0) ∧ zc_X5_gatherWithDialogs.find? (fun r => r.1 == 30) = some (30, .aload_n 0, 1, 0, 0, 0, 0) ∧ zc_X5_gatherWithDialogs.find? (fun r => r.1 == 31) = some (31, .invokevirtual 395, 3, 158, 1, 345, 5) ∧ zc_X5_gatherWithDialogs.find? (fun r => r.1 == 34) = some (34, .return_, 1, 0, 0, 0, 0) := zi_fdi (zc := zc_X5_gatherWithDialogs) (by decide +kernel)
set_option maxRecDepth 100000 in
theorem zf_X5_gatherDialogs : zc_X5_gatherDialogs.find? (fun r => r.1 == 0) = some (0, .iconst 0, 1, 0, 0, 0, 0) ∧ zc_X5_gatherDialogs.find? (fun r => r.1 == 1) = some (1, .istore_n 1, 1, 0, 0, 0, 0) ∧ zc_X5_gatherDialogs.find? (fun r => r.1 == 2) = some (2, .iload_n 1, 1, 0, 0, 0, 0) ∧ zc_X5_gatherDialogs.find? (fun r => r.1 == 3) = some (3, .bipush 10, 2, 0, 0, 0, 0) ∧ zc_X5_gatherDialogs.find? (fun r => r.1 == 5) = some (5, .if_icmp .ge 71, 3, 76, 0, 0, 0) ∧ zc_X5_gatherDialogs.find? (fun r => r.1 == 8) = some (8, .iconst 0, 1, 0, 0, 0, 0) ∧ zc_X5_gatherDialogs.find? (fun r => r.1 == 9) = some (9, .istore_n 2, 1, 0, 0, 0, 0) ∧ zc_X5_gatherDialogs.find? (fun r => r.1 == 10) = some (10, .iload_n 2, 1, 0, 0, 0, 0) ∧ zc_X5_gatherDialogs.find? (fun r => r.1 == 11) = some (11, .bipush 10, 2, 0, 0, 0, 0) ∧ zc_X5_gatherDialogs.find? (fun r => r.1 == 13) = some (13, .if_icmp .ge 57, 3, 70, 0, 0, 0) ∧ zc_X5_gatherDialogs.find? (fun r => r.1 == 16) = some (16, .aload_n 0, 1, 0, 0, 0, 0) ∧ zc_X5_gatherDialogs.find? (fun r => r.1 == 17) = some (17, .iload_n 2, 1, 0, 0, 0, 0) ∧ zc_X5_gatherDialogs.find? (fun r => r.1 == 18) = some (18, .invokevirtual 122, 3, 35, 2, 349, 5) ∧ zc_X5_gatherDialogs.find? (fun r => r.1 == 21) = some (21, .ifCond .eq 43, 3, 64, 0, 0, 0) ∧ zc_X5_gatherDialogs.find? (fun r => r.1 == 24) = some (24, .aload_n 0, 1, 0, 0, 0, 0) ∧ zc_X5_gatherDialogs.find? (fun r => r.1 == 25) = some (25, .aload_n 0, 1, 0, 0, 0, 0) ∧ zc_X5_gatherDialogs.find? (fun r => r.1 == 26) = some (26, .getfield 11, 3, 5, 0, 282, 0) ∧ zc_X5_gatherDialogs.find? (fun r => r.1 == 29) = some (29, .iload_n 2, 1, 0, 0, 0, 0) ∧ zc_X5_gatherDialogs.find? (fun r => r.1 == 30) = some (30, .aaload, 1, 0, 0, 0, 0) ∧ zc_X5_gatherDialogs.find? (fun r => r.1 == 31) = some (31, .getfield 255, 3, 4, 4, 216, 0) ∧ zc_X5_gatherDialogs.find? (fun r => r.1 == 34) = some (34, .invokevirtual 122, 3, 35, 2, 349, 5) ∧ zc_X5_gatherDialogs.find? (fun r => r.1 == 37) = some (37, .ifCond .eq 27, 3, 64, 0, 0, 0) ∧ zc_X5_gatherDialogs.find? (fun r => r.1 == 40) = some (40, .aload_n 0, 1, 0, 0, 0, 0) ∧ zc_X5_gatherDialogs.find? (fun r => r.1 == 41) = some (41, .getfield 38, 3, 5, 5, 287, 0) ∧ zc_X5_gatherDialogs.find? (fun r => r.1 == 44) = some (44, .aload_n 0, 1, 0, 0, 0, 0) ∧ zc_X5_gatherDialogs.find? (fun r => r.1 == 45) = some (45, .getfield 11, 3, 5, 0, 282, 0) ∧ zc_X5_gatherDialogs.find? (fun r => r.1 == 48) = some (48, .iload_n 2, 1, 0, 0, 0, 0) ∧ zc_X5_gatherDialogs.find? (fun r => r.1 == 49) = some (49, .aaload, 1, 0, 0, 0, 0) ∧ zc_X5_gatherDialogs.find? (fun r => r.1 == 50) = some (50, .getfield 255, 3, 4, 4, 216, 0) ∧ zc_X5_gatherDialogs.find? (fun r => r.1 == 53) = some (53, .baload, 1, 0, 0, 0, 0) ∧ zc_X5_gatherDialogs.find? (fun r => r.1 == 54) = some (54, .ifCond .eq 10, 3, 64, 0, 0, 0) ∧ zc_X5_gatherDialogs.find? (fun r => r.1 == 57) = some (57, .aload_n 0, 1, 0, 0, 0, 0) ∧ zc_X5_gatherDialogs.find? (fun r => r.1 == 58) = some (58, .getfield 38, 3, 5, 5, 287, 0) ∧ zc_X5_gatherDialogs.find? (fun r => r.1 == 61) = some (61, .iload_n 2, 1, 0, 0, 0, 0) ∧ zc_X5_gatherDialogs.find? (fun r => r.1 == 62) = some (62, .iconst 1, 1, 0, 0, 0, 0) ∧ zc_X5_gatherDialogs.find? (fun r => r.1 == 63) = some (63, .bastore, 1, 0, 0, 0, 0) ∧ zc_X5_gatherDialogs.find? (fun r => r.1 == 64) = some (64, .iinc 2 1, 3, 0, 0, 0, 0) ∧ zc_X5_gatherDialogs.find? (fun r => r.1 == 67) = some (67, .goto (-57), 3, 10, 0, 0, 0) ∧ zc_X5_gatherDialogs.find? (fun r => r.1 == 70) = some (70, .iinc 1 1, 3, 0, 0, 0, 0) ∧ zc_X5_gatherDialogs.find? (fun r => r.1 == 73) = some (73, .goto (-71), 3, 2, 0, 0, 0) ∧ zc_X5_gatherDialogs.find? (fun r => r.1 == 76) = some (76, .return_, 1, 0, 0, 0, 0) := zi_fdi (zc := zc_X5_gatherDialogs) (by decide +kernel)
set_option maxRecDepth 100000 in
theorem zf_X5_groupCanBeWhole : zc_X5_groupCanBeWhole.find? (fun r => r.1 == 0) = some (0, .iconst 0, 1, 0, 0, 0, 0) ∧ zc_X5_groupCanBeWhole.find? (fun r => r.1 == 1) = some (1, .istore_n 2, 1, 0, 0, 0, 0) ∧ zc_X5_groupCanBeWhole.find? (fun r => r.1 == 2) = some (2, .iload_n 2, 1, 0, 0, 0, 0) ∧ zc_X5_groupCanBeWhole.find? (fun r => r.1 == 3) = some (3, .bipush 10, 2, 0, 0, 0, 0) ∧ zc_X5_groupCanBeWhole.find? (fun r => r.1 == 5) = some (5, .if_icmp .ge 53, 3, 58, 0, 0, 0) ∧ zc_X5_groupCanBeWhole.find? (fun r => r.1 == 8) = some (8, .aload_n 0, 1, 0, 0, 0, 0) ∧ zc_X5_groupCanBeWhole.find? (fun r => r.1 == 9) = some (9, .getfield 38, 3, 5, 5, 287, 0) ∧ zc_X5_groupCanBeWhole.find? (fun r => r.1 == 12) = some (12, .iload_n 2, 1, 0, 0, 0, 0) ∧ zc_X5_groupCanBeWhole.find? (fun r => r.1 == 13) = some (13, .baload, 1, 0, 0, 0, 0) ∧ zc_X5_groupCanBeWhole.find? (fun r => r.1 == 14) = some (14, .ifCond .eq 38, 3, 52, 0, 0, 0) ∧ zc_X5_groupCanBeWhole.find? (fun r => r.1 == 17) = some (17, .aload_n 0, 1, 0, 0, 0, 0) ∧ zc_X5_groupCanBeWhole.find? (fun r => r.1 == 18) = some (18, .getfield 11, 3, 5, 0, 282, 0) ∧ zc_X5_groupCanBeWhole.find? (fun r => r.1 == 21) = some (21, .iload_n 2, 1, 0, 0, 0, 0) ∧ zc_X5_groupCanBeWhole.find? (fun r => r.1 == 22) = some (22, .aaload, 1, 0, 0, 0, 0) ∧ zc_X5_groupCanBeWhole.find? (fun r => r.1 == 23) = some (23, .invokevirtual 220, 3, 123, 1, 357, 4) ∧ zc_X5_groupCanBeWhole.find? (fun r => r.1 == 26) = some (26, .ifCond .eq 26, 3, 52, 0, 0, 0) ∧ zc_X5_groupCanBeWhole.find? (fun r => r.1 == 29) = some (29, .aload_n 0, 1, 0, 0, 0, 0) ∧ zc_X5_groupCanBeWhole.find? (fun r => r.1 == 30) = some (30, .getfield 11, 3, 5, 0, 282, 0) ∧ zc_X5_groupCanBeWhole.find? (fun r => r.1 == 33) = some (33, .iload_n 2, 1, 0, 0, 0, 0) ∧ zc_X5_groupCanBeWhole.find? (fun r => r.1 == 34) = some (34, .aaload, 1, 0, 0, 0, 0) ∧ zc_X5_groupCanBeWhole.find? (fun r => r.1 == 35) = some (35, .aload_n 0, 1, 0, 0, 0, 0) ∧ zc_X5_groupCanBeWhole.find? (fun r => r.1 == 36) = some (36, .getfield 17, 3, 5, 1, 283, 0) ∧ zc_X5_groupCanBeWhole.find? (fun r => r.1 == 39) = some (39, .iload_n 1, 1, 0, 0, 0, 0) ∧ zc_X5_groupCanBeWhole.find? (fun r => r.1 == 40) = some (40, .aaload, 1, 0, 0, 0, 0) ∧ zc_X5_groupCanBeWhole.find? (fun r => r.1 == 41) = some (41, .getfield 109, 3, 2, 0, 266, 0) ∧ zc_X5_groupCanBeWhole.find? (fun r => r.1 == 44) = some (44, .invokevirtual 322, 3, 127, 2, 361, 4) ∧ zc_X5_groupCanBeWhole.find? (fun r => r.1 == 47) = some (47, .ifCond .ne 5, 3, 52, 0, 0, 0) ∧ zc_X5_groupCanBeWhole.find? (fun r => r.1 == 50) = some (50, .iconst 0, 1, 0, 0, 0, 0) ∧ zc_X5_groupCanBeWhole.find? (fun r => r.1 == 51) = some (51, .ireturn, 1, 0, 0, 0, 0) ∧ zc_X5_groupCanBeWhole.find? (fun r => r.1 == 52) = some (52, .iinc 2 1, 3, 0, 0, 0, 0) ∧ zc_X5_groupCanBeWhole.find? (fun r => r.1 == 55) = some (55, .goto (-53), 3, 2, 0, 0, 0) ∧ zc_X5_groupCanBeWhole.find? (fun r => r.1 == 58) = some (58, .iconst 1, 1, 0, 0, 0, 0) ∧ zc_X5_groupCanBeWhole.find? (fun r => r.1 == 59) = some (59, .ireturn, 1, 0, 0, 0, 0) := zi_fdi (zc := zc_X5_groupCanBeWhole) (by decide +kernel)
set_option maxRecDepth 100000 in
theorem zf_X5_sendGroup : zc_X5_sendGroup.find? (fun r => r.1 == 0) = some (0, .iconst 0, 1, 0, 0, 0, 0) ∧ zc_X5_sendGroup.find? (fun r => r.1 == 1) = some (1, .istore_n 2, 1, 0, 0, 0, 0) ∧ zc_X5_sendGroup.find? (fun r => r.1 == 2) = some (2, .iload_n 2, 1, 0, 0, 0, 0) ∧ zc_X5_sendGroup.find? (fun r => r.1 == 3) = some (3, .bipush 10, 2, 0, 0, 0, 0) ∧ zc_X5_sendGroup.find? (fun r => r.1 == 5) = some (5, .if_icmp .ge 37, 3, 42, 0, 0, 0) ∧ zc_X5_sendGroup.find? (fun r => r.1 == 8) = some (8, .aload_n 0, 1, 0, 0, 0, 0) ∧ zc_X5_sendGroup.find? (fun r => r.1 == 9) = some (9, .getfield 38, 3, 5, 5, 287, 0) ∧ zc_X5_sendGroup.find? (fun r => r.1 == 12) = some (12, .iload_n 2, 1, 0, 0, 0, 0) ∧ zc_X5_sendGroup.find? (fun r => r.1 == 13) = some (13, .baload, 1, 0, 0, 0, 0) ∧ zc_X5_sendGroup.find? (fun r => r.1 == 14) = some (14, .ifCond .eq 22, 3, 36, 0, 0, 0) ∧ zc_X5_sendGroup.find? (fun r => r.1 == 17) = some (17, .aload_n 0, 1, 0, 0, 0, 0) ∧ zc_X5_sendGroup.find? (fun r => r.1 == 18) = some (18, .getfield 11, 3, 5, 0, 282, 0) ∧ zc_X5_sendGroup.find? (fun r => r.1 == 21) = some (21, .iload_n 2, 1, 0, 0, 0, 0) ∧ zc_X5_sendGroup.find? (fun r => r.1 == 22) = some (22, .aaload, 1, 0, 0, 0, 0) ∧ zc_X5_sendGroup.find? (fun r => r.1 == 23) = some (23, .iload_n 1, 1, 0, 0, 0, 0) ∧ zc_X5_sendGroup.find? (fun r => r.1 == 24) = some (24, .aload_n 0, 1, 0, 0, 0, 0) ∧ zc_X5_sendGroup.find? (fun r => r.1 == 25) = some (25, .getfield 17, 3, 5, 1, 283, 0) ∧ zc_X5_sendGroup.find? (fun r => r.1 == 28) = some (28, .iload_n 1, 1, 0, 0, 0, 0) ∧ zc_X5_sendGroup.find? (fun r => r.1 == 29) = some (29, .aaload, 1, 0, 0, 0, 0) ∧ zc_X5_sendGroup.find? (fun r => r.1 == 30) = some (30, .getfield 109, 3, 2, 0, 266, 0) ∧ zc_X5_sendGroup.find? (fun r => r.1 == 33) = some (33, .invokevirtual 325, 3, 130, 3, 433, 4) ∧ zc_X5_sendGroup.find? (fun r => r.1 == 36) = some (36, .iinc 2 1, 3, 0, 0, 0, 0) ∧ zc_X5_sendGroup.find? (fun r => r.1 == 39) = some (39, .goto (-37), 3, 2, 0, 0, 0) ∧ zc_X5_sendGroup.find? (fun r => r.1 == 42) = some (42, .return_, 1, 0, 0, 0, 0) := zi_fdi (zc := zc_X5_sendGroup) (by decide +kernel)
set_option maxRecDepth 100000 in
theorem zf_X5_keepAll : zc_X5_keepAll.find? (fun r => r.1 == 0) = some (0, .aload_n 0, 1, 0, 0, 0, 0) ∧ zc_X5_keepAll.find? (fun r => r.1 == 1) = some (1, .getfield 17, 3, 5, 1, 283, 0) ∧ zc_X5_keepAll.find? (fun r => r.1 == 4) = some (4, .iload_n 1, 1, 0, 0, 0, 0) ∧ zc_X5_keepAll.find? (fun r => r.1 == 5) = some (5, .aaload, 1, 0, 0, 0, 0) ∧ zc_X5_keepAll.find? (fun r => r.1 == 6) = some (6, .getfield 74, 3, 2, 2, 270, 0) ∧ zc_X5_keepAll.find? (fun r => r.1 == 9) = some (9, .astore_n 2, 1, 0, 0, 0, 0) ∧ zc_X5_keepAll.find? (fun r => r.1 == 10) = some (10, .aload_n 2, 1, 0, 0, 0, 0) ∧ zc_X5_keepAll.find? (fun r => r.1 == 11) = some (11, .aload_n 0, 1, 0, 0, 0, 0) ∧ zc_X5_keepAll.find? (fun r => r.1 == 12) = some (12, .iload_n 1, 1, 0, 0, 0, 0) ∧ zc_X5_keepAll.find? (fun r => r.1 == 13) = some (13, .invokevirtual 112, 3, 135, 2, 540, 5) ∧ zc_X5_keepAll.find? (fun r => r.1 == 16) = some (16, .ifCond .le 7, 3, 23, 0, 0, 0) ∧ zc_X5_keepAll.find? (fun r => r.1 == 19) = some (19, .iconst 1, 1, 0, 0, 0, 0) ∧ zc_X5_keepAll.find? (fun r => r.1 == 20) = some (20, .goto 4, 3, 24, 0, 0, 0) ∧ zc_X5_keepAll.find? (fun r => r.1 == 23) = some (23, .iconst 0, 1, 0, 0, 0, 0) ∧ zc_X5_keepAll.find? (fun r => r.1 == 24) = some (24, .putfield 315, 3, 0, 3, 255, 0) ∧ zc_X5_keepAll.find? (fun r => r.1 == 27) = some (27, .aload_n 2, 1, 0, 0, 0, 0) ∧ zc_X5_keepAll.find? (fun r => r.1 == 28) = some (28, .getfield 398, 3, 0, 0, 250, 0) ∧ zc_X5_keepAll.find? (fun r => r.1 == 31) = some (31, .aload_n 0, 1, 0, 0, 0, 0) ∧ zc_X5_keepAll.find? (fun r => r.1 == 32) = some (32, .getfield 17, 3, 5, 1, 283, 0) ∧ zc_X5_keepAll.find? (fun r => r.1 == 35) = some (35, .iload_n 1, 1, 0, 0, 0, 0) ∧ zc_X5_keepAll.find? (fun r => r.1 == 36) = some (36, .aaload, 1, 0, 0, 0, 0) ∧ zc_X5_keepAll.find? (fun r => r.1 == 37) = some (37, .getfield 83, 3, 2, 1, 268, 0) ∧ zc_X5_keepAll.find? (fun r => r.1 == 40) = some (40, .invokevirtual 102, 3, 82, 2, 453, 3) ∧ zc_X5_keepAll.find? (fun r => r.1 == 43) = some (43, .iconst 0, 1, 0, 0, 0, 0) ∧ zc_X5_keepAll.find? (fun r => r.1 == 44) = some (44, .istore_n 3, 1, 0, 0, 0, 0) ∧ zc_X5_keepAll.find? (fun r => r.1 == 45) = some (45, .iload_n 3, 1, 0, 0, 0, 0) ∧ zc_X5_keepAll.find? (fun r => r.1 == 46) = some (46, .bipush 10, 2, 0, 0, 0, 0) ∧ zc_X5_keepAll.find? (fun r => r.1 == 48) = some (48, .if_icmp .ge 33, 3, 81, 0, 0, 0) ∧ zc_X5_keepAll.find? (fun r => r.1 == 51) = some (51, .aload_n 2, 1, 0, 0, 0, 0) ∧ zc_X5_keepAll.find? (fun r => r.1 == 52) = some (52, .iload_n 3, 1, 0, 0, 0, 0) ∧ zc_X5_keepAll.find? (fun r => r.1 == 53) = some (53, .aload_n 0, 1, 0, 0, 0, 0) ∧ zc_X5_keepAll.find? (fun r => r.1 == 54) = some (54, .getfield 11, 3, 5, 0, 282, 0) ∧ zc_X5_keepAll.find? (fun r => r.1 == 57) = some (57, .iload_n 3, 1, 0, 0, 0, 0) ∧ zc_X5_keepAll.find? (fun r => r.1 == 58) = some (58, .aaload, 1, 0, 0, 0, 0) ∧ zc_X5_keepAll.find? (fun r => r.1 == 59) = some (59, .iload_n 1, 1, 0, 0, 0, 0) ∧ zc_X5_keepAll.find? (fun r => r.1 == 60) = some (60, .invokevirtual 316, 3, 126, 2, 481, 4) ∧ zc_X5_keepAll.find? (fun r => r.1 == 63) = some (63, .aload_n 0, 1, 0, 0, 0, 0) ∧ zc_X5_keepAll.find? (fun r => r.1 == 64) = some (64, .getfield 11, 3, 5, 0, 282, 0) ∧ zc_X5_keepAll.find? (fun r => r.1 == 67) = some (67, .iload_n 3, 1, 0, 0, 0, 0) ∧ zc_X5_keepAll.find? (fun r => r.1 == 68) = some (68, .aaload, 1, 0, 0, 0, 0) ∧ zc_X5_keepAll.find? (fun r => r.1 == 69) = some (69, .getfield 223, 3, 4, 1, 210, 0) ∧ zc_X5_keepAll.find? (fun r => r.1 == 72) = some (72, .invokevirtual 399, 3, 75, 4, 548, 0) ∧ zc_X5_keepAll.find? (fun r => r.1 == 75) = some (75, .iinc 3 1, 3, 0, 0, 0, 0) ∧ zc_X5_keepAll.find? (fun r => r.1 == 78) = some (78, .goto (-33), 3, 45, 0, 0, 0) ∧ zc_X5_keepAll.find? (fun r => r.1 == 81) = some (81, .return_, 1, 0, 0, 0, 0) := zi_fdi (zc := zc_X5_keepAll) (by decide +kernel)
set_option maxRecDepth 100000 in
theorem zf_X5_forgetKeptWith : zc_X5_forgetKeptWith.find? (fun r => r.1 == 0) = some (0, .iconst 0, 1, 0, 0, 0, 0) ∧ zc_X5_forgetKeptWith.find? (fun r => r.1 == 1) = some (1, .istore_n 2, 1, 0, 0, 0, 0) ∧ zc_X5_forgetKeptWith.find? (fun r => r.1 == 2) = some (2, .iload_n 2, 1, 0, 0, 0, 0) ∧ zc_X5_forgetKeptWith.find? (fun r => r.1 == 3) = some (3, .iconst 3, 1, 0, 0, 0, 0) ∧ zc_X5_forgetKeptWith.find? (fun r => r.1 == 4) = some (4, .if_icmp .ge 37, 3, 41, 0, 0, 0) ∧ zc_X5_forgetKeptWith.find? (fun r => r.1 == 7) = some (7, .aload_n 0, 1, 0, 0, 0, 0) ∧ zc_X5_forgetKeptWith.find? (fun r => r.1 == 8) = some (8, .getfield 17, 3, 5, 1, 283, 0) ∧ zc_X5_forgetKeptWith.find? (fun r => r.1 == 11) = some (11, .iload_n 2, 1, 0, 0, 0, 0) ∧ zc_X5_forgetKeptWith.find? (fun r => r.1 == 12) = some (12, .aaload, 1, 0, 0, 0, 0) ∧ zc_X5_forgetKeptWith.find? (fun r => r.1 == 13) = some (13, .getfield 74, 3, 2, 2, 270, 0) ∧ zc_X5_forgetKeptWith.find? (fun r => r.1 == 16) = some (16, .iload_n 1, 1, 0, 0, 0, 0) ∧ zc_X5_forgetKeptWith.find? (fun r => r.1 == 17) = some (17, .invokevirtual 403, 3, 74, 2, 337, 0) ∧ zc_X5_forgetKeptWith.find? (fun r => r.1 == 20) = some (20, .ifCond .eq 15, 3, 35, 0, 0, 0) ∧ zc_X5_forgetKeptWith.find? (fun r => r.1 == 23) = some (23, .aload_n 0, 1, 0, 0, 0, 0) ∧ zc_X5_forgetKeptWith.find? (fun r => r.1 == 24) = some (24, .getfield 17, 3, 5, 1, 283, 0) ∧ zc_X5_forgetKeptWith.find? (fun r => r.1 == 27) = some (27, .iload_n 2, 1, 0, 0, 0, 0) ∧ zc_X5_forgetKeptWith.find? (fun r => r.1 == 28) = some (28, .aaload, 1, 0, 0, 0, 0) ∧ zc_X5_forgetKeptWith.find? (fun r => r.1 == 29) = some (29, .getfield 74, 3, 2, 2, 270, 0) ∧ zc_X5_forgetKeptWith.find? (fun r => r.1 == 32) = some (32, .invokevirtual 78, 3, 47, 1, 473, 0) ∧ zc_X5_forgetKeptWith.find? (fun r => r.1 == 35) = some (35, .iinc 2 1, 3, 0, 0, 0, 0) ∧ zc_X5_forgetKeptWith.find? (fun r => r.1 == 38) = some (38, .goto (-36), 3, 2, 0, 0, 0) ∧ zc_X5_forgetKeptWith.find? (fun r => r.1 == 41) = some (41, .return_, 1, 0, 0, 0, 0) := zi_fdi (zc := zc_X5_forgetKeptWith) (by decide +kernel)
set_option maxRecDepth 100000 in
theorem zf_X5_takeBack : zc_X5_takeBack.find? (fun r => r.1 == 0) = some (0, .aload_n 0, 1, 0, 0, 0, 0) ∧ zc_X5_takeBack.find? (fun r => r.1 == 1) = some (1, .getfield 11, 3, 5, 0, 282, 0) ∧ zc_X5_takeBack.find? (fun r => r.1 == 4) = some (4, .iload_n 1, 1, 0, 0, 0, 0) ∧ zc_X5_takeBack.find? (fun r => r.1 == 5) = some (5, .aaload, 1, 0, 0, 0, 0) ∧ zc_X5_takeBack.find? (fun r => r.1 == 6) = some (6, .invokevirtual 198, 3, 122, 1, 369, 4) ∧ zc_X5_takeBack.find? (fun r => r.1 == 9) = some (9, .ifCond .eq 15, 3, 24, 0, 0, 0) ∧ zc_X5_takeBack.find? (fun r => r.1 == 12) = some (12, .aload_n 0, 1, 0, 0, 0, 0) ∧ zc_X5_takeBack.find? (fun r => r.1 == 13) = some (13, .iload_n 1, 1, 0, 0, 0, 0) ∧ zc_X5_takeBack.find? (fun r => r.1 == 14) = some (14, .invokevirtual 176, 3, 138, 2, 373, 5) ∧ zc_X5_takeBack.find? (fun r => r.1 == 17) = some (17, .iload_n 1, 1, 0, 0, 0, 0) ∧ zc_X5_takeBack.find? (fun r => r.1 == 18) = some (18, .invokevirtual 211, 3, 99, 2, 377, 3) ∧ zc_X5_takeBack.find? (fun r => r.1 == 21) = some (21, .goto 41, 3, 62, 0, 0, 0) ∧ zc_X5_takeBack.find? (fun r => r.1 == 24) = some (24, .aload_n 0, 1, 0, 0, 0, 0) ∧ zc_X5_takeBack.find? (fun r => r.1 == 25) = some (25, .getfield 11, 3, 5, 0, 282, 0) ∧ zc_X5_takeBack.find? (fun r => r.1 == 28) = some (28, .iload_n 1, 1, 0, 0, 0, 0) ∧ zc_X5_takeBack.find? (fun r => r.1 == 29) = some (29, .aaload, 1, 0, 0, 0, 0) ∧ zc_X5_takeBack.find? (fun r => r.1 == 30) = some (30, .getfield 223, 3, 4, 1, 210, 0) ∧ zc_X5_takeBack.find? (fun r => r.1 == 33) = some (33, .iconst 0, 1, 0, 0, 0, 0) ∧ zc_X5_takeBack.find? (fun r => r.1 == 34) = some (34, .aload_n 2, 1, 0, 0, 0, 0) ∧ zc_X5_takeBack.find? (fun r => r.1 == 35) = some (35, .getfield 413, 3, 0, 1, 252, 0) ∧ zc_X5_takeBack.find? (fun r => r.1 == 38) = some (38, .iconst 0, 1, 0, 0, 0, 0) ∧ zc_X5_takeBack.find? (fun r => r.1 == 39) = some (39, .aaload, 1, 0, 0, 0, 0) ∧ zc_X5_takeBack.find? (fun r => r.1 == 40) = some (40, .iload_n 1, 1, 0, 0, 0, 0) ∧ zc_X5_takeBack.find? (fun r => r.1 == 41) = some (41, .iaload, 1, 0, 0, 0, 0) ∧ zc_X5_takeBack.find? (fun r => r.1 == 42) = some (42, .iastore, 1, 0, 0, 0, 0) ∧ zc_X5_takeBack.find? (fun r => r.1 == 43) = some (43, .aload_n 0, 1, 0, 0, 0, 0) ∧ zc_X5_takeBack.find? (fun r => r.1 == 44) = some (44, .getfield 11, 3, 5, 0, 282, 0) ∧ zc_X5_takeBack.find? (fun r => r.1 == 47) = some (47, .iload_n 1, 1, 0, 0, 0, 0) ∧ zc_X5_takeBack.find? (fun r => r.1 == 48) = some (48, .aaload, 1, 0, 0, 0, 0) ∧ zc_X5_takeBack.find? (fun r => r.1 == 49) = some (49, .getfield 223, 3, 4, 1, 210, 0) ∧ zc_X5_takeBack.find? (fun r => r.1 == 52) = some (52, .iconst 1, 1, 0, 0, 0, 0) ∧ zc_X5_takeBack.find? (fun r => r.1 == 53) = some (53, .aload_n 2, 1, 0, 0, 0, 0) ∧ zc_X5_takeBack.find? (fun r => r.1 == 54) = some (54, .getfield 413, 3, 0, 1, 252, 0) ∧ zc_X5_takeBack.find? (fun r => r.1 == 57) = some (57, .iconst 1, 1, 0, 0, 0, 0) ∧ zc_X5_takeBack.find? (fun r => r.1 == 58) = some (58, .aaload, 1, 0, 0, 0, 0) ∧ zc_X5_takeBack.find? (fun r => r.1 == 59) = some (59, .iload_n 1, 1, 0, 0, 0, 0) ∧ zc_X5_takeBack.find? (fun r => r.1 == 60) = some (60, .iaload, 1, 0, 0, 0, 0) ∧ zc_X5_takeBack.find? (fun r => r.1 == 61) = some (61, .iastore, 1, 0, 0, 0, 0) ∧ zc_X5_takeBack.find? (fun r => r.1 == 62) = some (62, .return_, 1, 0, 0, 0, 0) := zi_fdi (zc := zc_X5_takeBack) (by decide +kernel)
set_option maxRecDepth 100000 in
theorem zf_X5_forgetKeptWithGroup : zc_X5_forgetKeptWithGroup.find? (fun r => r.1 == 0) = some (0, .iconst 0, 1, 0, 0, 0, 0) ∧ zc_X5_forgetKeptWithGroup.find? (fun r => r.1 == 1) = some (1, .istore_n 1, 1, 0, 0, 0, 0) ∧ zc_X5_forgetKeptWithGroup.find? (fun r => r.1 == 2) = some (2, .iload_n 1, 1, 0, 0, 0, 0) ∧ zc_X5_forgetKeptWithGroup.find? (fun r => r.1 == 3) = some (3, .bipush 10, 2, 0, 0, 0, 0) ∧ zc_X5_forgetKeptWithGroup.find? (fun r => r.1 == 5) = some (5, .if_icmp .ge 23, 3, 28, 0, 0, 0) ∧ zc_X5_forgetKeptWithGroup.find? (fun r => r.1 == 8) = some (8, .aload_n 0, 1, 0, 0, 0, 0) ∧ zc_X5_forgetKeptWithGroup.find? (fun r => r.1 == 9) = some (9, .getfield 38, 3, 5, 5, 287, 0) ∧ zc_X5_forgetKeptWithGroup.find? (fun r => r.1 == 12) = some (12, .iload_n 1, 1, 0, 0, 0, 0) ∧ zc_X5_forgetKeptWithGroup.find? (fun r => r.1 == 13) = some (13, .baload, 1, 0, 0, 0, 0) ∧ zc_X5_forgetKeptWithGroup.find? (fun r => r.1 == 14) = some (14, .ifCond .eq 8, 3, 22, 0, 0, 0) ∧ zc_X5_forgetKeptWithGroup.find? (fun r => r.1 == 17) = some (17, .aload_n 0, 1, 0, 0, 0, 0) ∧ zc_X5_forgetKeptWithGroup.find? (fun r => r.1 == 18) = some (18, .iload_n 1, 1, 0, 0, 0, 0) ∧ zc_X5_forgetKeptWithGroup.find? (fun r => r.1 == 19) = some (19, .invokevirtual 208, 3, 162, 2, 469, 5) ∧ zc_X5_forgetKeptWithGroup.find? (fun r => r.1 == 22) = some (22, .iinc 1 1, 3, 0, 0, 0, 0) ∧ zc_X5_forgetKeptWithGroup.find? (fun r => r.1 == 25) = some (25, .goto (-23), 3, 2, 0, 0, 0) ∧ zc_X5_forgetKeptWithGroup.find? (fun r => r.1 == 28) = some (28, .return_, 1, 0, 0, 0, 0) := zi_fdi (zc := zc_X5_forgetKeptWithGroup) (by decide +kernel)
set_option maxRecDepth 100000 in
theorem zf_X6_half : zc_X6_half.find? (fun r => r.1 == 0) = some (0, .iload_n 0, 1, 0, 0, 0, 0) ∧ zc_X6_half.find? (fun r => r.1 == 1) = some (1, .ifCond .ge 17, 3, 18, 0, 0, 0) ∧ zc_X6_half.find? (fun r => r.1 == 4) = some (4, .iload_n 0, 1, 0, 0, 0, 0) ∧ zc_X6_half.find? (fun r => r.1 == 5) = some (5, .iconst 2, 1, 0, 0, 0, 0) ∧ zc_X6_half.find? (fun r => r.1 == 6) = some (6, .irem, 1, 0, 0, 0, 0) ∧ zc_X6_half.find? (fun r => r.1 == 7) = some (7, .ifCond .eq 11, 3, 18, 0, 0, 0) ∧ zc_X6_half.find? (fun r => r.1 == 10) = some (10, .iload_n 0, 1, 0, 0, 0, 0) ∧ zc_X6_half.find? (fun r => r.1 == 11) = some (11, .iconst 2, 1, 0, 0, 0, 0) ∧ zc_X6_half.find? (fun r => r.1 == 12) = some (12, .idiv, 1, 0, 0, 0, 0) ∧ zc_X6_half.find? (fun r => r.1 == 13) = some (13, .iconst 1, 1, 0, 0, 0, 0) ∧ zc_X6_half.find? (fun r => r.1 == 14) = some (14, .isub, 1, 0, 0, 0, 0) ∧ zc_X6_half.find? (fun r => r.1 == 15) = some (15, .goto 6, 3, 21, 0, 0, 0) ∧ zc_X6_half.find? (fun r => r.1 == 18) = some (18, .iload_n 0, 1, 0, 0, 0, 0) ∧ zc_X6_half.find? (fun r => r.1 == 19) = some (19, .iconst 2, 1, 0, 0, 0, 0) ∧ zc_X6_half.find? (fun r => r.1 == 20) = some (20, .idiv, 1, 0, 0, 0, 0) ∧ zc_X6_half.find? (fun r => r.1 == 21) = some (21, .ireturn, 1, 0, 0, 0, 0) := zi_fdi (zc := zc_X6_half) (by decide +kernel)
set_option maxRecDepth 100000 in
theorem zf_X6_nearest : zc_X6_nearest.find? (fun r => r.1 == 0) = some (0, .iload_n 0, 1, 0, 0, 0, 0) ∧ zc_X6_nearest.find? (fun r => r.1 == 1) = some (1, .ifCond .ge 7, 3, 8, 0, 0, 0) ∧ zc_X6_nearest.find? (fun r => r.1 == 4) = some (4, .iconst 0, 1, 0, 0, 0, 0) ∧ zc_X6_nearest.find? (fun r => r.1 == 5) = some (5, .goto 13, 3, 18, 0, 0, 0) ∧ zc_X6_nearest.find? (fun r => r.1 == 8) = some (8, .iload_n 0, 1, 0, 0, 0, 0) ∧ zc_X6_nearest.find? (fun r => r.1 == 9) = some (9, .iload_n 1, 1, 0, 0, 0, 0) ∧ zc_X6_nearest.find? (fun r => r.1 == 10) = some (10, .if_icmp .le 7, 3, 17, 0, 0, 0) ∧ zc_X6_nearest.find? (fun r => r.1 == 13) = some (13, .iload_n 1, 1, 0, 0, 0, 0) ∧ zc_X6_nearest.find? (fun r => r.1 == 14) = some (14, .goto 4, 3, 18, 0, 0, 0) ∧ zc_X6_nearest.find? (fun r => r.1 == 17) = some (17, .iload_n 0, 1, 0, 0, 0, 0) ∧ zc_X6_nearest.find? (fun r => r.1 == 18) = some (18, .ireturn, 1, 0, 0, 0, 0) := zi_fdi (zc := zc_X6_nearest) (by decide +kernel)
set_option maxRecDepth 100000 in
theorem zf_X6_isFloating : zc_X6_isFloating.find? (fun r => r.1 == 0) = some (0, .aload_n 0, 1, 0, 0, 0, 0) ∧ zc_X6_isFloating.find? (fun r => r.1 == 1) = some (1, .getfield 16, 3, 6, 2, 881, 0) ∧ zc_X6_isFloating.find? (fun r => r.1 == 4) = some (4, .iload_n 1, 1, 0, 0, 0, 0) ∧ zc_X6_isFloating.find? (fun r => r.1 == 5) = some (5, .iaload, 1, 0, 0, 0, 0) ∧ zc_X6_isFloating.find? (fun r => r.1 == 6) = some (6, .iconst 2, 1, 0, 0, 0, 0) ∧ zc_X6_isFloating.find? (fun r => r.1 == 7) = some (7, .if_icmp .lt 7, 3, 14, 0, 0, 0) ∧ zc_X6_isFloating.find? (fun r => r.1 == 10) = some (10, .iconst 1, 1, 0, 0, 0, 0) ∧ zc_X6_isFloating.find? (fun r => r.1 == 11) = some (11, .goto 4, 3, 15, 0, 0, 0) ∧ zc_X6_isFloating.find? (fun r => r.1 == 14) = some (14, .iconst 0, 1, 0, 0, 0, 0) ∧ zc_X6_isFloating.find? (fun r => r.1 == 15) = some (15, .ireturn, 1, 0, 0, 0, 0) := zi_fdi (zc := zc_X6_isFloating) (by decide +kernel)
set_option maxRecDepth 100000 in
theorem zf_X6_copyTree : zc_X6_copyTree.find? (fun r => r.1 == 0) = some (0, .aload_n 0, 1, 0, 0, 0, 0) ∧ zc_X6_copyTree.find? (fun r => r.1 == 1) = some (1, .getfield 43, 3, 6, 13, 892, 0) ∧ zc_X6_copyTree.find? (fun r => r.1 == 4) = some (4, .iload_n 2, 1, 0, 0, 0, 0) ∧ zc_X6_copyTree.find? (fun r => r.1 == 5) = some (5, .aload_n 0, 1, 0, 0, 0, 0) ∧ zc_X6_copyTree.find? (fun r => r.1 == 6) = some (6, .getfield 43, 3, 6, 13, 892, 0) ∧ zc_X6_copyTree.find? (fun r => r.1 == 9) = some (9, .iload_n 1, 1, 0, 0, 0, 0) ∧ zc_X6_copyTree.find? (fun r => r.1 == 10) = some (10, .iaload, 1, 0, 0, 0, 0) ∧ zc_X6_copyTree.find? (fun r => r.1 == 11) = some (11, .iastore, 1, 0, 0, 0, 0) ∧ zc_X6_copyTree.find? (fun r => r.1 == 12) = some (12, .iconst 0, 1, 0, 0, 0, 0) ∧ zc_X6_copyTree.find? (fun r => r.1 == 13) = some (13, .istore_n 3, 1, 0, 0, 0, 0) ∧ zc_X6_copyTree.find? (fun r => r.1 == 14) = some (14, .iload_n 3, 1, 0, 0, 0, 0) ∧ zc_X6_copyTree.find? (fun r => r.1 == 15) = some (15, .bipush 24, 2, 0, 0, 0, 0) ∧ zc_X6_copyTree.find? (fun r => r.1 == 17) = some (17, .if_icmp .ge 149, 3, 166, 0, 0, 0) ∧ zc_X6_copyTree.find? (fun r => r.1 == 20) = some (20, .iload_n 1, 1, 0, 0, 0, 0) ∧ zc_X6_copyTree.find? (fun r => r.1 == 21) = some (21, .iload_n 3, 1, 0, 0, 0, 0) ∧ zc_X6_copyTree.find? (fun r => r.1 == 22) = some (22, .invokestatic 105, 3, 70, 2, 991, 0) ∧ zc_X6_copyTree.find? (fun r => r.1 == 25) = some (25, .istore 4, 2, 0, 0, 0, 0) ∧ zc_X6_copyTree.find? (fun r => r.1 == 27) = some (27, .iload_n 2, 1, 0, 0, 0, 0) ∧ zc_X6_copyTree.find? (fun r => r.1 == 28) = some (28, .iload_n 3, 1, 0, 0, 0, 0) ∧ zc_X6_copyTree.find? (fun r => r.1 == 29) = some (29, .invokestatic 105, 3, 70, 2, 991, 0) ∧ zc_X6_copyTree.find? (fun r => r.1 == 32) = some (32, .istore 5, 2, 0, 0, 0, 0) ∧ zc_X6_copyTree.find? (fun r => r.1 == 34) = some (34, .aload_n 0, 1, 0, 0, 0, 0) ∧ zc_X6_copyTree.find? (fun r => r.1 == 35) = some (35, .getfield 46, 3, 6, 14, 893, 0) ∧ zc_X6_copyTree.find? (fun r => r.1 == 38) = some (38, .iload 5, 2, 0, 0, 0, 0) ∧ zc_X6_copyTree.find? (fun r => r.1 == 40) = some (40, .aload_n 0, 1, 0, 0, 0, 0) ∧ zc_X6_copyTree.find? (fun r => r.1 == 41) = some (41, .getfield 46, 3, 6, 14, 893, 0) ∧ zc_X6_copyTree.find? (fun r => r.1 == 44) = some (44, .iload 4, 2, 0, 0, 0, 0) ∧ zc_X6_copyTree.find? (fun r => r.1 == 46) = some (46, .iaload, 1, 0, 0, 0, 0) ∧ zc_X6_copyTree.find? (fun r => r.1 == 47) = some (47, .iastore, 1, 0, 0, 0, 0) ∧ zc_X6_copyTree.find? (fun r => r.1 == 48) = some (48, .aload_n 0, 1, 0, 0, 0, 0) ∧ zc_X6_copyTree.find? (fun r => r.1 == 49) = some (49, .getfield 49, 3, 6, 15, 894, 0) ∧ zc_X6_copyTree.find? (fun r => r.1 == 52) = some (52, .iload 5, 2, 0, 0, 0, 0) ∧ zc_X6_copyTree.find? (fun r => r.1 == 54) = some (54, .aload_n 0, 1, 0, 0, 0, 0) ∧ zc_X6_copyTree.find? (fun r => r.1 == 55) = some (55, .getfield 49, 3, 6, 15, 894, 0) ∧ zc_X6_copyTree.find? (fun r => r.1 == 58) = some (58, .iload 4, 2, 0, 0, 0, 0) ∧ zc_X6_copyTree.find? (fun r => r.1 == 60) = some (60, .iaload, 1, 0, 0, 0, 0) ∧ zc_X6_copyTree.find? (fun r => r.1 == 61) = some (61, .iastore, 1, 0, 0, 0, 0) ∧ zc_X6_copyTree.find? (fun r => r.1 == 62) = some (62, .aload_n 0, 1, 0, 0, 0, 0) ∧ zc_X6_copyTree.find? (fun r => r.1 == 63) = some (63, .getfield 52, 3, 6, 16, 895, 0) ∧ zc_X6_copyTree.find? (fun r => r.1 == 66) = some (66, .iload 5, 2, 0, 0, 0, 0) ∧ zc_X6_copyTree.find? (fun r => r.1 == 68) = some (68, .aload_n 0, 1, 0, 0, 0, 0) ∧ zc_X6_copyTree.find? (fun r => r.1 == 69) = some (69, .getfield 52, 3, 6, 16, 895, 0) ∧ zc_X6_copyTree.find? (fun r => r.1 == 72) = some (72, .iload 4, 2, 0, 0, 0, 0) ∧ zc_X6_copyTree.find? (fun r => r.1 == 74) = some (74, .iaload, 1, 0, 0, 0, 0) ∧ zc_X6_copyTree.find? (fun r => r.1 == 75) = some (75, .iastore, 1, 0, 0, 0, 0) ∧ zc_X6_copyTree.find? (fun r => r.1 == 76) = some (76, .aload_n 0, 1, 0, 0, 0, 0) ∧ zc_X6_copyTree.find? (fun r => r.1 == 77) = some (77, .getfield 55, 3, 6, 17, 896, 0) ∧ zc_X6_copyTree.find? (fun r => r.1 == 80) = some (80, .iload 5, 2, 0, 0, 0, 0) ∧ zc_X6_copyTree.find? (fun r => r.1 == 82) = some (82, .aload_n 0, 1, 0, 0, 0, 0) ∧ zc_X6_copyTree.find? (fun r => r.1 == 83) = some (83, .getfield 55, 3, 6, 17, 896, 0) ∧ zc_X6_copyTree.find? (fun r => r.1 == 86) = some (86, .iload 4, 2, 0, 0, 0, 0) ∧ zc_X6_copyTree.find? (fun r => r.1 == 88) = some (88, .iaload, 1, 0, 0, 0, 0) ∧ zc_X6_copyTree.find? (fun r => r.1 == 89) = some (89, .iastore, 1, 0, 0, 0, 0) ∧ zc_X6_copyTree.find? (fun r => r.1 == 90) = some (90, .aload_n 0, 1, 0, 0, 0, 0) ∧ zc_X6_copyTree.find? (fun r => r.1 == 91) = some (91, .getfield 61, 3, 6, 19, 898, 0) ∧ zc_X6_copyTree.find? (fun r => r.1 == 94) = some (94, .iload 5, 2, 0, 0, 0, 0) ∧ zc_X6_copyTree.find? (fun r => r.1 == 96) = some (96, .aload_n 0, 1, 0, 0, 0, 0) ∧ zc_X6_copyTree.find? (fun r => r.1 == 97) = some (97, .getfield 61, 3, 6, 19, 898, 0) ∧ zc_X6_copyTree.find? (fun r => r.1 == 100) = some (100, .iload 4, 2, 0, 0, 0, 0) ∧ zc_X6_copyTree.find? (fun r => r.1 == 102) = some (102, .iaload, 1, 0, 0, 0, 0) ∧ zc_X6_copyTree.find? (fun r => r.1 == 103) = some (103, .iastore, 1, 0, 0, 0, 0) ∧ zc_X6_copyTree.find? (fun r => r.1 == 104) = some (104, .aload_n 0, 1, 0, 0, 0, 0) ∧ zc_X6_copyTree.find? (fun r => r.1 == 105) = some (105, .getfield 64, 3, 6, 20, 899, 0) ∧ zc_X6_copyTree.find? (fun r => r.1 == 108) = some (108, .iload 5, 2, 0, 0, 0, 0) ∧ zc_X6_copyTree.find? (fun r => r.1 == 110) = some (110, .aload_n 0, 1, 0, 0, 0, 0) ∧ zc_X6_copyTree.find? (fun r => r.1 == 111) = some (111, .getfield 64, 3, 6, 20, 899, 0) ∧ zc_X6_copyTree.find? (fun r => r.1 == 114) = some (114, .iload 4, 2, 0, 0, 0, 0) ∧ zc_X6_copyTree.find? (fun r => r.1 == 116) = some (116, .iaload, 1, 0, 0, 0, 0) ∧ zc_X6_copyTree.find? (fun r => r.1 == 117) = some (117, .iastore, 1, 0, 0, 0, 0) ∧ zc_X6_copyTree.find? (fun r => r.1 == 118) = some (118, .iconst 0, 1, 0, 0, 0, 0) ∧ zc_X6_copyTree.find? (fun r => r.1 == 119) = some (119, .istore 6, 2, 0, 0, 0, 0) ∧ zc_X6_copyTree.find? (fun r => r.1 == 121) = some (121, .iload 6, 2, 0, 0, 0, 0) ∧ zc_X6_copyTree.find? (fun r => r.1 == 123) = some (123, .bipush 10, 2, 0, 0, 0, 0) ∧ zc_X6_copyTree.find? (fun r => r.1 == 125) = some (125, .if_icmp .ge 35, 3, 160, 0, 0, 0) ∧ zc_X6_copyTree.find? (fun r => r.1 == 128) = some (128, .aload_n 0, 1, 0, 0, 0, 0) ∧ zc_X6_copyTree.find? (fun r => r.1 == 129) = some (129, .getfield 58, 3, 6, 18, 897, 0) ∧ zc_X6_copyTree.find? (fun r => r.1 == 132) = some (132, .bipush 10, 2, 0, 0, 0, 0) ∧ zc_X6_copyTree.find? (fun r => r.1 == 134) = some (134, .iload 5, 2, 0, 0, 0, 0) ∧ zc_X6_copyTree.find? (fun r => r.1 == 136) = some (136, .imul, 1, 0, 0, 0, 0) ∧ zc_X6_copyTree.find? (fun r => r.1 == 137) = some (137, .iload 6, 2, 0, 0, 0, 0) ∧ zc_X6_copyTree.find? (fun r => r.1 == 139) = some (139, .iadd, 1, 0, 0, 0, 0) ∧ zc_X6_copyTree.find? (fun r => r.1 == 140) = some (140, .aload_n 0, 1, 0, 0, 0, 0) ∧ zc_X6_copyTree.find? (fun r => r.1 == 141) = some (141, .getfield 58, 3, 6, 18, 897, 0) ∧ zc_X6_copyTree.find? (fun r => r.1 == 144) = some (144, .bipush 10, 2, 0, 0, 0, 0) ∧ zc_X6_copyTree.find? (fun r => r.1 == 146) = some (146, .iload 4, 2, 0, 0, 0, 0) ∧ zc_X6_copyTree.find? (fun r => r.1 == 148) = some (148, .imul, 1, 0, 0, 0, 0) ∧ zc_X6_copyTree.find? (fun r => r.1 == 149) = some (149, .iload 6, 2, 0, 0, 0, 0) ∧ zc_X6_copyTree.find? (fun r => r.1 == 151) = some (151, .iadd, 1, 0, 0, 0, 0) ∧ zc_X6_copyTree.find? (fun r => r.1 == 152) = some (152, .iaload, 1, 0, 0, 0, 0) ∧ zc_X6_copyTree.find? (fun r => r.1 == 153) = some (153, .iastore, 1, 0, 0, 0, 0) ∧ zc_X6_copyTree.find? (fun r => r.1 == 154) = some (154, .iinc 6 1, 3, 0, 0, 0, 0) ∧ zc_X6_copyTree.find? (fun r => r.1 == 157) = some (157, .goto (-36), 3, 121, 0, 0, 0) ∧ zc_X6_copyTree.find? (fun r => r.1 == 160) = some (160, .iinc 3 1, 3, 0, 0, 0, 0) ∧ zc_X6_copyTree.find? (fun r => r.1 == 163) = some (163, .goto (-149), 3, 14, 0, 0, 0) ∧ zc_X6_copyTree.find? (fun r => r.1 == 166) = some (166, .return_, 1, 0, 0, 0, 0) := zi_fdi (zc := zc_X6_copyTree) (by decide +kernel)
set_option maxRecDepth 100000 in
theorem zf_X6_newNode : zc_X6_newNode.find? (fun r => r.1 == 0) = some (0, .iconst 0, 1, 0, 0, 0, 0) ∧ zc_X6_newNode.find? (fun r => r.1 == 1) = some (1, .istore_n 3, 1, 0, 0, 0, 0) ∧ zc_X6_newNode.find? (fun r => r.1 == 2) = some (2, .aload_n 0, 1, 0, 0, 0, 0) ∧ zc_X6_newNode.find? (fun r => r.1 == 3) = some (3, .getfield 46, 3, 6, 14, 893, 0) ∧ zc_X6_newNode.find? (fun r => r.1 == 6) = some (6, .iload_n 1, 1, 0, 0, 0, 0) ∧ zc_X6_newNode.find? (fun r => r.1 == 7) = some (7, .iload_n 3, 1, 0, 0, 0, 0) ∧ zc_X6_newNode.find? (fun r => r.1 == 8) = some (8, .invokestatic 105, 3, 70, 2, 991, 0) ∧ zc_X6_newNode.find? (fun r => r.1 == 11) = some (11, .iaload, 1, 0, 0, 0, 0) ∧ zc_X6_newNode.find? (fun r => r.1 == 12) = some (12, .ifCond .eq 9, 3, 21, 0, 0, 0) ∧ zc_X6_newNode.find? (fun r => r.1 == 15) = some (15, .iinc 3 1, 3, 0, 0, 0, 0) ∧ zc_X6_newNode.find? (fun r => r.1 == 18) = some (18, .goto (-16), 3, 2, 0, 0, 0) ∧ zc_X6_newNode.find? (fun r => r.1 == 21) = some (21, .aload_n 0, 1, 0, 0, 0, 0) ∧ zc_X6_newNode.find? (fun r => r.1 == 22) = some (22, .getfield 46, 3, 6, 14, 893, 0) ∧ zc_X6_newNode.find? (fun r => r.1 == 25) = some (25, .iload_n 1, 1, 0, 0, 0, 0) ∧ zc_X6_newNode.find? (fun r => r.1 == 26) = some (26, .iload_n 3, 1, 0, 0, 0, 0) ∧ zc_X6_newNode.find? (fun r => r.1 == 27) = some (27, .invokestatic 105, 3, 70, 2, 991, 0) ∧ zc_X6_newNode.find? (fun r => r.1 == 30) = some (30, .iload_n 2, 1, 0, 0, 0, 0) ∧ zc_X6_newNode.find? (fun r => r.1 == 31) = some (31, .iastore, 1, 0, 0, 0, 0) ∧ zc_X6_newNode.find? (fun r => r.1 == 32) = some (32, .aload_n 0, 1, 0, 0, 0, 0) ∧ zc_X6_newNode.find? (fun r => r.1 == 33) = some (33, .getfield 61, 3, 6, 19, 898, 0) ∧ zc_X6_newNode.find? (fun r => r.1 == 36) = some (36, .iload_n 1, 1, 0, 0, 0, 0) ∧ zc_X6_newNode.find? (fun r => r.1 == 37) = some (37, .iload_n 3, 1, 0, 0, 0, 0) ∧ zc_X6_newNode.find? (fun r => r.1 == 38) = some (38, .invokestatic 105, 3, 70, 2, 991, 0) ∧ zc_X6_newNode.find? (fun r => r.1 == 41) = some (41, .iconst 0, 1, 0, 0, 0, 0) ∧ zc_X6_newNode.find? (fun r => r.1 == 42) = some (42, .iastore, 1, 0, 0, 0, 0) ∧ zc_X6_newNode.find? (fun r => r.1 == 43) = some (43, .iload_n 3, 1, 0, 0, 0, 0) ∧ zc_X6_newNode.find? (fun r => r.1 == 44) = some (44, .ireturn, 1, 0, 0, 0, 0) := zi_fdi (zc := zc_X6_newNode) (by decide +kernel)
set_option maxRecDepth 100000 in
theorem zf_X6_newLeaf : zc_X6_newLeaf.find? (fun r => r.1 == 0) = some (0, .aload_n 0, 1, 0, 0, 0, 0) ∧ zc_X6_newLeaf.find? (fun r => r.1 == 1) = some (1, .iload_n 1, 1, 0, 0, 0, 0) ∧ zc_X6_newLeaf.find? (fun r => r.1 == 2) = some (2, .iconst 1, 1, 0, 0, 0, 0) ∧ zc_X6_newLeaf.find? (fun r => r.1 == 3) = some (3, .invokevirtual 109, 3, 169, 3, 1074, 6) ∧ zc_X6_newLeaf.find? (fun r => r.1 == 6) = some (6, .istore_n 3, 1, 0, 0, 0, 0) ∧ zc_X6_newLeaf.find? (fun r => r.1 == 7) = some (7, .aload_n 0, 1, 0, 0, 0, 0) ∧ zc_X6_newLeaf.find? (fun r => r.1 == 8) = some (8, .getfield 58, 3, 6, 18, 897, 0) ∧ zc_X6_newLeaf.find? (fun r => r.1 == 11) = some (11, .bipush 10, 2, 0, 0, 0, 0) ∧ zc_X6_newLeaf.find? (fun r => r.1 == 13) = some (13, .iload_n 1, 1, 0, 0, 0, 0) ∧ zc_X6_newLeaf.find? (fun r => r.1 == 14) = some (14, .iload_n 3, 1, 0, 0, 0, 0) ∧ zc_X6_newLeaf.find? (fun r => r.1 == 15) = some (15, .invokestatic 105, 3, 70, 2, 991, 0) ∧ zc_X6_newLeaf.find? (fun r => r.1 == 18) = some (18, .imul, 1, 0, 0, 0, 0) ∧ zc_X6_newLeaf.find? (fun r => r.1 == 19) = some (19, .iload_n 2, 1, 0, 0, 0, 0) ∧ zc_X6_newLeaf.find? (fun r => r.1 == 20) = some (20, .iastore, 1, 0, 0, 0, 0) ∧ zc_X6_newLeaf.find? (fun r => r.1 == 21) = some (21, .aload_n 0, 1, 0, 0, 0, 0) ∧ zc_X6_newLeaf.find? (fun r => r.1 == 22) = some (22, .getfield 61, 3, 6, 19, 898, 0) ∧ zc_X6_newLeaf.find? (fun r => r.1 == 25) = some (25, .iload_n 1, 1, 0, 0, 0, 0) ∧ zc_X6_newLeaf.find? (fun r => r.1 == 26) = some (26, .iload_n 3, 1, 0, 0, 0, 0) ∧ zc_X6_newLeaf.find? (fun r => r.1 == 27) = some (27, .invokestatic 105, 3, 70, 2, 991, 0) ∧ zc_X6_newLeaf.find? (fun r => r.1 == 30) = some (30, .iconst 1, 1, 0, 0, 0, 0) ∧ zc_X6_newLeaf.find? (fun r => r.1 == 31) = some (31, .iastore, 1, 0, 0, 0, 0) ∧ zc_X6_newLeaf.find? (fun r => r.1 == 32) = some (32, .aload_n 0, 1, 0, 0, 0, 0) ∧ zc_X6_newLeaf.find? (fun r => r.1 == 33) = some (33, .getfield 64, 3, 6, 20, 899, 0) ∧ zc_X6_newLeaf.find? (fun r => r.1 == 36) = some (36, .iload_n 1, 1, 0, 0, 0, 0) ∧ zc_X6_newLeaf.find? (fun r => r.1 == 37) = some (37, .iload_n 3, 1, 0, 0, 0, 0) ∧ zc_X6_newLeaf.find? (fun r => r.1 == 38) = some (38, .invokestatic 105, 3, 70, 2, 991, 0) ∧ zc_X6_newLeaf.find? (fun r => r.1 == 41) = some (41, .iload_n 2, 1, 0, 0, 0, 0) ∧ zc_X6_newLeaf.find? (fun r => r.1 == 42) = some (42, .iastore, 1, 0, 0, 0, 0) ∧ zc_X6_newLeaf.find? (fun r => r.1 == 43) = some (43, .iload_n 3, 1, 0, 0, 0, 0) ∧ zc_X6_newLeaf.find? (fun r => r.1 == 44) = some (44, .ireturn, 1, 0, 0, 0, 0) := zi_fdi (zc := zc_X6_newLeaf) (by decide +kernel)
set_option maxRecDepth 100000 in
theorem zf_X6_addTab : zc_X6_addTab.find? (fun r => r.1 == 0) = some (0, .aload_n 0, 1, 0, 0, 0, 0) ∧ zc_X6_addTab.find? (fun r => r.1 == 1) = some (1, .getfield 58, 3, 6, 18, 897, 0) ∧ zc_X6_addTab.find? (fun r => r.1 == 4) = some (4, .bipush 10, 2, 0, 0, 0, 0) ∧ zc_X6_addTab.find? (fun r => r.1 == 6) = some (6, .iload_n 1, 1, 0, 0, 0, 0) ∧ zc_X6_addTab.find? (fun r => r.1 == 7) = some (7, .iload_n 2, 1, 0, 0, 0, 0) ∧ zc_X6_addTab.find? (fun r => r.1 == 8) = some (8, .invokestatic 105, 3, 70, 2, 991, 0) ∧ zc_X6_addTab.find? (fun r => r.1 == 11) = some (11, .imul, 1, 0, 0, 0, 0) ∧ zc_X6_addTab.find? (fun r => r.1 == 12) = some (12, .aload_n 0, 1, 0, 0, 0, 0) ∧ zc_X6_addTab.find? (fun r => r.1 == 13) = some (13, .getfield 61, 3, 6, 19, 898, 0) ∧ zc_X6_addTab.find? (fun r => r.1 == 16) = some (16, .iload_n 1, 1, 0, 0, 0, 0) ∧ zc_X6_addTab.find? (fun r => r.1 == 17) = some (17, .iload_n 2, 1, 0, 0, 0, 0) ∧ zc_X6_addTab.find? (fun r => r.1 == 18) = some (18, .invokestatic 105, 3, 70, 2, 991, 0) ∧ zc_X6_addTab.find? (fun r => r.1 == 21) = some (21, .iaload, 1, 0, 0, 0, 0) ∧ zc_X6_addTab.find? (fun r => r.1 == 22) = some (22, .iadd, 1, 0, 0, 0, 0) ∧ zc_X6_addTab.find? (fun r => r.1 == 23) = some (23, .iload_n 3, 1, 0, 0, 0, 0) ∧ zc_X6_addTab.find? (fun r => r.1 == 24) = some (24, .iastore, 1, 0, 0, 0, 0) ∧ zc_X6_addTab.find? (fun r => r.1 == 25) = some (25, .aload_n 0, 1, 0, 0, 0, 0) ∧ zc_X6_addTab.find? (fun r => r.1 == 26) = some (26, .getfield 61, 3, 6, 19, 898, 0) ∧ zc_X6_addTab.find? (fun r => r.1 == 29) = some (29, .iload_n 1, 1, 0, 0, 0, 0) ∧ zc_X6_addTab.find? (fun r => r.1 == 30) = some (30, .iload_n 2, 1, 0, 0, 0, 0) ∧ zc_X6_addTab.find? (fun r => r.1 == 31) = some (31, .invokestatic 105, 3, 70, 2, 991, 0) ∧ zc_X6_addTab.find? (fun r => r.1 == 34) = some (34, .dup2, 1, 0, 0, 0, 0) ∧ zc_X6_addTab.find? (fun r => r.1 == 35) = some (35, .iaload, 1, 0, 0, 0, 0) ∧ zc_X6_addTab.find? (fun r => r.1 == 36) = some (36, .iconst 1, 1, 0, 0, 0, 0) ∧ zc_X6_addTab.find? (fun r => r.1 == 37) = some (37, .iadd, 1, 0, 0, 0, 0) ∧ zc_X6_addTab.find? (fun r => r.1 == 38) = some (38, .iastore, 1, 0, 0, 0, 0) ∧ zc_X6_addTab.find? (fun r => r.1 == 39) = some (39, .return_, 1, 0, 0, 0, 0) := zi_fdi (zc := zc_X6_addTab) (by decide +kernel)
set_option maxRecDepth 100000 in
theorem zf_X6_placeOfTab : zc_X6_placeOfTab.find? (fun r => r.1 == 0) = some (0, .iconst 0, 1, 0, 0, 0, 0) ∧ zc_X6_placeOfTab.find? (fun r => r.1 == 1) = some (1, .istore 4, 2, 0, 0, 0, 0) ∧ zc_X6_placeOfTab.find? (fun r => r.1 == 3) = some (3, .iload 4, 2, 0, 0, 0, 0) ∧ zc_X6_placeOfTab.find? (fun r => r.1 == 5) = some (5, .aload_n 0, 1, 0, 0, 0, 0) ∧ zc_X6_placeOfTab.find? (fun r => r.1 == 6) = some (6, .getfield 61, 3, 6, 19, 898, 0) ∧ zc_X6_placeOfTab.find? (fun r => r.1 == 9) = some (9, .iload_n 1, 1, 0, 0, 0, 0) ∧ zc_X6_placeOfTab.find? (fun r => r.1 == 10) = some (10, .iload_n 2, 1, 0, 0, 0, 0) ∧ zc_X6_placeOfTab.find? (fun r => r.1 == 11) = some (11, .invokestatic 105, 3, 70, 2, 991, 0) ∧ zc_X6_placeOfTab.find? (fun r => r.1 == 14) = some (14, .iaload, 1, 0, 0, 0, 0) ∧ zc_X6_placeOfTab.find? (fun r => r.1 == 15) = some (15, .if_icmp .ge 32, 3, 47, 0, 0, 0) ∧ zc_X6_placeOfTab.find? (fun r => r.1 == 18) = some (18, .aload_n 0, 1, 0, 0, 0, 0) ∧ zc_X6_placeOfTab.find? (fun r => r.1 == 19) = some (19, .getfield 58, 3, 6, 18, 897, 0) ∧ zc_X6_placeOfTab.find? (fun r => r.1 == 22) = some (22, .bipush 10, 2, 0, 0, 0, 0) ∧ zc_X6_placeOfTab.find? (fun r => r.1 == 24) = some (24, .iload_n 1, 1, 0, 0, 0, 0) ∧ zc_X6_placeOfTab.find? (fun r => r.1 == 25) = some (25, .iload_n 2, 1, 0, 0, 0, 0) ∧ zc_X6_placeOfTab.find? (fun r => r.1 == 26) = some (26, .invokestatic 105, 3, 70, 2, 991, 0) ∧ zc_X6_placeOfTab.find? (fun r => r.1 == 29) = some (29, .imul, 1, 0, 0, 0, 0) ∧ zc_X6_placeOfTab.find? (fun r => r.1 == 30) = some (30, .iload 4, 2, 0, 0, 0, 0) ∧ zc_X6_placeOfTab.find? (fun r => r.1 == 32) = some (32, .iadd, 1, 0, 0, 0, 0) ∧ zc_X6_placeOfTab.find? (fun r => r.1 == 33) = some (33, .iaload, 1, 0, 0, 0, 0) ∧ zc_X6_placeOfTab.find? (fun r => r.1 == 34) = some (34, .iload_n 3, 1, 0, 0, 0, 0) ∧ zc_X6_placeOfTab.find? (fun r => r.1 == 35) = some (35, .if_icmp .ne 6, 3, 41, 0, 0, 0) ∧ zc_X6_placeOfTab.find? (fun r => r.1 == 38) = some (38, .iload 4, 2, 0, 0, 0, 0) ∧ zc_X6_placeOfTab.find? (fun r => r.1 == 40) = some (40, .ireturn, 1, 0, 0, 0, 0) ∧ zc_X6_placeOfTab.find? (fun r => r.1 == 41) = some (41, .iinc 4 1, 3, 0, 0, 0, 0) ∧ zc_X6_placeOfTab.find? (fun r => r.1 == 44) = some (44, .goto (-41), 3, 3, 0, 0, 0) ∧ zc_X6_placeOfTab.find? (fun r => r.1 == 47) = some (47, .iconst (-1), 1, 0, 0, 0, 0) ∧ zc_X6_placeOfTab.find? (fun r => r.1 == 48) = some (48, .ireturn, 1, 0, 0, 0, 0) := zi_fdi (zc := zc_X6_placeOfTab) (by decide +kernel)
set_option maxRecDepth 100000 in
theorem zf_X6_leafOf : zc_X6_leafOf.find? (fun r => r.1 == 0) = some (0, .iconst 0, 1, 0, 0, 0, 0) ∧ zc_X6_leafOf.find? (fun r => r.1 == 1) = some (1, .istore_n 3, 1, 0, 0, 0, 0) ∧ zc_X6_leafOf.find? (fun r => r.1 == 2) = some (2, .iload_n 3, 1, 0, 0, 0, 0) ∧ zc_X6_leafOf.find? (fun r => r.1 == 3) = some (3, .bipush 24, 2, 0, 0, 0, 0) ∧ zc_X6_leafOf.find? (fun r => r.1 == 5) = some (5, .if_icmp .ge 35, 3, 40, 0, 0, 0) ∧ zc_X6_leafOf.find? (fun r => r.1 == 8) = some (8, .aload_n 0, 1, 0, 0, 0, 0) ∧ zc_X6_leafOf.find? (fun r => r.1 == 9) = some (9, .getfield 46, 3, 6, 14, 893, 0) ∧ zc_X6_leafOf.find? (fun r => r.1 == 12) = some (12, .iload_n 1, 1, 0, 0, 0, 0) ∧ zc_X6_leafOf.find? (fun r => r.1 == 13) = some (13, .iload_n 3, 1, 0, 0, 0, 0) ∧ zc_X6_leafOf.find? (fun r => r.1 == 14) = some (14, .invokestatic 105, 3, 70, 2, 991, 0) ∧ zc_X6_leafOf.find? (fun r => r.1 == 17) = some (17, .iaload, 1, 0, 0, 0, 0) ∧ zc_X6_leafOf.find? (fun r => r.1 == 18) = some (18, .iconst 1, 1, 0, 0, 0, 0) ∧ zc_X6_leafOf.find? (fun r => r.1 == 19) = some (19, .if_icmp .ne 15, 3, 34, 0, 0, 0) ∧ zc_X6_leafOf.find? (fun r => r.1 == 22) = some (22, .aload_n 0, 1, 0, 0, 0, 0) ∧ zc_X6_leafOf.find? (fun r => r.1 == 23) = some (23, .iload_n 1, 1, 0, 0, 0, 0) ∧ zc_X6_leafOf.find? (fun r => r.1 == 24) = some (24, .iload_n 3, 1, 0, 0, 0, 0) ∧ zc_X6_leafOf.find? (fun r => r.1 == 25) = some (25, .iload_n 2, 1, 0, 0, 0, 0) ∧ zc_X6_leafOf.find? (fun r => r.1 == 26) = some (26, .invokevirtual 112, 3, 172, 4, 1034, 6) ∧ zc_X6_leafOf.find? (fun r => r.1 == 29) = some (29, .ifCond .lt 5, 3, 34, 0, 0, 0) ∧ zc_X6_leafOf.find? (fun r => r.1 == 32) = some (32, .iload_n 3, 1, 0, 0, 0, 0) ∧ zc_X6_leafOf.find? (fun r => r.1 == 33) = some (33, .ireturn, 1, 0, 0, 0, 0) ∧ zc_X6_leafOf.find? (fun r => r.1 == 34) = some (34, .iinc 3 1, 3, 0, 0, 0, 0) ∧ zc_X6_leafOf.find? (fun r => r.1 == 37) = some (37, .goto (-35), 3, 2, 0, 0, 0) ∧ zc_X6_leafOf.find? (fun r => r.1 == 40) = some (40, .iconst (-1), 1, 0, 0, 0, 0) ∧ zc_X6_leafOf.find? (fun r => r.1 == 41) = some (41, .ireturn, 1, 0, 0, 0, 0) := zi_fdi (zc := zc_X6_leafOf) (by decide +kernel)
set_option maxRecDepth 100000 in
theorem zf_X6_above : zc_X6_above.find? (fun r => r.1 == 0) = some (0, .iconst 0, 1, 0, 0, 0, 0) ∧ zc_X6_above.find? (fun r => r.1 == 1) = some (1, .istore_n 3, 1, 0, 0, 0, 0) ∧ zc_X6_above.find? (fun r => r.1 == 2) = some (2, .iload_n 3, 1, 0, 0, 0, 0) ∧ zc_X6_above.find? (fun r => r.1 == 3) = some (3, .bipush 24, 2, 0, 0, 0, 0) ∧ zc_X6_above.find? (fun r => r.1 == 5) = some (5, .if_icmp .ge 53, 3, 58, 0, 0, 0) ∧ zc_X6_above.find? (fun r => r.1 == 8) = some (8, .aload_n 0, 1, 0, 0, 0, 0) ∧ zc_X6_above.find? (fun r => r.1 == 9) = some (9, .getfield 46, 3, 6, 14, 893, 0) ∧ zc_X6_above.find? (fun r => r.1 == 12) = some (12, .iload_n 1, 1, 0, 0, 0, 0) ∧ zc_X6_above.find? (fun r => r.1 == 13) = some (13, .iload_n 3, 1, 0, 0, 0, 0) ∧ zc_X6_above.find? (fun r => r.1 == 14) = some (14, .invokestatic 105, 3, 70, 2, 991, 0) ∧ zc_X6_above.find? (fun r => r.1 == 17) = some (17, .iaload, 1, 0, 0, 0, 0) ∧ zc_X6_above.find? (fun r => r.1 == 18) = some (18, .iconst 1, 1, 0, 0, 0, 0) ∧ zc_X6_above.find? (fun r => r.1 == 19) = some (19, .if_icmp .le 33, 3, 52, 0, 0, 0) ∧ zc_X6_above.find? (fun r => r.1 == 22) = some (22, .aload_n 0, 1, 0, 0, 0, 0) ∧ zc_X6_above.find? (fun r => r.1 == 23) = some (23, .getfield 49, 3, 6, 15, 894, 0) ∧ zc_X6_above.find? (fun r => r.1 == 26) = some (26, .iload_n 1, 1, 0, 0, 0, 0) ∧ zc_X6_above.find? (fun r => r.1 == 27) = some (27, .iload_n 3, 1, 0, 0, 0, 0) ∧ zc_X6_above.find? (fun r => r.1 == 28) = some (28, .invokestatic 105, 3, 70, 2, 991, 0) ∧ zc_X6_above.find? (fun r => r.1 == 31) = some (31, .iaload, 1, 0, 0, 0, 0) ∧ zc_X6_above.find? (fun r => r.1 == 32) = some (32, .iload_n 2, 1, 0, 0, 0, 0) ∧ zc_X6_above.find? (fun r => r.1 == 33) = some (33, .if_icmp .eq 17, 3, 50, 0, 0, 0) ∧ zc_X6_above.find? (fun r => r.1 == 36) = some (36, .aload_n 0, 1, 0, 0, 0, 0) ∧ zc_X6_above.find? (fun r => r.1 == 37) = some (37, .getfield 52, 3, 6, 16, 895, 0) ∧ zc_X6_above.find? (fun r => r.1 == 40) = some (40, .iload_n 1, 1, 0, 0, 0, 0) ∧ zc_X6_above.find? (fun r => r.1 == 41) = some (41, .iload_n 3, 1, 0, 0, 0, 0) ∧ zc_X6_above.find? (fun r => r.1 == 42) = some (42, .invokestatic 105, 3, 70, 2, 991, 0) ∧ zc_X6_above.find? (fun r => r.1 == 45) = some (45, .iaload, 1, 0, 0, 0, 0) ∧ zc_X6_above.find? (fun r => r.1 == 46) = some (46, .iload_n 2, 1, 0, 0, 0, 0) ∧ zc_X6_above.find? (fun r => r.1 == 47) = some (47, .if_icmp .ne 5, 3, 52, 0, 0, 0) ∧ zc_X6_above.find? (fun r => r.1 == 50) = some (50, .iload_n 3, 1, 0, 0, 0, 0) ∧ zc_X6_above.find? (fun r => r.1 == 51) = some (51, .ireturn, 1, 0, 0, 0, 0) ∧ zc_X6_above.find? (fun r => r.1 == 52) = some (52, .iinc 3 1, 3, 0, 0, 0, 0) ∧ zc_X6_above.find? (fun r => r.1 == 55) = some (55, .goto (-53), 3, 2, 0, 0, 0) ∧ zc_X6_above.find? (fun r => r.1 == 58) = some (58, .iconst (-1), 1, 0, 0, 0, 0) ∧ zc_X6_above.find? (fun r => r.1 == 59) = some (59, .ireturn, 1, 0, 0, 0, 0) := zi_fdi (zc := zc_X6_above) (by decide +kernel)
set_option maxRecDepth 100000 in
theorem zf_X6_stand : zc_X6_stand.find? (fun r => r.1 == 0) = some (0, .iload_n 2, 1, 0, 0, 0, 0) ∧ zc_X6_stand.find? (fun r => r.1 == 1) = some (1, .ifCond .ge 14, 3, 15, 0, 0, 0) ∧ zc_X6_stand.find? (fun r => r.1 == 4) = some (4, .aload_n 0, 1, 0, 0, 0, 0) ∧ zc_X6_stand.find? (fun r => r.1 == 5) = some (5, .getfield 43, 3, 6, 13, 892, 0) ∧ zc_X6_stand.find? (fun r => r.1 == 8) = some (8, .iload_n 1, 1, 0, 0, 0, 0) ∧ zc_X6_stand.find? (fun r => r.1 == 9) = some (9, .iload 4, 2, 0, 0, 0, 0) ∧ zc_X6_stand.find? (fun r => r.1 == 11) = some (11, .iastore, 1, 0, 0, 0, 0) ∧ zc_X6_stand.find? (fun r => r.1 == 12) = some (12, .goto 44, 3, 56, 0, 0, 0) ∧ zc_X6_stand.find? (fun r => r.1 == 15) = some (15, .aload_n 0, 1, 0, 0, 0, 0) ∧ zc_X6_stand.find? (fun r => r.1 == 16) = some (16, .getfield 49, 3, 6, 15, 894, 0) ∧ zc_X6_stand.find? (fun r => r.1 == 19) = some (19, .iload_n 1, 1, 0, 0, 0, 0) ∧ zc_X6_stand.find? (fun r => r.1 == 20) = some (20, .iload_n 2, 1, 0, 0, 0, 0) ∧ zc_X6_stand.find? (fun r => r.1 == 21) = some (21, .invokestatic 105, 3, 70, 2, 991, 0) ∧ zc_X6_stand.find? (fun r => r.1 == 24) = some (24, .iaload, 1, 0, 0, 0, 0) ∧ zc_X6_stand.find? (fun r => r.1 == 25) = some (25, .iload_n 3, 1, 0, 0, 0, 0) ∧ zc_X6_stand.find? (fun r => r.1 == 26) = some (26, .if_icmp .ne 18, 3, 44, 0, 0, 0) ∧ zc_X6_stand.find? (fun r => r.1 == 29) = some (29, .aload_n 0, 1, 0, 0, 0, 0) ∧ zc_X6_stand.find? (fun r => r.1 == 30) = some (30, .getfield 49, 3, 6, 15, 894, 0) ∧ zc_X6_stand.find? (fun r => r.1 == 33) = some (33, .iload_n 1, 1, 0, 0, 0, 0) ∧ zc_X6_stand.find? (fun r => r.1 == 34) = some (34, .iload_n 2, 1, 0, 0, 0, 0) ∧ zc_X6_stand.find? (fun r => r.1 == 35) = some (35, .invokestatic 105, 3, 70, 2, 991, 0) ∧ zc_X6_stand.find? (fun r => r.1 == 38) = some (38, .iload 4, 2, 0, 0, 0, 0) ∧ zc_X6_stand.find? (fun r => r.1 == 40) = some (40, .iastore, 1, 0, 0, 0, 0) ∧ zc_X6_stand.find? (fun r => r.1 == 41) = some (41, .goto 15, 3, 56, 0, 0, 0) ∧ zc_X6_stand.find? (fun r => r.1 == 44) = some (44, .aload_n 0, 1, 0, 0, 0, 0) ∧ zc_X6_stand.find? (fun r => r.1 == 45) = some (45, .getfield 52, 3, 6, 16, 895, 0) ∧ zc_X6_stand.find? (fun r => r.1 == 48) = some (48, .iload_n 1, 1, 0, 0, 0, 0) ∧ zc_X6_stand.find? (fun r => r.1 == 49) = some (49, .iload_n 2, 1, 0, 0, 0, 0) ∧ zc_X6_stand.find? (fun r => r.1 == 50) = some (50, .invokestatic 105, 3, 70, 2, 991, 0) ∧ zc_X6_stand.find? (fun r => r.1 == 53) = some (53, .iload 4, 2, 0, 0, 0, 0) ∧ zc_X6_stand.find? (fun r => r.1 == 55) = some (55, .iastore, 1, 0, 0, 0, 0) ∧ zc_X6_stand.find? (fun r => r.1 == 56) = some (56, .return_, 1, 0, 0, 0, 0) := zi_fdi (zc := zc_X6_stand) (by decide +kernel)
set_option maxRecDepth 100000 in
theorem zf_X6_leave : zc_X6_leave.find? (fun r => r.1 == 0) = some (0, .aload_n 0, 1, 0, 0, 0, 0) ∧ zc_X6_leave.find? (fun r => r.1 == 1) = some (1, .iload_n 1, 1, 0, 0, 0, 0) ∧ zc_X6_leave.find? (fun r => r.1 == 2) = some (2, .iload_n 2, 1, 0, 0, 0, 0) ∧ zc_X6_leave.find? (fun r => r.1 == 3) = some (3, .invokevirtual 116, 3, 173, 3, 1030, 6) ∧ zc_X6_leave.find? (fun r => r.1 == 6) = some (6, .istore_n 3, 1, 0, 0, 0, 0) ∧ zc_X6_leave.find? (fun r => r.1 == 7) = some (7, .iload_n 1, 1, 0, 0, 0, 0) ∧ zc_X6_leave.find? (fun r => r.1 == 8) = some (8, .iload_n 3, 1, 0, 0, 0, 0) ∧ zc_X6_leave.find? (fun r => r.1 == 9) = some (9, .invokestatic 105, 3, 70, 2, 991, 0) ∧ zc_X6_leave.find? (fun r => r.1 == 12) = some (12, .istore 4, 2, 0, 0, 0, 0) ∧ zc_X6_leave.find? (fun r => r.1 == 14) = some (14, .aload_n 0, 1, 0, 0, 0, 0) ∧ zc_X6_leave.find? (fun r => r.1 == 15) = some (15, .iload_n 1, 1, 0, 0, 0, 0) ∧ zc_X6_leave.find? (fun r => r.1 == 16) = some (16, .iload_n 3, 1, 0, 0, 0, 0) ∧ zc_X6_leave.find? (fun r => r.1 == 17) = some (17, .iload_n 2, 1, 0, 0, 0, 0) ∧ zc_X6_leave.find? (fun r => r.1 == 18) = some (18, .invokevirtual 112, 3, 172, 4, 1034, 6) ∧ zc_X6_leave.find? (fun r => r.1 == 21) = some (21, .istore 5, 2, 0, 0, 0, 0) ∧ zc_X6_leave.find? (fun r => r.1 == 23) = some (23, .aload_n 0, 1, 0, 0, 0, 0) ∧ zc_X6_leave.find? (fun r => r.1 == 24) = some (24, .getfield 61, 3, 6, 19, 898, 0) ∧ zc_X6_leave.find? (fun r => r.1 == 27) = some (27, .iload 4, 2, 0, 0, 0, 0) ∧ zc_X6_leave.find? (fun r => r.1 == 29) = some (29, .dup2, 1, 0, 0, 0, 0) ∧ zc_X6_leave.find? (fun r => r.1 == 30) = some (30, .iaload, 1, 0, 0, 0, 0) ∧ zc_X6_leave.find? (fun r => r.1 == 31) = some (31, .iconst 1, 1, 0, 0, 0, 0) ∧ zc_X6_leave.find? (fun r => r.1 == 32) = some (32, .isub, 1, 0, 0, 0, 0) ∧ zc_X6_leave.find? (fun r => r.1 == 33) = some (33, .iastore, 1, 0, 0, 0, 0) ∧ zc_X6_leave.find? (fun r => r.1 == 34) = some (34, .iload 5, 2, 0, 0, 0, 0) ∧ zc_X6_leave.find? (fun r => r.1 == 36) = some (36, .istore 6, 2, 0, 0, 0, 0) ∧ zc_X6_leave.find? (fun r => r.1 == 38) = some (38, .iload 6, 2, 0, 0, 0, 0) ∧ zc_X6_leave.find? (fun r => r.1 == 40) = some (40, .aload_n 0, 1, 0, 0, 0, 0) ∧ zc_X6_leave.find? (fun r => r.1 == 41) = some (41, .getfield 61, 3, 6, 19, 898, 0) ∧ zc_X6_leave.find? (fun r => r.1 == 44) = some (44, .iload 4, 2, 0, 0, 0, 0) ∧ zc_X6_leave.find? (fun r => r.1 == 46) = some (46, .iaload, 1, 0, 0, 0, 0) ∧ zc_X6_leave.find? (fun r => r.1 == 47) = some (47, .if_icmp .ge 37, 3, 84, 0, 0, 0) ∧ zc_X6_leave.find? (fun r => r.1 == 50) = some (50, .aload_n 0, 1, 0, 0, 0, 0) ∧ zc_X6_leave.find? (fun r => r.1 == 51) = some (51, .getfield 58, 3, 6, 18, 897, 0) ∧ zc_X6_leave.find? (fun r => r.1 == 54) = some (54, .bipush 10, 2, 0, 0, 0, 0) ∧ zc_X6_leave.find? (fun r => r.1 == 56) = some (56, .iload 4, 2, 0, 0, 0, 0) ∧ zc_X6_leave.find? (fun r => r.1 == 58) = some (58, .imul, 1, 0, 0, 0, 0) ∧ zc_X6_leave.find? (fun r => r.1 == 59) = some (59, .iload 6, 2, 0, 0, 0, 0) ∧ zc_X6_leave.find? (fun r => r.1 == 61) = some (61, .iadd, 1, 0, 0, 0, 0) ∧ zc_X6_leave.find? (fun r => r.1 == 62) = some (62, .aload_n 0, 1, 0, 0, 0, 0) ∧ zc_X6_leave.find? (fun r => r.1 == 63) = some (63, .getfield 58, 3, 6, 18, 897, 0) ∧ zc_X6_leave.find? (fun r => r.1 == 66) = some (66, .bipush 10, 2, 0, 0, 0, 0) ∧ zc_X6_leave.find? (fun r => r.1 == 68) = some (68, .iload 4, 2, 0, 0, 0, 0) ∧ zc_X6_leave.find? (fun r => r.1 == 70) = some (70, .imul, 1, 0, 0, 0, 0) ∧ zc_X6_leave.find? (fun r => r.1 == 71) = some (71, .iload 6, 2, 0, 0, 0, 0) ∧ zc_X6_leave.find? (fun r => r.1 == 73) = some (73, .iadd, 1, 0, 0, 0, 0) ∧ zc_X6_leave.find? (fun r => r.1 == 74) = some (74, .iconst 1, 1, 0, 0, 0, 0) ∧ zc_X6_leave.find? (fun r => r.1 == 75) = some (75, .iadd, 1, 0, 0, 0, 0) ∧ zc_X6_leave.find? (fun r => r.1 == 76) = some (76, .iaload, 1, 0, 0, 0, 0) ∧ zc_X6_leave.find? (fun r => r.1 == 77) = some (77, .iastore, 1, 0, 0, 0, 0) ∧ zc_X6_leave.find? (fun r => r.1 == 78) = some (78, .iinc 6 1, 3, 0, 0, 0, 0) ∧ zc_X6_leave.find? (fun r => r.1 == 81) = some (81, .goto (-43), 3, 38, 0, 0, 0) ∧ zc_X6_leave.find? (fun r => r.1 == 84) = some (84, .aload_n 0, 1, 0, 0, 0, 0) ∧ zc_X6_leave.find? (fun r => r.1 == 85) = some (85, .getfield 61, 3, 6, 19, 898, 0) ∧ zc_X6_leave.find? (fun r => r.1 == 88) = some (88, .iload 4, 2, 0, 0, 0, 0) ∧ zc_X6_leave.find? (fun r => r.1 == 90) = some (90, .iaload, 1, 0, 0, 0, 0) ∧ zc_X6_leave.find? (fun r => r.1 == 91) = some (91, .ifCond .le 73, 3, 164, 0, 0, 0) ∧ zc_X6_leave.find? (fun r => r.1 == 94) = some (94, .iload 5, 2, 0, 0, 0, 0) ∧ zc_X6_leave.find? (fun r => r.1 == 96) = some (96, .aload_n 0, 1, 0, 0, 0, 0) ∧ zc_X6_leave.find? (fun r => r.1 == 97) = some (97, .getfield 61, 3, 6, 19, 898, 0) ∧ zc_X6_leave.find? (fun r => r.1 == 100) = some (100, .iload 4, 2, 0, 0, 0, 0) ∧ zc_X6_leave.find? (fun r => r.1 == 102) = some (102, .iaload, 1, 0, 0, 0, 0) ∧ zc_X6_leave.find? (fun r => r.1 == 103) = some (103, .if_icmp .ge 8, 3, 111, 0, 0, 0) ∧ zc_X6_leave.find? (fun r => r.1 == 106) = some (106, .iload 5, 2, 0, 0, 0, 0) ∧ zc_X6_leave.find? (fun r => r.1 == 108) = some (108, .goto 12, 3, 120, 0, 0, 0) ∧ zc_X6_leave.find? (fun r => r.1 == 111) = some (111, .aload_n 0, 1, 0, 0, 0, 0) ∧ zc_X6_leave.find? (fun r => r.1 == 112) = some (112, .getfield 61, 3, 6, 19, 898, 0) ∧ zc_X6_leave.find? (fun r => r.1 == 115) = some (115, .iload 4, 2, 0, 0, 0, 0) ∧ zc_X6_leave.find? (fun r => r.1 == 117) = some (117, .iaload, 1, 0, 0, 0, 0) ∧ zc_X6_leave.find? (fun r => r.1 == 118) = some (118, .iconst 1, 1, 0, 0, 0, 0) ∧ zc_X6_leave.find? (fun r => r.1 == 119) = some (119, .isub, 1, 0, 0, 0, 0) ∧ zc_X6_leave.find? (fun r => r.1 == 120) = some (120, .istore 6, 2, 0, 0, 0, 0) ∧ zc_X6_leave.find? (fun r => r.1 == 122) = some (122, .aload_n 0, 1, 0, 0, 0, 0) ∧ zc_X6_leave.find? (fun r => r.1 == 123) = some (123, .getfield 64, 3, 6, 20, 899, 0) ∧ zc_X6_leave.find? (fun r => r.1 == 126) = some (126, .iload 4, 2, 0, 0, 0, 0) ∧ zc_X6_leave.find? (fun r => r.1 == 128) = some (128, .aload_n 0, 1, 0, 0, 0, 0) ∧ zc_X6_leave.find? (fun r => r.1 == 129) = some (129, .getfield 64, 3, 6, 20, 899, 0) ∧ zc_X6_leave.find? (fun r => r.1 == 132) = some (132, .iload 4, 2, 0, 0, 0, 0) ∧ zc_X6_leave.find? (fun r => r.1 == 134) = some (134, .iaload, 1, 0, 0, 0, 0) ∧ zc_X6_leave.find? (fun r => r.1 == 135) = some (135, .iload_n 2, 1, 0, 0, 0, 0) ∧ zc_X6_leave.find? (fun r => r.1 == 136) = some (136, .if_icmp .ne 19, 3, 155, 0, 0, 0) ∧ zc_X6_leave.find? (fun r => r.1 == 139) = some (139, .aload_n 0, 1, 0, 0, 0, 0) ∧ zc_X6_leave.find? (fun r => r.1 == 140) = some (140, .getfield 58, 3, 6, 18, 897, 0) ∧ zc_X6_leave.find? (fun r => r.1 == 143) = some (143, .bipush 10, 2, 0, 0, 0, 0) ∧ zc_X6_leave.find? (fun r => r.1 == 145) = some (145, .iload 4, 2, 0, 0, 0, 0) ∧ zc_X6_leave.find? (fun r => r.1 == 147) = some (147, .imul, 1, 0, 0, 0, 0) ∧ zc_X6_leave.find? (fun r => r.1 == 148) = some (148, .iload 6, 2, 0, 0, 0, 0) ∧ zc_X6_leave.find? (fun r => r.1 == 150) = some (150, .iadd, 1, 0, 0, 0, 0) ∧ zc_X6_leave.find? (fun r => r.1 == 151) = some (151, .iaload, 1, 0, 0, 0, 0) ∧ zc_X6_leave.find? (fun r => r.1 == 152) = some (152, .goto 10, 3, 162, 0, 0, 0) ∧ zc_X6_leave.find? (fun r => r.1 == 155) = some (155, .aload_n 0, 1, 0, 0, 0, 0) ∧ zc_X6_leave.find? (fun r => r.1 == 156) = some (156, .getfield 64, 3, 6, 20, 899, 0) ∧ zc_X6_leave.find? (fun r => r.1 == 159) = some (159, .iload 4, 2, 0, 0, 0, 0) ∧ zc_X6_leave.find? (fun r => r.1 == 161) = some (161, .iaload, 1, 0, 0, 0, 0) ∧ zc_X6_leave.find? (fun r => r.1 == 162) = some (162, .iastore, 1, 0, 0, 0, 0) ∧ zc_X6_leave.find? (fun r => r.1 == 163) = some (163, .return_, 1, 0, 0, 0, 0) ∧ zc_X6_leave.find? (fun r => r.1 == 164) = some (164, .aload_n 0, 1, 0, 0, 0, 0) ∧ zc_X6_leave.find? (fun r => r.1 == 165) = some (165, .iload_n 1, 1, 0, 0, 0, 0) ∧ zc_X6_leave.find? (fun r => r.1 == 166) = some (166, .iload_n 3, 1, 0, 0, 0, 0) ∧ zc_X6_leave.find? (fun r => r.1 == 167) = some (167, .invokevirtual 119, 3, 174, 3, 1038, 6) ∧ zc_X6_leave.find? (fun r => r.1 == 170) = some (170, .istore 6, 2, 0, 0, 0, 0) ∧ zc_X6_leave.find? (fun r => r.1 == 172) = some (172, .aload_n 0, 1, 0, 0, 0, 0) ∧ zc_X6_leave.find? (fun r => r.1 == 173) = some (173, .getfield 46, 3, 6, 14, 893, 0) ∧ zc_X6_leave.find? (fun r => r.1 == 176) = some (176, .iload 4, 2, 0, 0, 0, 0) ∧ zc_X6_leave.find? (fun r => r.1 == 178) = some (178, .iconst 0, 1, 0, 0, 0, 0) ∧ zc_X6_leave.find? (fun r => r.1 == 179) = some (179, .iastore, 1, 0, 0, 0, 0) ∧ zc_X6_leave.find? (fun r => r.1 == 180) = some (180, .iload 6, 2, 0, 0, 0, 0) ∧ zc_X6_leave.find? (fun r => r.1 == 182) = some (182, .ifCond .ge 11, 3, 193, 0, 0, 0) ∧ zc_X6_leave.find? (fun r => r.1 == 185) = some (185, .aload_n 0, 1, 0, 0, 0, 0) ∧ zc_X6_leave.find? (fun r => r.1 == 186) = some (186, .getfield 43, 3, 6, 13, 892, 0) ∧ zc_X6_leave.find? (fun r => r.1 == 189) = some (189, .iload_n 1, 1, 0, 0, 0, 0) ∧ zc_X6_leave.find? (fun r => r.1 == 190) = some (190, .iconst (-1), 1, 0, 0, 0, 0) ∧ zc_X6_leave.find? (fun r => r.1 == 191) = some (191, .iastore, 1, 0, 0, 0, 0) ∧ zc_X6_leave.find? (fun r => r.1 == 192) = some (192, .return_, 1, 0, 0, 0, 0) ∧ zc_X6_leave.find? (fun r => r.1 == 193) = some (193, .aload_n 0, 1, 0, 0, 0, 0) ∧ zc_X6_leave.find? (fun r => r.1 == 194) = some (194, .getfield 49, 3, 6, 15, 894, 0) ∧ zc_X6_leave.find? (fun r => r.1 == 197) = some (197, .iload_n 1, 1, 0, 0, 0, 0) ∧ zc_X6_leave.find? (fun r => r.1 == 198) = some (198, .iload 6, 2, 0, 0, 0, 0) ∧ zc_X6_leave.find? (fun r => r.1 == 200) = some (200, .invokestatic 105, 3, 70, 2, 991, 0) ∧ zc_X6_leave.find? (fun r => r.1 == 203) = some (203, .iaload, 1, 0, 0, 0, 0) ∧ zc_X6_leave.find? (fun r => r.1 == 204) = some (204, .iload_n 3, 1, 0, 0, 0, 0) ∧ zc_X6_leave.find? (fun r => r.1 == 205) = some (205, .if_icmp .ne 17, 3, 222, 0, 0, 0) ∧ zc_X6_leave.find? (fun r => r.1 == 208) = some (208, .aload_n 0, 1, 0, 0, 0, 0) ∧ zc_X6_leave.find? (fun r => r.1 == 209) = some (209, .getfield 52, 3, 6, 16, 895, 0) ∧ zc_X6_leave.find? (fun r => r.1 == 212) = some (212, .iload_n 1, 1, 0, 0, 0, 0) ∧ zc_X6_leave.find? (fun r => r.1 == 213) = some (213, .iload 6, 2, 0, 0, 0, 0) ∧ zc_X6_leave.find? (fun r => r.1 == 215) = some (215, .invokestatic 105, 3, 70, 2, 991, 0) ∧ zc_X6_leave.find? (fun r => r.1 == 218) = some (218, .iaload, 1, 0, 0, 0, 0) ∧ zc_X6_leave.find? (fun r => r.1 == 219) = some (219, .goto 14, 3, 233, 0, 0, 0) ∧ zc_X6_leave.find? (fun r => r.1 == 222) = some (222, .aload_n 0, 1, 0, 0, 0, 0) ∧ zc_X6_leave.find? (fun r => r.1 == 223) = some (223, .getfield 49, 3, 6, 15, 894, 0) ∧ zc_X6_leave.find? (fun r => r.1 == 226) = some (226, .iload_n 1, 1, 0, 0, 0, 0) ∧ zc_X6_leave.find? (fun r => r.1 == 227) = some (227, .iload 6, 2, 0, 0, 0, 0) ∧ zc_X6_leave.find? (fun r => r.1 == 229) = some (229, .invokestatic 105, 3, 70, 2, 991, 0) ∧ zc_X6_leave.find? (fun r => r.1 == 232) = some (232, .iaload, 1, 0, 0, 0, 0) ∧ zc_X6_leave.find? (fun r => r.1 == 233) = some (233, .istore 7, 2, 0, 0, 0, 0) ∧ zc_X6_leave.find? (fun r => r.1 == 235) = some (235, .aload_n 0, 1, 0, 0, 0, 0) ∧ zc_X6_leave.find? (fun r => r.1 == 236) = some (236, .iload_n 1, 1, 0, 0, 0, 0) ∧ zc_X6_leave.find? (fun r => r.1 == 237) = some (237, .iload 6, 2, 0, 0, 0, 0) ∧ zc_X6_leave.find? (fun r => r.1 == 239) = some (239, .invokevirtual 119, 3, 174, 3, 1038, 6) ∧ zc_X6_leave.find? (fun r => r.1 == 242) = some (242, .istore 8, 2, 0, 0, 0, 0) ∧ zc_X6_leave.find? (fun r => r.1 == 244) = some (244, .aload_n 0, 1, 0, 0, 0, 0) ∧ zc_X6_leave.find? (fun r => r.1 == 245) = some (245, .getfield 46, 3, 6, 14, 893, 0) ∧ zc_X6_leave.find? (fun r => r.1 == 248) = some (248, .iload_n 1, 1, 0, 0, 0, 0) ∧ zc_X6_leave.find? (fun r => r.1 == 249) = some (249, .iload 6, 2, 0, 0, 0, 0) ∧ zc_X6_leave.find? (fun r => r.1 == 251) = some (251, .invokestatic 105, 3, 70, 2, 991, 0) ∧ zc_X6_leave.find? (fun r => r.1 == 254) = some (254, .iconst 0, 1, 0, 0, 0, 0) ∧ zc_X6_leave.find? (fun r => r.1 == 255) = some (255, .iastore, 1, 0, 0, 0, 0) ∧ zc_X6_leave.find? (fun r => r.1 == 256) = some (256, .aload_n 0, 1, 0, 0, 0, 0) ∧ zc_X6_leave.find? (fun r => r.1 == 257) = some (257, .iload_n 1, 1, 0, 0, 0, 0) ∧ zc_X6_leave.find? (fun r => r.1 == 258) = some (258, .iload 8, 2, 0, 0, 0, 0) ∧ zc_X6_leave.find? (fun r => r.1 == 260) = some (260, .iload 6, 2, 0, 0, 0, 0) ∧ zc_X6_leave.find? (fun r => r.1 == 262) = some (262, .iload 7, 2, 0, 0, 0, 0) ∧ zc_X6_leave.find? (fun r => r.1 == 264) = some (264, .invokevirtual 122, 3, 175, 5, 1042, 6) ∧ zc_X6_leave.find? (fun r => r.1 == 267) = some (267, .return_, 1, 0, 0, 0, 0) := zi_fdi (zc := zc_X6_leave) (by decide +kernel)
set_option maxRecDepth 100000 in
theorem zf_X6_cutLeaf : zc_X6_cutLeaf.find? (fun r => r.1 == 0) = some (0, .aload_n 0, 1, 0, 0, 0, 0) ∧ zc_X6_cutLeaf.find? (fun r => r.1 == 1) = some (1, .iload_n 1, 1, 0, 0, 0, 0) ∧ zc_X6_cutLeaf.find? (fun r => r.1 == 2) = some (2, .iload_n 2, 1, 0, 0, 0, 0) ∧ zc_X6_cutLeaf.find? (fun r => r.1 == 3) = some (3, .invokevirtual 119, 3, 174, 3, 1038, 6) ∧ zc_X6_cutLeaf.find? (fun r => r.1 == 6) = some (6, .istore 6, 2, 0, 0, 0, 0) ∧ zc_X6_cutLeaf.find? (fun r => r.1 == 8) = some (8, .aload_n 0, 1, 0, 0, 0, 0) ∧ zc_X6_cutLeaf.find? (fun r => r.1 == 9) = some (9, .iload_n 1, 1, 0, 0, 0, 0) ∧ zc_X6_cutLeaf.find? (fun r => r.1 == 10) = some (10, .iload 4, 2, 0, 0, 0, 0) ∧ zc_X6_cutLeaf.find? (fun r => r.1 == 12) = some (12, .invokevirtual 126, 3, 170, 3, 1070, 6) ∧ zc_X6_cutLeaf.find? (fun r => r.1 == 15) = some (15, .istore 7, 2, 0, 0, 0, 0) ∧ zc_X6_cutLeaf.find? (fun r => r.1 == 17) = some (17, .aload_n 0, 1, 0, 0, 0, 0) ∧ zc_X6_cutLeaf.find? (fun r => r.1 == 18) = some (18, .iload_n 1, 1, 0, 0, 0, 0) ∧ zc_X6_cutLeaf.find? (fun r => r.1 == 19) = some (19, .iload_n 3, 1, 0, 0, 0, 0) ∧ zc_X6_cutLeaf.find? (fun r => r.1 == 20) = some (20, .invokevirtual 109, 3, 169, 3, 1074, 6) ∧ zc_X6_cutLeaf.find? (fun r => r.1 == 23) = some (23, .istore 8, 2, 0, 0, 0, 0) ∧ zc_X6_cutLeaf.find? (fun r => r.1 == 25) = some (25, .aload_n 0, 1, 0, 0, 0, 0) ∧ zc_X6_cutLeaf.find? (fun r => r.1 == 26) = some (26, .getfield 49, 3, 6, 15, 894, 0) ∧ zc_X6_cutLeaf.find? (fun r => r.1 == 29) = some (29, .iload_n 1, 1, 0, 0, 0, 0) ∧ zc_X6_cutLeaf.find? (fun r => r.1 == 30) = some (30, .iload 8, 2, 0, 0, 0, 0) ∧ zc_X6_cutLeaf.find? (fun r => r.1 == 32) = some (32, .invokestatic 105, 3, 70, 2, 991, 0) ∧ zc_X6_cutLeaf.find? (fun r => r.1 == 35) = some (35, .iload 5, 2, 0, 0, 0, 0) ∧ zc_X6_cutLeaf.find? (fun r => r.1 == 37) = some (37, .ifCond .eq 8, 3, 45, 0, 0, 0) ∧ zc_X6_cutLeaf.find? (fun r => r.1 == 40) = some (40, .iload 7, 2, 0, 0, 0, 0) ∧ zc_X6_cutLeaf.find? (fun r => r.1 == 42) = some (42, .goto 4, 3, 46, 0, 0, 0) ∧ zc_X6_cutLeaf.find? (fun r => r.1 == 45) = some (45, .iload_n 2, 1, 0, 0, 0, 0) ∧ zc_X6_cutLeaf.find? (fun r => r.1 == 46) = some (46, .iastore, 1, 0, 0, 0, 0) ∧ zc_X6_cutLeaf.find? (fun r => r.1 == 47) = some (47, .aload_n 0, 1, 0, 0, 0, 0) ∧ zc_X6_cutLeaf.find? (fun r => r.1 == 48) = some (48, .getfield 52, 3, 6, 16, 895, 0) ∧ zc_X6_cutLeaf.find? (fun r => r.1 == 51) = some (51, .iload_n 1, 1, 0, 0, 0, 0) ∧ zc_X6_cutLeaf.find? (fun r => r.1 == 52) = some (52, .iload 8, 2, 0, 0, 0, 0) ∧ zc_X6_cutLeaf.find? (fun r => r.1 == 54) = some (54, .invokestatic 105, 3, 70, 2, 991, 0) ∧ zc_X6_cutLeaf.find? (fun r => r.1 == 57) = some (57, .iload 5, 2, 0, 0, 0, 0) ∧ zc_X6_cutLeaf.find? (fun r => r.1 == 59) = some (59, .ifCond .eq 7, 3, 66, 0, 0, 0) ∧ zc_X6_cutLeaf.find? (fun r => r.1 == 62) = some (62, .iload_n 2, 1, 0, 0, 0, 0) ∧ zc_X6_cutLeaf.find? (fun r => r.1 == 63) = some (63, .goto 5, 3, 68, 0, 0, 0) ∧ zc_X6_cutLeaf.find? (fun r => r.1 == 66) = some (66, .iload 7, 2, 0, 0, 0, 0) ∧ zc_X6_cutLeaf.find? (fun r => r.1 == 68) = some (68, .iastore, 1, 0, 0, 0, 0) ∧ zc_X6_cutLeaf.find? (fun r => r.1 == 69) = some (69, .aload_n 0, 1, 0, 0, 0, 0) ∧ zc_X6_cutLeaf.find? (fun r => r.1 == 70) = some (70, .getfield 55, 3, 6, 17, 896, 0) ∧ zc_X6_cutLeaf.find? (fun r => r.1 == 73) = some (73, .iload_n 1, 1, 0, 0, 0, 0) ∧ zc_X6_cutLeaf.find? (fun r => r.1 == 74) = some (74, .iload 8, 2, 0, 0, 0, 0) ∧ zc_X6_cutLeaf.find? (fun r => r.1 == 76) = some (76, .invokestatic 105, 3, 70, 2, 991, 0) ∧ zc_X6_cutLeaf.find? (fun r => r.1 == 79) = some (79, .bipush 50, 2, 0, 0, 0, 0) ∧ zc_X6_cutLeaf.find? (fun r => r.1 == 81) = some (81, .iastore, 1, 0, 0, 0, 0) ∧ zc_X6_cutLeaf.find? (fun r => r.1 == 82) = some (82, .aload_n 0, 1, 0, 0, 0, 0) ∧ zc_X6_cutLeaf.find? (fun r => r.1 == 83) = some (83, .iload_n 1, 1, 0, 0, 0, 0) ∧ zc_X6_cutLeaf.find? (fun r => r.1 == 84) = some (84, .iload 6, 2, 0, 0, 0, 0) ∧ zc_X6_cutLeaf.find? (fun r => r.1 == 86) = some (86, .iload_n 2, 1, 0, 0, 0, 0) ∧ zc_X6_cutLeaf.find? (fun r => r.1 == 87) = some (87, .iload 8, 2, 0, 0, 0, 0) ∧ zc_X6_cutLeaf.find? (fun r => r.1 == 89) = some (89, .invokevirtual 122, 3, 175, 5, 1042, 6) ∧ zc_X6_cutLeaf.find? (fun r => r.1 == 92) = some (92, .return_, 1, 0, 0, 0, 0) := zi_fdi (zc := zc_X6_cutLeaf) (by decide +kernel)
set_option maxRecDepth 100000 in
theorem zf_X6_least : zc_X6_least.find? (fun r => r.1 == 0) = some (0, .iload_n 1, 1, 0, 0, 0, 0) ∧ zc_X6_least.find? (fun r => r.1 == 1) = some (1, .iload_n 2, 1, 0, 0, 0, 0) ∧ zc_X6_least.find? (fun r => r.1 == 2) = some (2, .invokestatic 105, 3, 70, 2, 991, 0) ∧ zc_X6_least.find? (fun r => r.1 == 5) = some (5, .istore 4, 2, 0, 0, 0, 0) ∧ zc_X6_least.find? (fun r => r.1 == 7) = some (7, .aload_n 0, 1, 0, 0, 0, 0) ∧ zc_X6_least.find? (fun r => r.1 == 8) = some (8, .getfield 46, 3, 6, 14, 893, 0) ∧ zc_X6_least.find? (fun r => r.1 == 11) = some (11, .iload 4, 2, 0, 0, 0, 0) ∧ zc_X6_least.find? (fun r => r.1 == 13) = some (13, .iaload, 1, 0, 0, 0, 0) ∧ zc_X6_least.find? (fun r => r.1 == 14) = some (14, .iconst 1, 1, 0, 0, 0, 0) ∧ zc_X6_least.find? (fun r => r.1 == 15) = some (15, .if_icmp .ne 91, 3, 106, 0, 0, 0) ∧ zc_X6_least.find? (fun r => r.1 == 18) = some (18, .iconst 0, 1, 0, 0, 0, 0) ∧ zc_X6_least.find? (fun r => r.1 == 19) = some (19, .istore 5, 2, 0, 0, 0, 0) ∧ zc_X6_least.find? (fun r => r.1 == 21) = some (21, .iconst 0, 1, 0, 0, 0, 0) ∧ zc_X6_least.find? (fun r => r.1 == 22) = some (22, .istore 6, 2, 0, 0, 0, 0) ∧ zc_X6_least.find? (fun r => r.1 == 24) = some (24, .iload 6, 2, 0, 0, 0, 0) ∧ zc_X6_least.find? (fun r => r.1 == 26) = some (26, .aload_n 0, 1, 0, 0, 0, 0) ∧ zc_X6_least.find? (fun r => r.1 == 27) = some (27, .getfield 61, 3, 6, 19, 898, 0) ∧ zc_X6_least.find? (fun r => r.1 == 30) = some (30, .iload 4, 2, 0, 0, 0, 0) ∧ zc_X6_least.find? (fun r => r.1 == 32) = some (32, .iaload, 1, 0, 0, 0, 0) ∧ zc_X6_least.find? (fun r => r.1 == 33) = some (33, .if_icmp .ge 70, 3, 103, 0, 0, 0) ∧ zc_X6_least.find? (fun r => r.1 == 36) = some (36, .iload_n 3, 1, 0, 0, 0, 0) ∧ zc_X6_least.find? (fun r => r.1 == 37) = some (37, .ifCond .eq 24, 3, 61, 0, 0, 0) ∧ zc_X6_least.find? (fun r => r.1 == 40) = some (40, .aload_n 0, 1, 0, 0, 0, 0) ∧ zc_X6_least.find? (fun r => r.1 == 41) = some (41, .getfield 19, 3, 6, 3, 882, 0) ∧ zc_X6_least.find? (fun r => r.1 == 44) = some (44, .aload_n 0, 1, 0, 0, 0, 0) ∧ zc_X6_least.find? (fun r => r.1 == 45) = some (45, .getfield 58, 3, 6, 18, 897, 0) ∧ zc_X6_least.find? (fun r => r.1 == 48) = some (48, .bipush 10, 2, 0, 0, 0, 0) ∧ zc_X6_least.find? (fun r => r.1 == 50) = some (50, .iload 4, 2, 0, 0, 0, 0) ∧ zc_X6_least.find? (fun r => r.1 == 52) = some (52, .imul, 1, 0, 0, 0, 0) ∧ zc_X6_least.find? (fun r => r.1 == 53) = some (53, .iload 6, 2, 0, 0, 0, 0) ∧ zc_X6_least.find? (fun r => r.1 == 55) = some (55, .iadd, 1, 0, 0, 0, 0) ∧ zc_X6_least.find? (fun r => r.1 == 56) = some (56, .iaload, 1, 0, 0, 0, 0) ∧ zc_X6_least.find? (fun r => r.1 == 57) = some (57, .iaload, 1, 0, 0, 0, 0) ∧ zc_X6_least.find? (fun r => r.1 == 58) = some (58, .goto 21, 3, 79, 0, 0, 0) ∧ zc_X6_least.find? (fun r => r.1 == 61) = some (61, .aload_n 0, 1, 0, 0, 0, 0) ∧ zc_X6_least.find? (fun r => r.1 == 62) = some (62, .getfield 22, 3, 6, 4, 883, 0) ∧ zc_X6_least.find? (fun r => r.1 == 65) = some (65, .aload_n 0, 1, 0, 0, 0, 0) ∧ zc_X6_least.find? (fun r => r.1 == 66) = some (66, .getfield 58, 3, 6, 18, 897, 0) ∧ zc_X6_least.find? (fun r => r.1 == 69) = some (69, .bipush 10, 2, 0, 0, 0, 0) ∧ zc_X6_least.find? (fun r => r.1 == 71) = some (71, .iload 4, 2, 0, 0, 0, 0) ∧ zc_X6_least.find? (fun r => r.1 == 73) = some (73, .imul, 1, 0, 0, 0, 0) ∧ zc_X6_least.find? (fun r => r.1 == 74) = some (74, .iload 6, 2, 0, 0, 0, 0) ∧ zc_X6_least.find? (fun r => r.1 == 76) = some (76, .iadd, 1, 0, 0, 0, 0) ∧ zc_X6_least.find? (fun r => r.1 == 77) = some (77, .iaload, 1, 0, 0, 0, 0) ∧ zc_X6_least.find? (fun r => r.1 == 78) = some (78, .iaload, 1, 0, 0, 0, 0) ∧ zc_X6_least.find? (fun r => r.1 == 79) = some (79, .istore 7, 2, 0, 0, 0, 0) ∧ zc_X6_least.find? (fun r => r.1 == 81) = some (81, .iload 7, 2, 0, 0, 0, 0) ∧ zc_X6_least.find? (fun r => r.1 == 83) = some (83, .iload 5, 2, 0, 0, 0, 0) ∧ zc_X6_least.find? (fun r => r.1 == 85) = some (85, .if_icmp .le 8, 3, 93, 0, 0, 0) ∧ zc_X6_least.find? (fun r => r.1 == 88) = some (88, .iload 7, 2, 0, 0, 0, 0) ∧ zc_X6_least.find? (fun r => r.1 == 90) = some (90, .goto 5, 3, 95, 0, 0, 0) ∧ zc_X6_least.find? (fun r => r.1 == 93) = some (93, .iload 5, 2, 0, 0, 0, 0) ∧ zc_X6_least.find? (fun r => r.1 == 95) = some (95, .istore 5, 2, 0, 0, 0, 0) ∧ zc_X6_least.find? (fun r => r.1 == 97) = some (97, .iinc 6 1, 3, 0, 0, 0, 0) ∧ zc_X6_least.find? (fun r => r.1 == 100) = some (100, .goto (-76), 3, 24, 0, 0, 0) ∧ zc_X6_least.find? (fun r => r.1 == 103) = some (103, .iload 5, 2, 0, 0, 0, 0) ∧ zc_X6_least.find? (fun r => r.1 == 105) = some (105, .ireturn, 1, 0, 0, 0, 0) ∧ zc_X6_least.find? (fun r => r.1 == 106) = some (106, .aload_n 0, 1, 0, 0, 0, 0) ∧ zc_X6_least.find? (fun r => r.1 == 107) = some (107, .iload_n 1, 1, 0, 0, 0, 0) ∧ zc_X6_least.find? (fun r => r.1 == 108) = some (108, .aload_n 0, 1, 0, 0, 0, 0) ∧ zc_X6_least.find? (fun r => r.1 == 109) = some (109, .getfield 49, 3, 6, 15, 894, 0) ∧ zc_X6_least.find? (fun r => r.1 == 112) = some (112, .iload 4, 2, 0, 0, 0, 0) ∧ zc_X6_least.find? (fun r => r.1 == 114) = some (114, .iaload, 1, 0, 0, 0, 0) ∧ zc_X6_least.find? (fun r => r.1 == 115) = some (115, .iload_n 3, 1, 0, 0, 0, 0) ∧ zc_X6_least.find? (fun r => r.1 == 116) = some (116, .invokevirtual 129, 3, 178, 4, 1006, 6) ∧ zc_X6_least.find? (fun r => r.1 == 119) = some (119, .istore 5, 2, 0, 0, 0, 0) ∧ zc_X6_least.find? (fun r => r.1 == 121) = some (121, .aload_n 0, 1, 0, 0, 0, 0) ∧ zc_X6_least.find? (fun r => r.1 == 122) = some (122, .iload_n 1, 1, 0, 0, 0, 0) ∧ zc_X6_least.find? (fun r => r.1 == 123) = some (123, .aload_n 0, 1, 0, 0, 0, 0) ∧ zc_X6_least.find? (fun r => r.1 == 124) = some (124, .getfield 52, 3, 6, 16, 895, 0) ∧ zc_X6_least.find? (fun r => r.1 == 127) = some (127, .iload 4, 2, 0, 0, 0, 0) ∧ zc_X6_least.find? (fun r => r.1 == 129) = some (129, .iaload, 1, 0, 0, 0, 0) ∧ zc_X6_least.find? (fun r => r.1 == 130) = some (130, .iload_n 3, 1, 0, 0, 0, 0) ∧ zc_X6_least.find? (fun r => r.1 == 131) = some (131, .invokevirtual 129, 3, 178, 4, 1006, 6) ∧ zc_X6_least.find? (fun r => r.1 == 134) = some (134, .istore 6, 2, 0, 0, 0, 0) ∧ zc_X6_least.find? (fun r => r.1 == 136) = some (136, .aload_n 0, 1, 0, 0, 0, 0) ∧ zc_X6_least.find? (fun r => r.1 == 137) = some (137, .getfield 46, 3, 6, 14, 893, 0) ∧ zc_X6_least.find? (fun r => r.1 == 140) = some (140, .iload 4, 2, 0, 0, 0, 0) ∧ zc_X6_least.find? (fun r => r.1 == 142) = some (142, .iaload, 1, 0, 0, 0, 0) ∧ zc_X6_least.find? (fun r => r.1 == 143) = some (143, .iconst 2, 1, 0, 0, 0, 0) ∧ zc_X6_least.find? (fun r => r.1 == 144) = some (144, .if_icmp .ne 7, 3, 151, 0, 0, 0) ∧ zc_X6_least.find? (fun r => r.1 == 147) = some (147, .iconst 1, 1, 0, 0, 0, 0) ∧ zc_X6_least.find? (fun r => r.1 == 148) = some (148, .goto 4, 3, 152, 0, 0, 0) ∧ zc_X6_least.find? (fun r => r.1 == 151) = some (151, .iconst 0, 1, 0, 0, 0, 0) ∧ zc_X6_least.find? (fun r => r.1 == 152) = some (152, .iload_n 3, 1, 0, 0, 0, 0) ∧ zc_X6_least.find? (fun r => r.1 == 153) = some (153, .if_icmp .ne 11, 3, 164, 0, 0, 0) ∧ zc_X6_least.find? (fun r => r.1 == 156) = some (156, .iload 5, 2, 0, 0, 0, 0) ∧ zc_X6_least.find? (fun r => r.1 == 158) = some (158, .iload 6, 2, 0, 0, 0, 0) ∧ zc_X6_least.find? (fun r => r.1 == 160) = some (160, .iadd, 1, 0, 0, 0, 0) ∧ zc_X6_least.find? (fun r => r.1 == 161) = some (161, .goto 17, 3, 178, 0, 0, 0) ∧ zc_X6_least.find? (fun r => r.1 == 164) = some (164, .iload 5, 2, 0, 0, 0, 0) ∧ zc_X6_least.find? (fun r => r.1 == 166) = some (166, .iload 6, 2, 0, 0, 0, 0) ∧ zc_X6_least.find? (fun r => r.1 == 168) = some (168, .if_icmp .le 8, 3, 176, 0, 0, 0) ∧ zc_X6_least.find? (fun r => r.1 == 171) = some (171, .iload 5, 2, 0, 0, 0, 0) ∧ zc_X6_least.find? (fun r => r.1 == 173) = some (173, .goto 5, 3, 178, 0, 0, 0) ∧ zc_X6_least.find? (fun r => r.1 == 176) = some (176, .iload 6, 2, 0, 0, 0, 0) ∧ zc_X6_least.find? (fun r => r.1 == 178) = some (178, .ireturn, 1, 0, 0, 0, 0) := zi_fdi (zc := zc_X6_least) (by decide +kernel)
set_option maxRecDepth 100000 in
theorem zf_X6_fits : zc_X6_fits.find? (fun r => r.1 == 0) = some (0, .aload_n 0, 1, 0, 0, 0, 0) ∧ zc_X6_fits.find? (fun r => r.1 == 1) = some (1, .getfield 43, 3, 6, 13, 892, 0) ∧ zc_X6_fits.find? (fun r => r.1 == 4) = some (4, .iload_n 1, 1, 0, 0, 0, 0) ∧ zc_X6_fits.find? (fun r => r.1 == 5) = some (5, .iaload, 1, 0, 0, 0, 0) ∧ zc_X6_fits.find? (fun r => r.1 == 6) = some (6, .ifCond .lt 35, 3, 41, 0, 0, 0) ∧ zc_X6_fits.find? (fun r => r.1 == 9) = some (9, .aload_n 0, 1, 0, 0, 0, 0) ∧ zc_X6_fits.find? (fun r => r.1 == 10) = some (10, .iload_n 1, 1, 0, 0, 0, 0) ∧ zc_X6_fits.find? (fun r => r.1 == 11) = some (11, .aload_n 0, 1, 0, 0, 0, 0) ∧ zc_X6_fits.find? (fun r => r.1 == 12) = some (12, .getfield 43, 3, 6, 13, 892, 0) ∧ zc_X6_fits.find? (fun r => r.1 == 15) = some (15, .iload_n 1, 1, 0, 0, 0, 0) ∧ zc_X6_fits.find? (fun r => r.1 == 16) = some (16, .iaload, 1, 0, 0, 0, 0) ∧ zc_X6_fits.find? (fun r => r.1 == 17) = some (17, .iconst 1, 1, 0, 0, 0, 0) ∧ zc_X6_fits.find? (fun r => r.1 == 18) = some (18, .invokevirtual 129, 3, 178, 4, 1006, 6) ∧ zc_X6_fits.find? (fun r => r.1 == 21) = some (21, .iload_n 2, 1, 0, 0, 0, 0) ∧ zc_X6_fits.find? (fun r => r.1 == 22) = some (22, .if_icmp .gt 23, 3, 45, 0, 0, 0) ∧ zc_X6_fits.find? (fun r => r.1 == 25) = some (25, .aload_n 0, 1, 0, 0, 0, 0) ∧ zc_X6_fits.find? (fun r => r.1 == 26) = some (26, .iload_n 1, 1, 0, 0, 0, 0) ∧ zc_X6_fits.find? (fun r => r.1 == 27) = some (27, .aload_n 0, 1, 0, 0, 0, 0) ∧ zc_X6_fits.find? (fun r => r.1 == 28) = some (28, .getfield 43, 3, 6, 13, 892, 0) ∧ zc_X6_fits.find? (fun r => r.1 == 31) = some (31, .iload_n 1, 1, 0, 0, 0, 0) ∧ zc_X6_fits.find? (fun r => r.1 == 32) = some (32, .iaload, 1, 0, 0, 0, 0) ∧ zc_X6_fits.find? (fun r => r.1 == 33) = some (33, .iconst 0, 1, 0, 0, 0, 0) ∧ zc_X6_fits.find? (fun r => r.1 == 34) = some (34, .invokevirtual 129, 3, 178, 4, 1006, 6) ∧ zc_X6_fits.find? (fun r => r.1 == 37) = some (37, .iload_n 3, 1, 0, 0, 0, 0) ∧ zc_X6_fits.find? (fun r => r.1 == 38) = some (38, .if_icmp .gt 7, 3, 45, 0, 0, 0) ∧ zc_X6_fits.find? (fun r => r.1 == 41) = some (41, .iconst 1, 1, 0, 0, 0, 0) ∧ zc_X6_fits.find? (fun r => r.1 == 42) = some (42, .goto 4, 3, 46, 0, 0, 0) ∧ zc_X6_fits.find? (fun r => r.1 == 45) = some (45, .iconst 0, 1, 0, 0, 0, 0) ∧ zc_X6_fits.find? (fun r => r.1 == 46) = some (46, .ireturn, 1, 0, 0, 0, 0) := zi_fdi (zc := zc_X6_fits) (by decide +kernel)
set_option maxRecDepth 100000 in
theorem zf_X6_lay : zc_X6_lay.find? (fun r => r.1 == 0) = some (0, .iload_n 1, 1, 0, 0, 0, 0) ∧ zc_X6_lay.find? (fun r => r.1 == 1) = some (1, .iload_n 2, 1, 0, 0, 0, 0) ∧ zc_X6_lay.find? (fun r => r.1 == 2) = some (2, .invokestatic 105, 3, 70, 2, 991, 0) ∧ zc_X6_lay.find? (fun r => r.1 == 5) = some (5, .istore 7, 2, 0, 0, 0, 0) ∧ zc_X6_lay.find? (fun r => r.1 == 7) = some (7, .aload_n 0, 1, 0, 0, 0, 0) ∧ zc_X6_lay.find? (fun r => r.1 == 8) = some (8, .getfield 80, 3, 6, 25, 904, 0) ∧ zc_X6_lay.find? (fun r => r.1 == 11) = some (11, .iload_n 2, 1, 0, 0, 0, 0) ∧ zc_X6_lay.find? (fun r => r.1 == 12) = some (12, .iload_n 3, 1, 0, 0, 0, 0) ∧ zc_X6_lay.find? (fun r => r.1 == 13) = some (13, .iastore, 1, 0, 0, 0, 0) ∧ zc_X6_lay.find? (fun r => r.1 == 14) = some (14, .aload_n 0, 1, 0, 0, 0, 0) ∧ zc_X6_lay.find? (fun r => r.1 == 15) = some (15, .getfield 83, 3, 6, 26, 905, 0) ∧ zc_X6_lay.find? (fun r => r.1 == 18) = some (18, .iload_n 2, 1, 0, 0, 0, 0) ∧ zc_X6_lay.find? (fun r => r.1 == 19) = some (19, .iload 4, 2, 0, 0, 0, 0) ∧ zc_X6_lay.find? (fun r => r.1 == 21) = some (21, .iastore, 1, 0, 0, 0, 0) ∧ zc_X6_lay.find? (fun r => r.1 == 22) = some (22, .aload_n 0, 1, 0, 0, 0, 0) ∧ zc_X6_lay.find? (fun r => r.1 == 23) = some (23, .getfield 86, 3, 6, 27, 906, 0) ∧ zc_X6_lay.find? (fun r => r.1 == 26) = some (26, .iload_n 2, 1, 0, 0, 0, 0) ∧ zc_X6_lay.find? (fun r => r.1 == 27) = some (27, .iload 5, 2, 0, 0, 0, 0) ∧ zc_X6_lay.find? (fun r => r.1 == 29) = some (29, .iastore, 1, 0, 0, 0, 0) ∧ zc_X6_lay.find? (fun r => r.1 == 30) = some (30, .aload_n 0, 1, 0, 0, 0, 0) ∧ zc_X6_lay.find? (fun r => r.1 == 31) = some (31, .getfield 89, 3, 6, 28, 907, 0) ∧ zc_X6_lay.find? (fun r => r.1 == 34) = some (34, .iload_n 2, 1, 0, 0, 0, 0) ∧ zc_X6_lay.find? (fun r => r.1 == 35) = some (35, .iload 6, 2, 0, 0, 0, 0) ∧ zc_X6_lay.find? (fun r => r.1 == 37) = some (37, .iastore, 1, 0, 0, 0, 0) ∧ zc_X6_lay.find? (fun r => r.1 == 38) = some (38, .aload_n 0, 1, 0, 0, 0, 0) ∧ zc_X6_lay.find? (fun r => r.1 == 39) = some (39, .getfield 46, 3, 6, 14, 893, 0) ∧ zc_X6_lay.find? (fun r => r.1 == 42) = some (42, .iload 7, 2, 0, 0, 0, 0) ∧ zc_X6_lay.find? (fun r => r.1 == 44) = some (44, .iaload, 1, 0, 0, 0, 0) ∧ zc_X6_lay.find? (fun r => r.1 == 45) = some (45, .iconst 1, 1, 0, 0, 0, 0) ∧ zc_X6_lay.find? (fun r => r.1 == 46) = some (46, .if_icmp .ne 24, 3, 70, 0, 0, 0) ∧ zc_X6_lay.find? (fun r => r.1 == 49) = some (49, .aload_n 0, 1, 0, 0, 0, 0) ∧ zc_X6_lay.find? (fun r => r.1 == 50) = some (50, .getfield 92, 3, 6, 29, 908, 0) ∧ zc_X6_lay.find? (fun r => r.1 == 53) = some (53, .aload_n 0, 1, 0, 0, 0, 0) ∧ zc_X6_lay.find? (fun r => r.1 == 54) = some (54, .getfield 133, 3, 6, 30, 909, 0) ∧ zc_X6_lay.find? (fun r => r.1 == 57) = some (57, .iload_n 2, 1, 0, 0, 0, 0) ∧ zc_X6_lay.find? (fun r => r.1 == 58) = some (58, .iastore, 1, 0, 0, 0, 0) ∧ zc_X6_lay.find? (fun r => r.1 == 59) = some (59, .aload_n 0, 1, 0, 0, 0, 0) ∧ zc_X6_lay.find? (fun r => r.1 == 60) = some (60, .dup, 1, 0, 0, 0, 0) ∧ zc_X6_lay.find? (fun r => r.1 == 61) = some (61, .getfield 133, 3, 6, 30, 909, 0) ∧ zc_X6_lay.find? (fun r => r.1 == 64) = some (64, .iconst 1, 1, 0, 0, 0, 0) ∧ zc_X6_lay.find? (fun r => r.1 == 65) = some (65, .iadd, 1, 0, 0, 0, 0) ∧ zc_X6_lay.find? (fun r => r.1 == 66) = some (66, .putfield 133, 3, 6, 30, 909, 0) ∧ zc_X6_lay.find? (fun r => r.1 == 69) = some (69, .return_, 1, 0, 0, 0, 0) ∧ zc_X6_lay.find? (fun r => r.1 == 70) = some (70, .aload_n 0, 1, 0, 0, 0, 0) ∧ zc_X6_lay.find? (fun r => r.1 == 71) = some (71, .getfield 46, 3, 6, 14, 893, 0) ∧ zc_X6_lay.find? (fun r => r.1 == 74) = some (74, .iload 7, 2, 0, 0, 0, 0) ∧ zc_X6_lay.find? (fun r => r.1 == 76) = some (76, .iaload, 1, 0, 0, 0, 0) ∧ zc_X6_lay.find? (fun r => r.1 == 77) = some (77, .iconst 2, 1, 0, 0, 0, 0) ∧ zc_X6_lay.find? (fun r => r.1 == 78) = some (78, .if_icmp .ne 7, 3, 85, 0, 0, 0) ∧ zc_X6_lay.find? (fun r => r.1 == 81) = some (81, .iconst 1, 1, 0, 0, 0, 0) ∧ zc_X6_lay.find? (fun r => r.1 == 82) = some (82, .goto 4, 3, 86, 0, 0, 0) ∧ zc_X6_lay.find? (fun r => r.1 == 85) = some (85, .iconst 0, 1, 0, 0, 0, 0) ∧ zc_X6_lay.find? (fun r => r.1 == 86) = some (86, .istore 8, 2, 0, 0, 0, 0) ∧ zc_X6_lay.find? (fun r => r.1 == 88) = some (88, .iload 8, 2, 0, 0, 0, 0) ∧ zc_X6_lay.find? (fun r => r.1 == 90) = some (90, .ifCond .eq 8, 3, 98, 0, 0, 0) ∧ zc_X6_lay.find? (fun r => r.1 == 93) = some (93, .iload 5, 2, 0, 0, 0, 0) ∧ zc_X6_lay.find? (fun r => r.1 == 95) = some (95, .goto 5, 3, 100, 0, 0, 0) ∧ zc_X6_lay.find? (fun r => r.1 == 98) = some (98, .iload 6, 2, 0, 0, 0, 0) ∧ zc_X6_lay.find? (fun r => r.1 == 100) = some (100, .istore 9, 2, 0, 0, 0, 0) ∧ zc_X6_lay.find? (fun r => r.1 == 102) = some (102, .iload 9, 2, 0, 0, 0, 0) ∧ zc_X6_lay.find? (fun r => r.1 == 104) = some (104, .aload_n 0, 1, 0, 0, 0, 0) ∧ zc_X6_lay.find? (fun r => r.1 == 105) = some (105, .getfield 55, 3, 6, 17, 896, 0) ∧ zc_X6_lay.find? (fun r => r.1 == 108) = some (108, .iload 7, 2, 0, 0, 0, 0) ∧ zc_X6_lay.find? (fun r => r.1 == 110) = some (110, .iaload, 1, 0, 0, 0, 0) ∧ zc_X6_lay.find? (fun r => r.1 == 111) = some (111, .imul, 1, 0, 0, 0, 0) ∧ zc_X6_lay.find? (fun r => r.1 == 112) = some (112, .bipush 100, 2, 0, 0, 0, 0) ∧ zc_X6_lay.find? (fun r => r.1 == 114) = some (114, .idiv, 1, 0, 0, 0, 0) ∧ zc_X6_lay.find? (fun r => r.1 == 115) = some (115, .istore 10, 2, 0, 0, 0, 0) ∧ zc_X6_lay.find? (fun r => r.1 == 117) = some (117, .iload 9, 2, 0, 0, 0, 0) ∧ zc_X6_lay.find? (fun r => r.1 == 119) = some (119, .aload_n 0, 1, 0, 0, 0, 0) ∧ zc_X6_lay.find? (fun r => r.1 == 120) = some (120, .iload_n 1, 1, 0, 0, 0, 0) ∧ zc_X6_lay.find? (fun r => r.1 == 121) = some (121, .aload_n 0, 1, 0, 0, 0, 0) ∧ zc_X6_lay.find? (fun r => r.1 == 122) = some (122, .getfield 52, 3, 6, 16, 895, 0) ∧ zc_X6_lay.find? (fun r => r.1 == 125) = some (125, .iload 7, 2, 0, 0, 0, 0) ∧ zc_X6_lay.find? (fun r => r.1 == 127) = some (127, .iaload, 1, 0, 0, 0, 0) ∧ zc_X6_lay.find? (fun r => r.1 == 128) = some (128, .iload 8, 2, 0, 0, 0, 0) ∧ zc_X6_lay.find? (fun r => r.1 == 130) = some (130, .invokevirtual 129, 3, 178, 4, 1006, 6) ∧ zc_X6_lay.find? (fun r => r.1 == 133) = some (133, .isub, 1, 0, 0, 0, 0) ∧ zc_X6_lay.find? (fun r => r.1 == 134) = some (134, .istore 11, 2, 0, 0, 0, 0) ∧ zc_X6_lay.find? (fun r => r.1 == 136) = some (136, .aload_n 0, 1, 0, 0, 0, 0) ∧ zc_X6_lay.find? (fun r => r.1 == 137) = some (137, .iload_n 1, 1, 0, 0, 0, 0) ∧ zc_X6_lay.find? (fun r => r.1 == 138) = some (138, .aload_n 0, 1, 0, 0, 0, 0) ∧ zc_X6_lay.find? (fun r => r.1 == 139) = some (139, .getfield 49, 3, 6, 15, 894, 0) ∧ zc_X6_lay.find? (fun r => r.1 == 142) = some (142, .iload 7, 2, 0, 0, 0, 0) ∧ zc_X6_lay.find? (fun r => r.1 == 144) = some (144, .iaload, 1, 0, 0, 0, 0) ∧ zc_X6_lay.find? (fun r => r.1 == 145) = some (145, .iload 8, 2, 0, 0, 0, 0) ∧ zc_X6_lay.find? (fun r => r.1 == 147) = some (147, .invokevirtual 129, 3, 178, 4, 1006, 6) ∧ zc_X6_lay.find? (fun r => r.1 == 150) = some (150, .istore 12, 2, 0, 0, 0, 0) ∧ zc_X6_lay.find? (fun r => r.1 == 152) = some (152, .iload 10, 2, 0, 0, 0, 0) ∧ zc_X6_lay.find? (fun r => r.1 == 154) = some (154, .iload 11, 2, 0, 0, 0, 0) ∧ zc_X6_lay.find? (fun r => r.1 == 156) = some (156, .if_icmp .le 8, 3, 164, 0, 0, 0) ∧ zc_X6_lay.find? (fun r => r.1 == 159) = some (159, .iload 11, 2, 0, 0, 0, 0) ∧ zc_X6_lay.find? (fun r => r.1 == 161) = some (161, .goto 5, 3, 166, 0, 0, 0) ∧ zc_X6_lay.find? (fun r => r.1 == 164) = some (164, .iload 10, 2, 0, 0, 0, 0) ∧ zc_X6_lay.find? (fun r => r.1 == 166) = some (166, .istore 10, 2, 0, 0, 0, 0) ∧ zc_X6_lay.find? (fun r => r.1 == 168) = some (168, .iload 10, 2, 0, 0, 0, 0) ∧ zc_X6_lay.find? (fun r => r.1 == 170) = some (170, .iload 12, 2, 0, 0, 0, 0) ∧ zc_X6_lay.find? (fun r => r.1 == 172) = some (172, .if_icmp .ge 8, 3, 180, 0, 0, 0) ∧ zc_X6_lay.find? (fun r => r.1 == 175) = some (175, .iload 12, 2, 0, 0, 0, 0) ∧ zc_X6_lay.find? (fun r => r.1 == 177) = some (177, .goto 5, 3, 182, 0, 0, 0) ∧ zc_X6_lay.find? (fun r => r.1 == 180) = some (180, .iload 10, 2, 0, 0, 0, 0) ∧ zc_X6_lay.find? (fun r => r.1 == 182) = some (182, .istore 10, 2, 0, 0, 0, 0) ∧ zc_X6_lay.find? (fun r => r.1 == 184) = some (184, .iload 8, 2, 0, 0, 0, 0) ∧ zc_X6_lay.find? (fun r => r.1 == 186) = some (186, .ifCond .eq 50, 3, 236, 0, 0, 0) ∧ zc_X6_lay.find? (fun r => r.1 == 189) = some (189, .aload_n 0, 1, 0, 0, 0, 0) ∧ zc_X6_lay.find? (fun r => r.1 == 190) = some (190, .iload_n 1, 1, 0, 0, 0, 0) ∧ zc_X6_lay.find? (fun r => r.1 == 191) = some (191, .aload_n 0, 1, 0, 0, 0, 0) ∧ zc_X6_lay.find? (fun r => r.1 == 192) = some (192, .getfield 49, 3, 6, 15, 894, 0) ∧ zc_X6_lay.find? (fun r => r.1 == 195) = some (195, .iload 7, 2, 0, 0, 0, 0) ∧ zc_X6_lay.find? (fun r => r.1 == 197) = some (197, .iaload, 1, 0, 0, 0, 0) ∧ zc_X6_lay.find? (fun r => r.1 == 198) = some (198, .iload_n 3, 1, 0, 0, 0, 0) ∧ zc_X6_lay.find? (fun r => r.1 == 199) = some (199, .iload 4, 2, 0, 0, 0, 0) ∧ zc_X6_lay.find? (fun r => r.1 == 201) = some (201, .iload 10, 2, 0, 0, 0, 0) ∧ zc_X6_lay.find? (fun r => r.1 == 203) = some (203, .iload 6, 2, 0, 0, 0, 0) ∧ zc_X6_lay.find? (fun r => r.1 == 205) = some (205, .invokevirtual 137, 3, 180, 7, 1111, 6) ∧ zc_X6_lay.find? (fun r => r.1 == 208) = some (208, .aload_n 0, 1, 0, 0, 0, 0) ∧ zc_X6_lay.find? (fun r => r.1 == 209) = some (209, .iload_n 1, 1, 0, 0, 0, 0) ∧ zc_X6_lay.find? (fun r => r.1 == 210) = some (210, .aload_n 0, 1, 0, 0, 0, 0) ∧ zc_X6_lay.find? (fun r => r.1 == 211) = some (211, .getfield 52, 3, 6, 16, 895, 0) ∧ zc_X6_lay.find? (fun r => r.1 == 214) = some (214, .iload 7, 2, 0, 0, 0, 0) ∧ zc_X6_lay.find? (fun r => r.1 == 216) = some (216, .iaload, 1, 0, 0, 0, 0) ∧ zc_X6_lay.find? (fun r => r.1 == 217) = some (217, .iload_n 3, 1, 0, 0, 0, 0) ∧ zc_X6_lay.find? (fun r => r.1 == 218) = some (218, .iload 10, 2, 0, 0, 0, 0) ∧ zc_X6_lay.find? (fun r => r.1 == 220) = some (220, .iadd, 1, 0, 0, 0, 0) ∧ zc_X6_lay.find? (fun r => r.1 == 221) = some (221, .iload 4, 2, 0, 0, 0, 0) ∧ zc_X6_lay.find? (fun r => r.1 == 223) = some (223, .iload 5, 2, 0, 0, 0, 0) ∧ zc_X6_lay.find? (fun r => r.1 == 225) = some (225, .iload 10, 2, 0, 0, 0, 0) ∧ zc_X6_lay.find? (fun r => r.1 == 227) = some (227, .isub, 1, 0, 0, 0, 0) ∧ zc_X6_lay.find? (fun r => r.1 == 228) = some (228, .iload 6, 2, 0, 0, 0, 0) ∧ zc_X6_lay.find? (fun r => r.1 == 230) = some (230, .invokevirtual 137, 3, 180, 7, 1111, 6) ∧ zc_X6_lay.find? (fun r => r.1 == 233) = some (233, .goto 47, 3, 280, 0, 0, 0) ∧ zc_X6_lay.find? (fun r => r.1 == 236) = some (236, .aload_n 0, 1, 0, 0, 0, 0) ∧ zc_X6_lay.find? (fun r => r.1 == 237) = some (237, .iload_n 1, 1, 0, 0, 0, 0) ∧ zc_X6_lay.find? (fun r => r.1 == 238) = some (238, .aload_n 0, 1, 0, 0, 0, 0) ∧ zc_X6_lay.find? (fun r => r.1 == 239) = some (239, .getfield 49, 3, 6, 15, 894, 0) ∧ zc_X6_lay.find? (fun r => r.1 == 242) = some (242, .iload 7, 2, 0, 0, 0, 0) ∧ zc_X6_lay.find? (fun r => r.1 == 244) = some (244, .iaload, 1, 0, 0, 0, 0) ∧ zc_X6_lay.find? (fun r => r.1 == 245) = some (245, .iload_n 3, 1, 0, 0, 0, 0) ∧ zc_X6_lay.find? (fun r => r.1 == 246) = some (246, .iload 4, 2, 0, 0, 0, 0) ∧ zc_X6_lay.find? (fun r => r.1 == 248) = some (248, .iload 5, 2, 0, 0, 0, 0) ∧ zc_X6_lay.find? (fun r => r.1 == 250) = some (250, .iload 10, 2, 0, 0, 0, 0) ∧ zc_X6_lay.find? (fun r => r.1 == 252) = some (252, .invokevirtual 137, 3, 180, 7, 1111, 6) ∧ zc_X6_lay.find? (fun r => r.1 == 255) = some (255, .aload_n 0, 1, 0, 0, 0, 0) ∧ zc_X6_lay.find? (fun r => r.1 == 256) = some (256, .iload_n 1, 1, 0, 0, 0, 0) ∧ zc_X6_lay.find? (fun r => r.1 == 257) = some (257, .aload_n 0, 1, 0, 0, 0, 0) ∧ zc_X6_lay.find? (fun r => r.1 == 258) = some (258, .getfield 52, 3, 6, 16, 895, 0) ∧ zc_X6_lay.find? (fun r => r.1 == 261) = some (261, .iload 7, 2, 0, 0, 0, 0) ∧ zc_X6_lay.find? (fun r => r.1 == 263) = some (263, .iaload, 1, 0, 0, 0, 0) ∧ zc_X6_lay.find? (fun r => r.1 == 264) = some (264, .iload_n 3, 1, 0, 0, 0, 0) ∧ zc_X6_lay.find? (fun r => r.1 == 265) = some (265, .iload 4, 2, 0, 0, 0, 0) ∧ zc_X6_lay.find? (fun r => r.1 == 267) = some (267, .iload 10, 2, 0, 0, 0, 0) ∧ zc_X6_lay.find? (fun r => r.1 == 269) = some (269, .iadd, 1, 0, 0, 0, 0) ∧ zc_X6_lay.find? (fun r => r.1 == 270) = some (270, .iload 5, 2, 0, 0, 0, 0) ∧ zc_X6_lay.find? (fun r => r.1 == 272) = some (272, .iload 6, 2, 0, 0, 0, 0) ∧ zc_X6_lay.find? (fun r => r.1 == 274) = some (274, .iload 10, 2, 0, 0, 0, 0) ∧ zc_X6_lay.find? (fun r => r.1 == 276) = some (276, .isub, 1, 0, 0, 0, 0) ∧ zc_X6_lay.find? (fun r => r.1 == 277) = some (277, .invokevirtual 137, 3, 180, 7, 1111, 6) ∧ zc_X6_lay.find? (fun r => r.1 == 280) = some (280, .return_, 1, 0, 0, 0, 0) := zi_fdi (zc := zc_X6_lay) (by decide +kernel)
set_option maxRecDepth 100000 in
theorem zf_X6_layAll : zc_X6_layAll.find? (fun r => r.1 == 0) = some (0, .aload_n 0, 1, 0, 0, 0, 0) ∧ zc_X6_layAll.find? (fun r => r.1 == 1) = some (1, .iconst 0, 1, 0, 0, 0, 0) ∧ zc_X6_layAll.find? (fun r => r.1 == 2) = some (2, .putfield 133, 3, 6, 30, 909, 0) ∧ zc_X6_layAll.find? (fun r => r.1 == 5) = some (5, .aload_n 0, 1, 0, 0, 0, 0) ∧ zc_X6_layAll.find? (fun r => r.1 == 6) = some (6, .getfield 43, 3, 6, 13, 892, 0) ∧ zc_X6_layAll.find? (fun r => r.1 == 9) = some (9, .iload_n 1, 1, 0, 0, 0, 0) ∧ zc_X6_layAll.find? (fun r => r.1 == 10) = some (10, .iaload, 1, 0, 0, 0, 0) ∧ zc_X6_layAll.find? (fun r => r.1 == 11) = some (11, .ifCond .lt 28, 3, 39, 0, 0, 0) ∧ zc_X6_layAll.find? (fun r => r.1 == 14) = some (14, .aload_n 0, 1, 0, 0, 0, 0) ∧ zc_X6_layAll.find? (fun r => r.1 == 15) = some (15, .iload_n 1, 1, 0, 0, 0, 0) ∧ zc_X6_layAll.find? (fun r => r.1 == 16) = some (16, .aload_n 0, 1, 0, 0, 0, 0) ∧ zc_X6_layAll.find? (fun r => r.1 == 17) = some (17, .getfield 43, 3, 6, 13, 892, 0) ∧ zc_X6_layAll.find? (fun r => r.1 == 20) = some (20, .iload_n 1, 1, 0, 0, 0, 0) ∧ zc_X6_layAll.find? (fun r => r.1 == 21) = some (21, .iaload, 1, 0, 0, 0, 0) ∧ zc_X6_layAll.find? (fun r => r.1 == 22) = some (22, .iconst 0, 1, 0, 0, 0, 0) ∧ zc_X6_layAll.find? (fun r => r.1 == 23) = some (23, .iconst 0, 1, 0, 0, 0, 0) ∧ zc_X6_layAll.find? (fun r => r.1 == 24) = some (24, .aload_n 0, 1, 0, 0, 0, 0) ∧ zc_X6_layAll.find? (fun r => r.1 == 25) = some (25, .getfield 7, 3, 6, 0, 879, 0) ∧ zc_X6_layAll.find? (fun r => r.1 == 28) = some (28, .iload_n 1, 1, 0, 0, 0, 0) ∧ zc_X6_layAll.find? (fun r => r.1 == 29) = some (29, .iaload, 1, 0, 0, 0, 0) ∧ zc_X6_layAll.find? (fun r => r.1 == 30) = some (30, .aload_n 0, 1, 0, 0, 0, 0) ∧ zc_X6_layAll.find? (fun r => r.1 == 31) = some (31, .getfield 13, 3, 6, 1, 880, 0) ∧ zc_X6_layAll.find? (fun r => r.1 == 34) = some (34, .iload_n 1, 1, 0, 0, 0, 0) ∧ zc_X6_layAll.find? (fun r => r.1 == 35) = some (35, .iaload, 1, 0, 0, 0, 0) ∧ zc_X6_layAll.find? (fun r => r.1 == 36) = some (36, .invokevirtual 137, 3, 180, 7, 1111, 6) ∧ zc_X6_layAll.find? (fun r => r.1 == 39) = some (39, .return_, 1, 0, 0, 0, 0) := zi_fdi (zc := zc_X6_layAll) (by decide +kernel)
set_option maxRecDepth 100000 in
theorem zf_X6_canBeWhole : zc_X6_canBeWhole.find? (fun r => r.1 == 0) = some (0, .aload_n 0, 1, 0, 0, 0, 0) ∧ zc_X6_canBeWhole.find? (fun r => r.1 == 1) = some (1, .getfield 19, 3, 6, 3, 882, 0) ∧ zc_X6_canBeWhole.find? (fun r => r.1 == 4) = some (4, .iload_n 1, 1, 0, 0, 0, 0) ∧ zc_X6_canBeWhole.find? (fun r => r.1 == 5) = some (5, .iaload, 1, 0, 0, 0, 0) ∧ zc_X6_canBeWhole.find? (fun r => r.1 == 6) = some (6, .iload_n 2, 1, 0, 0, 0, 0) ∧ zc_X6_canBeWhole.find? (fun r => r.1 == 7) = some (7, .if_icmp .gt 17, 3, 24, 0, 0, 0) ∧ zc_X6_canBeWhole.find? (fun r => r.1 == 10) = some (10, .aload_n 0, 1, 0, 0, 0, 0) ∧ zc_X6_canBeWhole.find? (fun r => r.1 == 11) = some (11, .getfield 22, 3, 6, 4, 883, 0) ∧ zc_X6_canBeWhole.find? (fun r => r.1 == 14) = some (14, .iload_n 1, 1, 0, 0, 0, 0) ∧ zc_X6_canBeWhole.find? (fun r => r.1 == 15) = some (15, .iaload, 1, 0, 0, 0, 0) ∧ zc_X6_canBeWhole.find? (fun r => r.1 == 16) = some (16, .iload_n 3, 1, 0, 0, 0, 0) ∧ zc_X6_canBeWhole.find? (fun r => r.1 == 17) = some (17, .if_icmp .gt 7, 3, 24, 0, 0, 0) ∧ zc_X6_canBeWhole.find? (fun r => r.1 == 20) = some (20, .iconst 1, 1, 0, 0, 0, 0) ∧ zc_X6_canBeWhole.find? (fun r => r.1 == 21) = some (21, .goto 4, 3, 25, 0, 0, 0) ∧ zc_X6_canBeWhole.find? (fun r => r.1 == 24) = some (24, .iconst 0, 1, 0, 0, 0, 0) ∧ zc_X6_canBeWhole.find? (fun r => r.1 == 25) = some (25, .ireturn, 1, 0, 0, 0, 0) := zi_fdi (zc := zc_X6_canBeWhole) (by decide +kernel)
set_option maxRecDepth 100000 in
theorem zf_X6_putAt : zc_X6_putAt.find? (fun r => r.1 == 0) = some (0, .aload_n 0, 1, 0, 0, 0, 0) ∧ zc_X6_putAt.find? (fun r => r.1 == 1) = some (1, .getfield 28, 3, 6, 6, 885, 0) ∧ zc_X6_putAt.find? (fun r => r.1 == 4) = some (4, .iload_n 1, 1, 0, 0, 0, 0) ∧ zc_X6_putAt.find? (fun r => r.1 == 5) = some (5, .iload_n 2, 1, 0, 0, 0, 0) ∧ zc_X6_putAt.find? (fun r => r.1 == 6) = some (6, .iastore, 1, 0, 0, 0, 0) ∧ zc_X6_putAt.find? (fun r => r.1 == 7) = some (7, .aload_n 0, 1, 0, 0, 0, 0) ∧ zc_X6_putAt.find? (fun r => r.1 == 8) = some (8, .getfield 31, 3, 6, 7, 886, 0) ∧ zc_X6_putAt.find? (fun r => r.1 == 11) = some (11, .iload_n 1, 1, 0, 0, 0, 0) ∧ zc_X6_putAt.find? (fun r => r.1 == 12) = some (12, .iload_n 3, 1, 0, 0, 0, 0) ∧ zc_X6_putAt.find? (fun r => r.1 == 13) = some (13, .aload_n 0, 1, 0, 0, 0, 0) ∧ zc_X6_putAt.find? (fun r => r.1 == 14) = some (14, .getfield 7, 3, 6, 0, 879, 0) ∧ zc_X6_putAt.find? (fun r => r.1 == 17) = some (17, .iload_n 2, 1, 0, 0, 0, 0) ∧ zc_X6_putAt.find? (fun r => r.1 == 18) = some (18, .iaload, 1, 0, 0, 0, 0) ∧ zc_X6_putAt.find? (fun r => r.1 == 19) = some (19, .aload_n 0, 1, 0, 0, 0, 0) ∧ zc_X6_putAt.find? (fun r => r.1 == 20) = some (20, .getfield 19, 3, 6, 3, 882, 0) ∧ zc_X6_putAt.find? (fun r => r.1 == 23) = some (23, .iload_n 1, 1, 0, 0, 0, 0) ∧ zc_X6_putAt.find? (fun r => r.1 == 24) = some (24, .iaload, 1, 0, 0, 0, 0) ∧ zc_X6_putAt.find? (fun r => r.1 == 25) = some (25, .isub, 1, 0, 0, 0, 0) ∧ zc_X6_putAt.find? (fun r => r.1 == 26) = some (26, .invokestatic 141, 3, 166, 2, 1054, 0) ∧ zc_X6_putAt.find? (fun r => r.1 == 29) = some (29, .iastore, 1, 0, 0, 0, 0) ∧ zc_X6_putAt.find? (fun r => r.1 == 30) = some (30, .aload_n 0, 1, 0, 0, 0, 0) ∧ zc_X6_putAt.find? (fun r => r.1 == 31) = some (31, .getfield 34, 3, 6, 8, 887, 0) ∧ zc_X6_putAt.find? (fun r => r.1 == 34) = some (34, .iload_n 1, 1, 0, 0, 0, 0) ∧ zc_X6_putAt.find? (fun r => r.1 == 35) = some (35, .iload 4, 2, 0, 0, 0, 0) ∧ zc_X6_putAt.find? (fun r => r.1 == 37) = some (37, .aload_n 0, 1, 0, 0, 0, 0) ∧ zc_X6_putAt.find? (fun r => r.1 == 38) = some (38, .getfield 13, 3, 6, 1, 880, 0) ∧ zc_X6_putAt.find? (fun r => r.1 == 41) = some (41, .iload_n 2, 1, 0, 0, 0, 0) ∧ zc_X6_putAt.find? (fun r => r.1 == 42) = some (42, .iaload, 1, 0, 0, 0, 0) ∧ zc_X6_putAt.find? (fun r => r.1 == 43) = some (43, .aload_n 0, 1, 0, 0, 0, 0) ∧ zc_X6_putAt.find? (fun r => r.1 == 44) = some (44, .getfield 22, 3, 6, 4, 883, 0) ∧ zc_X6_putAt.find? (fun r => r.1 == 47) = some (47, .iload_n 1, 1, 0, 0, 0, 0) ∧ zc_X6_putAt.find? (fun r => r.1 == 48) = some (48, .iaload, 1, 0, 0, 0, 0) ∧ zc_X6_putAt.find? (fun r => r.1 == 49) = some (49, .isub, 1, 0, 0, 0, 0) ∧ zc_X6_putAt.find? (fun r => r.1 == 50) = some (50, .invokestatic 141, 3, 166, 2, 1054, 0) ∧ zc_X6_putAt.find? (fun r => r.1 == 53) = some (53, .iastore, 1, 0, 0, 0, 0) ∧ zc_X6_putAt.find? (fun r => r.1 == 54) = some (54, .return_, 1, 0, 0, 0, 0) := zi_fdi (zc := zc_X6_putAt) (by decide +kernel)
set_option maxRecDepth 100000 in
theorem zf_X6_isOnScreen : zc_X6_isOnScreen.find? (fun r => r.1 == 0) = some (0, .aload_n 0, 1, 0, 0, 0, 0) ∧ zc_X6_isOnScreen.find? (fun r => r.1 == 1) = some (1, .getfield 16, 3, 6, 2, 881, 0) ∧ zc_X6_isOnScreen.find? (fun r => r.1 == 4) = some (4, .iload_n 1, 1, 0, 0, 0, 0) ∧ zc_X6_isOnScreen.find? (fun r => r.1 == 5) = some (5, .iaload, 1, 0, 0, 0, 0) ∧ zc_X6_isOnScreen.find? (fun r => r.1 == 6) = some (6, .iconst 1, 1, 0, 0, 0, 0) ∧ zc_X6_isOnScreen.find? (fun r => r.1 == 7) = some (7, .if_icmp .le 27, 3, 34, 0, 0, 0) ∧ zc_X6_isOnScreen.find? (fun r => r.1 == 10) = some (10, .aload_n 0, 1, 0, 0, 0, 0) ∧ zc_X6_isOnScreen.find? (fun r => r.1 == 11) = some (11, .getfield 16, 3, 6, 2, 881, 0) ∧ zc_X6_isOnScreen.find? (fun r => r.1 == 14) = some (14, .iload_n 1, 1, 0, 0, 0, 0) ∧ zc_X6_isOnScreen.find? (fun r => r.1 == 15) = some (15, .iaload, 1, 0, 0, 0, 0) ∧ zc_X6_isOnScreen.find? (fun r => r.1 == 16) = some (16, .iconst 4, 1, 0, 0, 0, 0) ∧ zc_X6_isOnScreen.find? (fun r => r.1 == 17) = some (17, .if_icmp .eq 17, 3, 34, 0, 0, 0) ∧ zc_X6_isOnScreen.find? (fun r => r.1 == 20) = some (20, .aload_n 0, 1, 0, 0, 0, 0) ∧ zc_X6_isOnScreen.find? (fun r => r.1 == 21) = some (21, .getfield 28, 3, 6, 6, 885, 0) ∧ zc_X6_isOnScreen.find? (fun r => r.1 == 24) = some (24, .iload_n 1, 1, 0, 0, 0, 0) ∧ zc_X6_isOnScreen.find? (fun r => r.1 == 25) = some (25, .iaload, 1, 0, 0, 0, 0) ∧ zc_X6_isOnScreen.find? (fun r => r.1 == 26) = some (26, .iload_n 2, 1, 0, 0, 0, 0) ∧ zc_X6_isOnScreen.find? (fun r => r.1 == 27) = some (27, .if_icmp .ne 7, 3, 34, 0, 0, 0) ∧ zc_X6_isOnScreen.find? (fun r => r.1 == 30) = some (30, .iconst 1, 1, 0, 0, 0, 0) ∧ zc_X6_isOnScreen.find? (fun r => r.1 == 31) = some (31, .goto 4, 3, 35, 0, 0, 0) ∧ zc_X6_isOnScreen.find? (fun r => r.1 == 34) = some (34, .iconst 0, 1, 0, 0, 0, 0) ∧ zc_X6_isOnScreen.find? (fun r => r.1 == 35) = some (35, .ireturn, 1, 0, 0, 0, 0) := zi_fdi (zc := zc_X6_isOnScreen) (by decide +kernel)
set_option maxRecDepth 100000 in
theorem zf_X6_unstack : zc_X6_unstack.find? (fun r => r.1 == 0) = some (0, .iconst 0, 1, 0, 0, 0, 0) ∧ zc_X6_unstack.find? (fun r => r.1 == 1) = some (1, .istore_n 2, 1, 0, 0, 0, 0) ∧ zc_X6_unstack.find? (fun r => r.1 == 2) = some (2, .iconst 0, 1, 0, 0, 0, 0) ∧ zc_X6_unstack.find? (fun r => r.1 == 3) = some (3, .istore_n 3, 1, 0, 0, 0, 0) ∧ zc_X6_unstack.find? (fun r => r.1 == 4) = some (4, .iload_n 3, 1, 0, 0, 0, 0) ∧ zc_X6_unstack.find? (fun r => r.1 == 5) = some (5, .aload_n 0, 1, 0, 0, 0, 0) ∧ zc_X6_unstack.find? (fun r => r.1 == 6) = some (6, .getfield 144, 3, 6, 10, 889, 0) ∧ zc_X6_unstack.find? (fun r => r.1 == 9) = some (9, .if_icmp .ge 34, 3, 43, 0, 0, 0) ∧ zc_X6_unstack.find? (fun r => r.1 == 12) = some (12, .aload_n 0, 1, 0, 0, 0, 0) ∧ zc_X6_unstack.find? (fun r => r.1 == 13) = some (13, .getfield 37, 3, 6, 9, 888, 0) ∧ zc_X6_unstack.find? (fun r => r.1 == 16) = some (16, .iload_n 3, 1, 0, 0, 0, 0) ∧ zc_X6_unstack.find? (fun r => r.1 == 17) = some (17, .iaload, 1, 0, 0, 0, 0) ∧ zc_X6_unstack.find? (fun r => r.1 == 18) = some (18, .iload_n 1, 1, 0, 0, 0, 0) ∧ zc_X6_unstack.find? (fun r => r.1 == 19) = some (19, .if_icmp .eq 18, 3, 37, 0, 0, 0) ∧ zc_X6_unstack.find? (fun r => r.1 == 22) = some (22, .aload_n 0, 1, 0, 0, 0, 0) ∧ zc_X6_unstack.find? (fun r => r.1 == 23) = some (23, .getfield 37, 3, 6, 9, 888, 0) ∧ zc_X6_unstack.find? (fun r => r.1 == 26) = some (26, .iload_n 2, 1, 0, 0, 0, 0) ∧ zc_X6_unstack.find? (fun r => r.1 == 27) = some (27, .aload_n 0, 1, 0, 0, 0, 0) ∧ zc_X6_unstack.find? (fun r => r.1 == 28) = some (28, .getfield 37, 3, 6, 9, 888, 0) ∧ zc_X6_unstack.find? (fun r => r.1 == 31) = some (31, .iload_n 3, 1, 0, 0, 0, 0) ∧ zc_X6_unstack.find? (fun r => r.1 == 32) = some (32, .iaload, 1, 0, 0, 0, 0) ∧ zc_X6_unstack.find? (fun r => r.1 == 33) = some (33, .iastore, 1, 0, 0, 0, 0) ∧ zc_X6_unstack.find? (fun r => r.1 == 34) = some (34, .iinc 2 1, 3, 0, 0, 0, 0) ∧ zc_X6_unstack.find? (fun r => r.1 == 37) = some (37, .iinc 3 1, 3, 0, 0, 0, 0) ∧ zc_X6_unstack.find? (fun r => r.1 == 40) = some (40, .goto (-36), 3, 4, 0, 0, 0) ∧ zc_X6_unstack.find? (fun r => r.1 == 43) = some (43, .aload_n 0, 1, 0, 0, 0, 0) ∧ zc_X6_unstack.find? (fun r => r.1 == 44) = some (44, .iload_n 2, 1, 0, 0, 0, 0) ∧ zc_X6_unstack.find? (fun r => r.1 == 45) = some (45, .putfield 144, 3, 6, 10, 889, 0) ∧ zc_X6_unstack.find? (fun r => r.1 == 48) = some (48, .return_, 1, 0, 0, 0, 0) := zi_fdi (zc := zc_X6_unstack) (by decide +kernel)
set_option maxRecDepth 100000 in
theorem zf_X6_raise : zc_X6_raise.find? (fun r => r.1 == 0) = some (0, .aload_n 0, 1, 0, 0, 0, 0) ∧ zc_X6_raise.find? (fun r => r.1 == 1) = some (1, .iload_n 1, 1, 0, 0, 0, 0) ∧ zc_X6_raise.find? (fun r => r.1 == 2) = some (2, .invokevirtual 147, 3, 167, 2, 1124, 6) ∧ zc_X6_raise.find? (fun r => r.1 == 5) = some (5, .ifCond .eq 28, 3, 33, 0, 0, 0) ∧ zc_X6_raise.find? (fun r => r.1 == 8) = some (8, .aload_n 0, 1, 0, 0, 0, 0) ∧ zc_X6_raise.find? (fun r => r.1 == 9) = some (9, .iload_n 1, 1, 0, 0, 0, 0) ∧ zc_X6_raise.find? (fun r => r.1 == 10) = some (10, .invokevirtual 151, 3, 185, 2, 1143, 6) ∧ zc_X6_raise.find? (fun r => r.1 == 13) = some (13, .aload_n 0, 1, 0, 0, 0, 0) ∧ zc_X6_raise.find? (fun r => r.1 == 14) = some (14, .getfield 37, 3, 6, 9, 888, 0) ∧ zc_X6_raise.find? (fun r => r.1 == 17) = some (17, .aload_n 0, 1, 0, 0, 0, 0) ∧ zc_X6_raise.find? (fun r => r.1 == 18) = some (18, .getfield 144, 3, 6, 10, 889, 0) ∧ zc_X6_raise.find? (fun r => r.1 == 21) = some (21, .iload_n 1, 1, 0, 0, 0, 0) ∧ zc_X6_raise.find? (fun r => r.1 == 22) = some (22, .iastore, 1, 0, 0, 0, 0) ∧ zc_X6_raise.find? (fun r => r.1 == 23) = some (23, .aload_n 0, 1, 0, 0, 0, 0) ∧ zc_X6_raise.find? (fun r => r.1 == 24) = some (24, .dup, 1, 0, 0, 0, 0) ∧ zc_X6_raise.find? (fun r => r.1 == 25) = some (25, .getfield 144, 3, 6, 10, 889, 0) ∧ zc_X6_raise.find? (fun r => r.1 == 28) = some (28, .iconst 1, 1, 0, 0, 0, 0) ∧ zc_X6_raise.find? (fun r => r.1 == 29) = some (29, .iadd, 1, 0, 0, 0, 0) ∧ zc_X6_raise.find? (fun r => r.1 == 30) = some (30, .putfield 144, 3, 6, 10, 889, 0) ∧ zc_X6_raise.find? (fun r => r.1 == 33) = some (33, .iconst 0, 1, 0, 0, 0, 0) ∧ zc_X6_raise.find? (fun r => r.1 == 34) = some (34, .istore_n 2, 1, 0, 0, 0, 0) ∧ zc_X6_raise.find? (fun r => r.1 == 35) = some (35, .lconst 0, 1, 0, 0, 0, 0) ∧ zc_X6_raise.find? (fun r => r.1 == 36) = some (36, .lstore_n 3, 1, 0, 0, 0, 0) ∧ zc_X6_raise.find? (fun r => r.1 == 37) = some (37, .iconst 0, 1, 0, 0, 0, 0) ∧ zc_X6_raise.find? (fun r => r.1 == 38) = some (38, .istore 5, 2, 0, 0, 0, 0) ∧ zc_X6_raise.find? (fun r => r.1 == 40) = some (40, .iload 5, 2, 0, 0, 0, 0) ∧ zc_X6_raise.find? (fun r => r.1 == 42) = some (42, .aload_n 0, 1, 0, 0, 0, 0) ∧ zc_X6_raise.find? (fun r => r.1 == 43) = some (43, .getfield 144, 3, 6, 10, 889, 0) ∧ zc_X6_raise.find? (fun r => r.1 == 46) = some (46, .if_icmp .ge 59, 3, 105, 0, 0, 0) ∧ zc_X6_raise.find? (fun r => r.1 == 49) = some (49, .aload_n 0, 1, 0, 0, 0, 0) ∧ zc_X6_raise.find? (fun r => r.1 == 50) = some (50, .getfield 16, 3, 6, 2, 881, 0) ∧ zc_X6_raise.find? (fun r => r.1 == 53) = some (53, .aload_n 0, 1, 0, 0, 0, 0) ∧ zc_X6_raise.find? (fun r => r.1 == 54) = some (54, .getfield 37, 3, 6, 9, 888, 0) ∧ zc_X6_raise.find? (fun r => r.1 == 57) = some (57, .iload 5, 2, 0, 0, 0, 0) ∧ zc_X6_raise.find? (fun r => r.1 == 59) = some (59, .iaload, 1, 0, 0, 0, 0) ∧ zc_X6_raise.find? (fun r => r.1 == 60) = some (60, .iaload, 1, 0, 0, 0, 0) ∧ zc_X6_raise.find? (fun r => r.1 == 61) = some (61, .iconst 3, 1, 0, 0, 0, 0) ∧ zc_X6_raise.find? (fun r => r.1 == 62) = some (62, .if_icmp .ne 37, 3, 99, 0, 0, 0) ∧ zc_X6_raise.find? (fun r => r.1 == 65) = some (65, .aload_n 0, 1, 0, 0, 0, 0) ∧ zc_X6_raise.find? (fun r => r.1 == 66) = some (66, .getfield 25, 3, 6, 5, 884, 0) ∧ zc_X6_raise.find? (fun r => r.1 == 69) = some (69, .aload_n 0, 1, 0, 0, 0, 0) ∧ zc_X6_raise.find? (fun r => r.1 == 70) = some (70, .getfield 37, 3, 6, 9, 888, 0) ∧ zc_X6_raise.find? (fun r => r.1 == 73) = some (73, .iload 5, 2, 0, 0, 0, 0) ∧ zc_X6_raise.find? (fun r => r.1 == 75) = some (75, .iaload, 1, 0, 0, 0, 0) ∧ zc_X6_raise.find? (fun r => r.1 == 76) = some (76, .iaload, 1, 0, 0, 0, 0) ∧ zc_X6_raise.find? (fun r => r.1 == 77) = some (77, .iload_n 1, 1, 0, 0, 0, 0) ∧ zc_X6_raise.find? (fun r => r.1 == 78) = some (78, .if_icmp .ne 21, 3, 99, 0, 0, 0) ∧ zc_X6_raise.find? (fun r => r.1 == 81) = some (81, .lload_n 3, 1, 0, 0, 0, 0) ∧ zc_X6_raise.find? (fun r => r.1 == 82) = some (82, .aload_n 0, 1, 0, 0, 0, 0) ∧ zc_X6_raise.find? (fun r => r.1 == 83) = some (83, .getfield 37, 3, 6, 9, 888, 0) ∧ zc_X6_raise.find? (fun r => r.1 == 86) = some (86, .iload 5, 2, 0, 0, 0, 0) ∧ zc_X6_raise.find? (fun r => r.1 == 88) = some (88, .iaload, 1, 0, 0, 0, 0) ∧ zc_X6_raise.find? (fun r => r.1 == 89) = some (89, .i2l, 1, 0, 0, 0, 0) ∧ zc_X6_raise.find? (fun r => r.1 == 90) = some (90, .iconst 4, 1, 0, 0, 0, 0) ∧ zc_X6_raise.find? (fun r => r.1 == 91) = some (91, .iload_n 2, 1, 0, 0, 0, 0) ∧ zc_X6_raise.find? (fun r => r.1 == 92) = some (92, .imul, 1, 0, 0, 0, 0) ∧ zc_X6_raise.find? (fun r => r.1 == 93) = some (93, .lshl, 1, 0, 0, 0, 0) ∧ zc_X6_raise.find? (fun r => r.1 == 94) = some (94, .lor, 1, 0, 0, 0, 0) ∧ zc_X6_raise.find? (fun r => r.1 == 95) = some (95, .lstore_n 3, 1, 0, 0, 0, 0) ∧ zc_X6_raise.find? (fun r => r.1 == 96) = some (96, .iinc 2 1, 3, 0, 0, 0, 0) ∧ zc_X6_raise.find? (fun r => r.1 == 99) = some (99, .iinc 5 1, 3, 0, 0, 0, 0) ∧ zc_X6_raise.find? (fun r => r.1 == 102) = some (102, .goto (-62), 3, 40, 0, 0, 0) ∧ zc_X6_raise.find? (fun r => r.1 == 105) = some (105, .iconst 0, 1, 0, 0, 0, 0) ∧ zc_X6_raise.find? (fun r => r.1 == 106) = some (106, .istore 5, 2, 0, 0, 0, 0) ∧ zc_X6_raise.find? (fun r => r.1 == 108) = some (108, .iload 5, 2, 0, 0, 0, 0) ∧ zc_X6_raise.find? (fun r => r.1 == 110) = some (110, .iload_n 2, 1, 0, 0, 0, 0) ∧ zc_X6_raise.find? (fun r => r.1 == 111) = some (111, .if_icmp .ge 24, 3, 135, 0, 0, 0) ∧ zc_X6_raise.find? (fun r => r.1 == 114) = some (114, .aload_n 0, 1, 0, 0, 0, 0) ∧ zc_X6_raise.find? (fun r => r.1 == 115) = some (115, .lload_n 3, 1, 0, 0, 0, 0) ∧ zc_X6_raise.find? (fun r => r.1 == 116) = some (116, .iconst 4, 1, 0, 0, 0, 0) ∧ zc_X6_raise.find? (fun r => r.1 == 117) = some (117, .iload 5, 2, 0, 0, 0, 0) ∧ zc_X6_raise.find? (fun r => r.1 == 119) = some (119, .imul, 1, 0, 0, 0, 0) ∧ zc_X6_raise.find? (fun r => r.1 == 120) = some (120, .lshr, 1, 0, 0, 0, 0) ∧ zc_X6_raise.find? (fun r => r.1 == 121) = some (121, .ldc2_w 155, 3, 0, 0, 1147, 15) ∧ zc_X6_raise.find? (fun r => r.1 == 124) = some (124, .land, 1, 0, 0, 0, 0) ∧ zc_X6_raise.find? (fun r => r.1 == 125) = some (125, .l2i, 1, 0, 0, 0, 0) ∧ zc_X6_raise.find? (fun r => r.1 == 126) = some (126, .invokevirtual 157, 3, 186, 2, 1139, 6) ∧ zc_X6_raise.find? (fun r => r.1 == 129) = some (129, .iinc 5 1, 3, 0, 0, 0, 0) ∧ zc_X6_raise.find? (fun r => r.1 == 132) = some (132, .goto (-24), 3, 108, 0, 0, 0) ∧ zc_X6_raise.find? (fun r => r.1 == 135) = some (135, .return_, 1, 0, 0, 0, 0) := zi_fdi (zc := zc_X6_raise) (by decide +kernel)
set_option maxRecDepth 100000 in
theorem zf_X6_front : zc_X6_front.find? (fun r => r.1 == 0) = some (0, .iload_n 1, 1, 0, 0, 0, 0) ∧ zc_X6_front.find? (fun r => r.1 == 1) = some (1, .istore_n 2, 1, 0, 0, 0, 0) ∧ zc_X6_front.find? (fun r => r.1 == 2) = some (2, .iconst 0, 1, 0, 0, 0, 0) ∧ zc_X6_front.find? (fun r => r.1 == 3) = some (3, .istore_n 3, 1, 0, 0, 0, 0) ∧ zc_X6_front.find? (fun r => r.1 == 4) = some (4, .iload_n 3, 1, 0, 0, 0, 0) ∧ zc_X6_front.find? (fun r => r.1 == 5) = some (5, .aload_n 0, 1, 0, 0, 0, 0) ∧ zc_X6_front.find? (fun r => r.1 == 6) = some (6, .getfield 160, 3, 6, 12, 891, 0) ∧ zc_X6_front.find? (fun r => r.1 == 9) = some (9, .if_icmp .ge 34, 3, 43, 0, 0, 0) ∧ zc_X6_front.find? (fun r => r.1 == 12) = some (12, .aload_n 0, 1, 0, 0, 0, 0) ∧ zc_X6_front.find? (fun r => r.1 == 13) = some (13, .getfield 40, 3, 6, 11, 890, 0) ∧ zc_X6_front.find? (fun r => r.1 == 16) = some (16, .iload_n 3, 1, 0, 0, 0, 0) ∧ zc_X6_front.find? (fun r => r.1 == 17) = some (17, .iaload, 1, 0, 0, 0, 0) ∧ zc_X6_front.find? (fun r => r.1 == 18) = some (18, .istore 4, 2, 0, 0, 0, 0) ∧ zc_X6_front.find? (fun r => r.1 == 20) = some (20, .aload_n 0, 1, 0, 0, 0, 0) ∧ zc_X6_front.find? (fun r => r.1 == 21) = some (21, .getfield 40, 3, 6, 11, 890, 0) ∧ zc_X6_front.find? (fun r => r.1 == 24) = some (24, .iload_n 3, 1, 0, 0, 0, 0) ∧ zc_X6_front.find? (fun r => r.1 == 25) = some (25, .iload_n 2, 1, 0, 0, 0, 0) ∧ zc_X6_front.find? (fun r => r.1 == 26) = some (26, .iastore, 1, 0, 0, 0, 0) ∧ zc_X6_front.find? (fun r => r.1 == 27) = some (27, .iload 4, 2, 0, 0, 0, 0) ∧ zc_X6_front.find? (fun r => r.1 == 29) = some (29, .istore_n 2, 1, 0, 0, 0, 0) ∧ zc_X6_front.find? (fun r => r.1 == 30) = some (30, .iload 4, 2, 0, 0, 0, 0) ∧ zc_X6_front.find? (fun r => r.1 == 32) = some (32, .iload_n 1, 1, 0, 0, 0, 0) ∧ zc_X6_front.find? (fun r => r.1 == 33) = some (33, .if_icmp .ne 4, 3, 37, 0, 0, 0) ∧ zc_X6_front.find? (fun r => r.1 == 36) = some (36, .return_, 1, 0, 0, 0, 0) ∧ zc_X6_front.find? (fun r => r.1 == 37) = some (37, .iinc 3 1, 3, 0, 0, 0, 0) ∧ zc_X6_front.find? (fun r => r.1 == 40) = some (40, .goto (-36), 3, 4, 0, 0, 0) ∧ zc_X6_front.find? (fun r => r.1 == 43) = some (43, .aload_n 0, 1, 0, 0, 0, 0) ∧ zc_X6_front.find? (fun r => r.1 == 44) = some (44, .getfield 40, 3, 6, 11, 890, 0) ∧ zc_X6_front.find? (fun r => r.1 == 47) = some (47, .aload_n 0, 1, 0, 0, 0, 0) ∧ zc_X6_front.find? (fun r => r.1 == 48) = some (48, .getfield 160, 3, 6, 12, 891, 0) ∧ zc_X6_front.find? (fun r => r.1 == 51) = some (51, .iload_n 2, 1, 0, 0, 0, 0) ∧ zc_X6_front.find? (fun r => r.1 == 52) = some (52, .iastore, 1, 0, 0, 0, 0) ∧ zc_X6_front.find? (fun r => r.1 == 53) = some (53, .aload_n 0, 1, 0, 0, 0, 0) ∧ zc_X6_front.find? (fun r => r.1 == 54) = some (54, .dup, 1, 0, 0, 0, 0) ∧ zc_X6_front.find? (fun r => r.1 == 55) = some (55, .getfield 160, 3, 6, 12, 891, 0) ∧ zc_X6_front.find? (fun r => r.1 == 58) = some (58, .iconst 1, 1, 0, 0, 0, 0) ∧ zc_X6_front.find? (fun r => r.1 == 59) = some (59, .iadd, 1, 0, 0, 0, 0) ∧ zc_X6_front.find? (fun r => r.1 == 60) = some (60, .putfield 160, 3, 6, 12, 891, 0) ∧ zc_X6_front.find? (fun r => r.1 == 63) = some (63, .return_, 1, 0, 0, 0, 0) := zi_fdi (zc := zc_X6_front) (by decide +kernel)
set_option maxRecDepth 100000 in
theorem zf_X6_focused : zc_X6_focused.find? (fun r => r.1 == 0) = some (0, .aload_n 0, 1, 0, 0, 0, 0) ∧ zc_X6_focused.find? (fun r => r.1 == 1) = some (1, .iload_n 1, 1, 0, 0, 0, 0) ∧ zc_X6_focused.find? (fun r => r.1 == 2) = some (2, .invokevirtual 163, 3, 187, 2, 1135, 6) ∧ zc_X6_focused.find? (fun r => r.1 == 5) = some (5, .aload_n 0, 1, 0, 0, 0, 0) ∧ zc_X6_focused.find? (fun r => r.1 == 6) = some (6, .getfield 16, 3, 6, 2, 881, 0) ∧ zc_X6_focused.find? (fun r => r.1 == 9) = some (9, .iload_n 1, 1, 0, 0, 0, 0) ∧ zc_X6_focused.find? (fun r => r.1 == 10) = some (10, .iaload, 1, 0, 0, 0, 0) ∧ zc_X6_focused.find? (fun r => r.1 == 11) = some (11, .iconst 1, 1, 0, 0, 0, 0) ∧ zc_X6_focused.find? (fun r => r.1 == 12) = some (12, .if_icmp .ne 29, 3, 41, 0, 0, 0) ∧ zc_X6_focused.find? (fun r => r.1 == 15) = some (15, .aload_n 0, 1, 0, 0, 0, 0) ∧ zc_X6_focused.find? (fun r => r.1 == 16) = some (16, .getfield 64, 3, 6, 20, 899, 0) ∧ zc_X6_focused.find? (fun r => r.1 == 19) = some (19, .aload_n 0, 1, 0, 0, 0, 0) ∧ zc_X6_focused.find? (fun r => r.1 == 20) = some (20, .getfield 28, 3, 6, 6, 885, 0) ∧ zc_X6_focused.find? (fun r => r.1 == 23) = some (23, .iload_n 1, 1, 0, 0, 0, 0) ∧ zc_X6_focused.find? (fun r => r.1 == 24) = some (24, .iaload, 1, 0, 0, 0, 0) ∧ zc_X6_focused.find? (fun r => r.1 == 25) = some (25, .aload_n 0, 1, 0, 0, 0, 0) ∧ zc_X6_focused.find? (fun r => r.1 == 26) = some (26, .aload_n 0, 1, 0, 0, 0, 0) ∧ zc_X6_focused.find? (fun r => r.1 == 27) = some (27, .getfield 28, 3, 6, 6, 885, 0) ∧ zc_X6_focused.find? (fun r => r.1 == 30) = some (30, .iload_n 1, 1, 0, 0, 0, 0) ∧ zc_X6_focused.find? (fun r => r.1 == 31) = some (31, .iaload, 1, 0, 0, 0, 0) ∧ zc_X6_focused.find? (fun r => r.1 == 32) = some (32, .iload_n 1, 1, 0, 0, 0, 0) ∧ zc_X6_focused.find? (fun r => r.1 == 33) = some (33, .invokevirtual 116, 3, 173, 3, 1030, 6) ∧ zc_X6_focused.find? (fun r => r.1 == 36) = some (36, .invokestatic 105, 3, 70, 2, 991, 0) ∧ zc_X6_focused.find? (fun r => r.1 == 39) = some (39, .iload_n 1, 1, 0, 0, 0, 0) ∧ zc_X6_focused.find? (fun r => r.1 == 40) = some (40, .iastore, 1, 0, 0, 0, 0) ∧ zc_X6_focused.find? (fun r => r.1 == 41) = some (41, .aload_n 0, 1, 0, 0, 0, 0) ∧ zc_X6_focused.find? (fun r => r.1 == 42) = some (42, .iload_n 1, 1, 0, 0, 0, 0) ∧ zc_X6_focused.find? (fun r => r.1 == 43) = some (43, .invokevirtual 157, 3, 186, 2, 1139, 6) ∧ zc_X6_focused.find? (fun r => r.1 == 46) = some (46, .return_, 1, 0, 0, 0, 0) := zi_fdi (zc := zc_X6_focused) (by decide +kernel)
set_option maxRecDepth 100000 in
theorem zf_X6_forget : zc_X6_forget.find? (fun r => r.1 == 0) = some (0, .iconst 0, 1, 0, 0, 0, 0) ∧ zc_X6_forget.find? (fun r => r.1 == 1) = some (1, .istore_n 2, 1, 0, 0, 0, 0) ∧ zc_X6_forget.find? (fun r => r.1 == 2) = some (2, .iload_n 2, 1, 0, 0, 0, 0) ∧ zc_X6_forget.find? (fun r => r.1 == 3) = some (3, .iconst 3, 1, 0, 0, 0, 0) ∧ zc_X6_forget.find? (fun r => r.1 == 4) = some (4, .if_icmp .ge 39, 3, 43, 0, 0, 0) ∧ zc_X6_forget.find? (fun r => r.1 == 7) = some (7, .aload_n 0, 1, 0, 0, 0, 0) ∧ zc_X6_forget.find? (fun r => r.1 == 8) = some (8, .getfield 67, 3, 6, 21, 900, 0) ∧ zc_X6_forget.find? (fun r => r.1 == 11) = some (11, .iload_n 2, 1, 0, 0, 0, 0) ∧ zc_X6_forget.find? (fun r => r.1 == 12) = some (12, .baload, 1, 0, 0, 0, 0) ∧ zc_X6_forget.find? (fun r => r.1 == 13) = some (13, .ifCond .eq 24, 3, 37, 0, 0, 0) ∧ zc_X6_forget.find? (fun r => r.1 == 16) = some (16, .aload_n 0, 1, 0, 0, 0, 0) ∧ zc_X6_forget.find? (fun r => r.1 == 17) = some (17, .getfield 71, 3, 6, 22, 901, 0) ∧ zc_X6_forget.find? (fun r => r.1 == 20) = some (20, .bipush 10, 2, 0, 0, 0, 0) ∧ zc_X6_forget.find? (fun r => r.1 == 22) = some (22, .iload_n 2, 1, 0, 0, 0, 0) ∧ zc_X6_forget.find? (fun r => r.1 == 23) = some (23, .imul, 1, 0, 0, 0, 0) ∧ zc_X6_forget.find? (fun r => r.1 == 24) = some (24, .iload_n 1, 1, 0, 0, 0, 0) ∧ zc_X6_forget.find? (fun r => r.1 == 25) = some (25, .iadd, 1, 0, 0, 0, 0) ∧ zc_X6_forget.find? (fun r => r.1 == 26) = some (26, .baload, 1, 0, 0, 0, 0) ∧ zc_X6_forget.find? (fun r => r.1 == 27) = some (27, .ifCond .eq 10, 3, 37, 0, 0, 0) ∧ zc_X6_forget.find? (fun r => r.1 == 30) = some (30, .aload_n 0, 1, 0, 0, 0, 0) ∧ zc_X6_forget.find? (fun r => r.1 == 31) = some (31, .getfield 67, 3, 6, 21, 900, 0) ∧ zc_X6_forget.find? (fun r => r.1 == 34) = some (34, .iload_n 2, 1, 0, 0, 0, 0) ∧ zc_X6_forget.find? (fun r => r.1 == 35) = some (35, .iconst 0, 1, 0, 0, 0, 0) ∧ zc_X6_forget.find? (fun r => r.1 == 36) = some (36, .bastore, 1, 0, 0, 0, 0) ∧ zc_X6_forget.find? (fun r => r.1 == 37) = some (37, .iinc 2 1, 3, 0, 0, 0, 0) ∧ zc_X6_forget.find? (fun r => r.1 == 40) = some (40, .goto (-38), 3, 2, 0, 0, 0) ∧ zc_X6_forget.find? (fun r => r.1 == 43) = some (43, .return_, 1, 0, 0, 0, 0) := zi_fdi (zc := zc_X6_forget) (by decide +kernel)
set_option maxRecDepth 100000 in
theorem zf_X6_spread : zc_X6_spread.find? (fun r => r.1 == 0) = some (0, .iconst 0, 1, 0, 0, 0, 0) ∧ zc_X6_spread.find? (fun r => r.1 == 1) = some (1, .istore_n 1, 1, 0, 0, 0, 0) ∧ zc_X6_spread.find? (fun r => r.1 == 2) = some (2, .iload_n 1, 1, 0, 0, 0, 0) ∧ zc_X6_spread.find? (fun r => r.1 == 3) = some (3, .bipush 10, 2, 0, 0, 0, 0) ∧ zc_X6_spread.find? (fun r => r.1 == 5) = some (5, .if_icmp .ge 67, 3, 72, 0, 0, 0) ∧ zc_X6_spread.find? (fun r => r.1 == 8) = some (8, .iconst 0, 1, 0, 0, 0, 0) ∧ zc_X6_spread.find? (fun r => r.1 == 9) = some (9, .istore_n 2, 1, 0, 0, 0, 0) ∧ zc_X6_spread.find? (fun r => r.1 == 10) = some (10, .iload_n 2, 1, 0, 0, 0, 0) ∧ zc_X6_spread.find? (fun r => r.1 == 11) = some (11, .bipush 10, 2, 0, 0, 0, 0) ∧ zc_X6_spread.find? (fun r => r.1 == 13) = some (13, .if_icmp .ge 53, 3, 66, 0, 0, 0) ∧ zc_X6_spread.find? (fun r => r.1 == 16) = some (16, .aload_n 0, 1, 0, 0, 0, 0) ∧ zc_X6_spread.find? (fun r => r.1 == 17) = some (17, .getfield 95, 3, 6, 31, 910, 0) ∧ zc_X6_spread.find? (fun r => r.1 == 20) = some (20, .iload_n 2, 1, 0, 0, 0, 0) ∧ zc_X6_spread.find? (fun r => r.1 == 21) = some (21, .aload_n 0, 1, 0, 0, 0, 0) ∧ zc_X6_spread.find? (fun r => r.1 == 22) = some (22, .getfield 95, 3, 6, 31, 910, 0) ∧ zc_X6_spread.find? (fun r => r.1 == 25) = some (25, .iload_n 2, 1, 0, 0, 0, 0) ∧ zc_X6_spread.find? (fun r => r.1 == 26) = some (26, .baload, 1, 0, 0, 0, 0) ∧ zc_X6_spread.find? (fun r => r.1 == 27) = some (27, .ifCond .ne 27, 3, 54, 0, 0, 0) ∧ zc_X6_spread.find? (fun r => r.1 == 30) = some (30, .aload_n 0, 1, 0, 0, 0, 0) ∧ zc_X6_spread.find? (fun r => r.1 == 31) = some (31, .getfield 16, 3, 6, 2, 881, 0) ∧ zc_X6_spread.find? (fun r => r.1 == 34) = some (34, .iload_n 2, 1, 0, 0, 0, 0) ∧ zc_X6_spread.find? (fun r => r.1 == 35) = some (35, .iaload, 1, 0, 0, 0, 0) ∧ zc_X6_spread.find? (fun r => r.1 == 36) = some (36, .iconst 3, 1, 0, 0, 0, 0) ∧ zc_X6_spread.find? (fun r => r.1 == 37) = some (37, .if_icmp .ne 21, 3, 58, 0, 0, 0) ∧ zc_X6_spread.find? (fun r => r.1 == 40) = some (40, .aload_n 0, 1, 0, 0, 0, 0) ∧ zc_X6_spread.find? (fun r => r.1 == 41) = some (41, .getfield 95, 3, 6, 31, 910, 0) ∧ zc_X6_spread.find? (fun r => r.1 == 44) = some (44, .aload_n 0, 1, 0, 0, 0, 0) ∧ zc_X6_spread.find? (fun r => r.1 == 45) = some (45, .getfield 25, 3, 6, 5, 884, 0) ∧ zc_X6_spread.find? (fun r => r.1 == 48) = some (48, .iload_n 2, 1, 0, 0, 0, 0) ∧ zc_X6_spread.find? (fun r => r.1 == 49) = some (49, .iaload, 1, 0, 0, 0, 0) ∧ zc_X6_spread.find? (fun r => r.1 == 50) = some (50, .baload, 1, 0, 0, 0, 0) ∧ zc_X6_spread.find? (fun r => r.1 == 51) = some (51, .ifCond .eq 7, 3, 58, 0, 0, 0) ∧ zc_X6_spread.find? (fun r => r.1 == 54) = some (54, .iconst 1, 1, 0, 0, 0, 0) ∧ zc_X6_spread.find? (fun r => r.1 == 55) = some (55, .goto 4, 3, 59, 0, 0, 0) ∧ zc_X6_spread.find? (fun r => r.1 == 58) = some (58, .iconst 0, 1, 0, 0, 0, 0) ∧ zc_X6_spread.find? (fun r => r.1 == 59) = some (59, .bastore, 1, 0, 0, 0, 0) ∧ zc_X6_spread.find? (fun r => r.1 == 60) = some (60, .iinc 2 1, 3, 0, 0, 0, 0) ∧ zc_X6_spread.find? (fun r => r.1 == 63) = some (63, .goto (-53), 3, 10, 0, 0, 0) ∧ zc_X6_spread.find? (fun r => r.1 == 66) = some (66, .iinc 1 1, 3, 0, 0, 0, 0) ∧ zc_X6_spread.find? (fun r => r.1 == 69) = some (69, .goto (-67), 3, 2, 0, 0, 0) ∧ zc_X6_spread.find? (fun r => r.1 == 72) = some (72, .return_, 1, 0, 0, 0, 0) := zi_fdi (zc := zc_X6_spread) (by decide +kernel)
set_option maxRecDepth 100000 in
theorem zf_X6_comesBack : zc_X6_comesBack.find? (fun r => r.1 == 0) = some (0, .iconst 0, 1, 0, 0, 0, 0) ∧ zc_X6_comesBack.find? (fun r => r.1 == 1) = some (1, .istore_n 2, 1, 0, 0, 0, 0) ∧ zc_X6_comesBack.find? (fun r => r.1 == 2) = some (2, .iload_n 2, 1, 0, 0, 0, 0) ∧ zc_X6_comesBack.find? (fun r => r.1 == 3) = some (3, .bipush 10, 2, 0, 0, 0, 0) ∧ zc_X6_comesBack.find? (fun r => r.1 == 5) = some (5, .if_icmp .ge 26, 3, 31, 0, 0, 0) ∧ zc_X6_comesBack.find? (fun r => r.1 == 8) = some (8, .aload_n 0, 1, 0, 0, 0, 0) ∧ zc_X6_comesBack.find? (fun r => r.1 == 9) = some (9, .getfield 95, 3, 6, 31, 910, 0) ∧ zc_X6_comesBack.find? (fun r => r.1 == 12) = some (12, .iload_n 2, 1, 0, 0, 0, 0) ∧ zc_X6_comesBack.find? (fun r => r.1 == 13) = some (13, .aload_n 0, 1, 0, 0, 0, 0) ∧ zc_X6_comesBack.find? (fun r => r.1 == 14) = some (14, .getfield 71, 3, 6, 22, 901, 0) ∧ zc_X6_comesBack.find? (fun r => r.1 == 17) = some (17, .bipush 10, 2, 0, 0, 0, 0) ∧ zc_X6_comesBack.find? (fun r => r.1 == 19) = some (19, .iload_n 1, 1, 0, 0, 0, 0) ∧ zc_X6_comesBack.find? (fun r => r.1 == 20) = some (20, .imul, 1, 0, 0, 0, 0) ∧ zc_X6_comesBack.find? (fun r => r.1 == 21) = some (21, .iload_n 2, 1, 0, 0, 0, 0) ∧ zc_X6_comesBack.find? (fun r => r.1 == 22) = some (22, .iadd, 1, 0, 0, 0, 0) ∧ zc_X6_comesBack.find? (fun r => r.1 == 23) = some (23, .baload, 1, 0, 0, 0, 0) ∧ zc_X6_comesBack.find? (fun r => r.1 == 24) = some (24, .bastore, 1, 0, 0, 0, 0) ∧ zc_X6_comesBack.find? (fun r => r.1 == 25) = some (25, .iinc 2 1, 3, 0, 0, 0, 0) ∧ zc_X6_comesBack.find? (fun r => r.1 == 28) = some (28, .goto (-26), 3, 2, 0, 0, 0) ∧ zc_X6_comesBack.find? (fun r => r.1 == 31) = some (31, .aload_n 0, 1, 0, 0, 0, 0) ∧ zc_X6_comesBack.find? (fun r => r.1 == 32) = some (32, .invokevirtual 191, 3, 190, 1, 998, 6) ∧ zc_X6_comesBack.find? (fun r => r.1 == 35) = some (35, .aload_n 0, 1, 0, 0, 0, 0) ∧ zc_X6_comesBack.find? (fun r => r.1 == 36) = some (36, .iconst 3, 1, 0, 0, 0, 0) ∧ zc_X6_comesBack.find? (fun r => r.1 == 37) = some (37, .iload_n 1, 1, 0, 0, 0, 0) ∧ zc_X6_comesBack.find? (fun r => r.1 == 38) = some (38, .iadd, 1, 0, 0, 0, 0) ∧ zc_X6_comesBack.find? (fun r => r.1 == 39) = some (39, .aload_n 0, 1, 0, 0, 0, 0) ∧ zc_X6_comesBack.find? (fun r => r.1 == 40) = some (40, .getfield 7, 3, 6, 0, 879, 0) ∧ zc_X6_comesBack.find? (fun r => r.1 == 43) = some (43, .iload_n 1, 1, 0, 0, 0, 0) ∧ zc_X6_comesBack.find? (fun r => r.1 == 44) = some (44, .iaload, 1, 0, 0, 0, 0) ∧ zc_X6_comesBack.find? (fun r => r.1 == 45) = some (45, .aload_n 0, 1, 0, 0, 0, 0) ∧ zc_X6_comesBack.find? (fun r => r.1 == 46) = some (46, .getfield 13, 3, 6, 1, 880, 0) ∧ zc_X6_comesBack.find? (fun r => r.1 == 49) = some (49, .iload_n 1, 1, 0, 0, 0, 0) ∧ zc_X6_comesBack.find? (fun r => r.1 == 50) = some (50, .iaload, 1, 0, 0, 0, 0) ∧ zc_X6_comesBack.find? (fun r => r.1 == 51) = some (51, .invokevirtual 177, 3, 179, 4, 1002, 6) ∧ zc_X6_comesBack.find? (fun r => r.1 == 54) = some (54, .istore_n 2, 1, 0, 0, 0, 0) ∧ zc_X6_comesBack.find? (fun r => r.1 == 55) = some (55, .iconst 0, 1, 0, 0, 0, 0) ∧ zc_X6_comesBack.find? (fun r => r.1 == 56) = some (56, .istore_n 3, 1, 0, 0, 0, 0) ∧ zc_X6_comesBack.find? (fun r => r.1 == 57) = some (57, .iload_n 3, 1, 0, 0, 0, 0) ∧ zc_X6_comesBack.find? (fun r => r.1 == 58) = some (58, .bipush 10, 2, 0, 0, 0, 0) ∧ zc_X6_comesBack.find? (fun r => r.1 == 60) = some (60, .if_icmp .ge 58, 3, 118, 0, 0, 0) ∧ zc_X6_comesBack.find? (fun r => r.1 == 63) = some (63, .iload_n 2, 1, 0, 0, 0, 0) ∧ zc_X6_comesBack.find? (fun r => r.1 == 64) = some (64, .ifCond .eq 46, 3, 110, 0, 0, 0) ∧ zc_X6_comesBack.find? (fun r => r.1 == 67) = some (67, .aload_n 0, 1, 0, 0, 0, 0) ∧ zc_X6_comesBack.find? (fun r => r.1 == 68) = some (68, .getfield 95, 3, 6, 31, 910, 0) ∧ zc_X6_comesBack.find? (fun r => r.1 == 71) = some (71, .iload_n 3, 1, 0, 0, 0, 0) ∧ zc_X6_comesBack.find? (fun r => r.1 == 72) = some (72, .baload, 1, 0, 0, 0, 0) ∧ zc_X6_comesBack.find? (fun r => r.1 == 73) = some (73, .ifCond .eq 33, 3, 106, 0, 0, 0) ∧ zc_X6_comesBack.find? (fun r => r.1 == 76) = some (76, .aload_n 0, 1, 0, 0, 0, 0) ∧ zc_X6_comesBack.find? (fun r => r.1 == 77) = some (77, .getfield 16, 3, 6, 2, 881, 0) ∧ zc_X6_comesBack.find? (fun r => r.1 == 80) = some (80, .iload_n 3, 1, 0, 0, 0, 0) ∧ zc_X6_comesBack.find? (fun r => r.1 == 81) = some (81, .iaload, 1, 0, 0, 0, 0) ∧ zc_X6_comesBack.find? (fun r => r.1 == 82) = some (82, .iconst 1, 1, 0, 0, 0, 0) ∧ zc_X6_comesBack.find? (fun r => r.1 == 83) = some (83, .if_icmp .eq 23, 3, 106, 0, 0, 0) ∧ zc_X6_comesBack.find? (fun r => r.1 == 86) = some (86, .aload_n 0, 1, 0, 0, 0, 0) ∧ zc_X6_comesBack.find? (fun r => r.1 == 87) = some (87, .iload_n 3, 1, 0, 0, 0, 0) ∧ zc_X6_comesBack.find? (fun r => r.1 == 88) = some (88, .aload_n 0, 1, 0, 0, 0, 0) ∧ zc_X6_comesBack.find? (fun r => r.1 == 89) = some (89, .getfield 7, 3, 6, 0, 879, 0) ∧ zc_X6_comesBack.find? (fun r => r.1 == 92) = some (92, .iload_n 1, 1, 0, 0, 0, 0) ∧ zc_X6_comesBack.find? (fun r => r.1 == 93) = some (93, .iaload, 1, 0, 0, 0, 0) ∧ zc_X6_comesBack.find? (fun r => r.1 == 94) = some (94, .aload_n 0, 1, 0, 0, 0, 0) ∧ zc_X6_comesBack.find? (fun r => r.1 == 95) = some (95, .getfield 13, 3, 6, 1, 880, 0) ∧ zc_X6_comesBack.find? (fun r => r.1 == 98) = some (98, .iload_n 1, 1, 0, 0, 0, 0) ∧ zc_X6_comesBack.find? (fun r => r.1 == 99) = some (99, .iaload, 1, 0, 0, 0, 0) ∧ zc_X6_comesBack.find? (fun r => r.1 == 100) = some (100, .invokevirtual 184, 3, 182, 4, 1010, 6) ∧ zc_X6_comesBack.find? (fun r => r.1 == 103) = some (103, .ifCond .eq 7, 3, 110, 0, 0, 0) ∧ zc_X6_comesBack.find? (fun r => r.1 == 106) = some (106, .iconst 1, 1, 0, 0, 0, 0) ∧ zc_X6_comesBack.find? (fun r => r.1 == 107) = some (107, .goto 4, 3, 111, 0, 0, 0) ∧ zc_X6_comesBack.find? (fun r => r.1 == 110) = some (110, .iconst 0, 1, 0, 0, 0, 0) ∧ zc_X6_comesBack.find? (fun r => r.1 == 111) = some (111, .istore_n 2, 1, 0, 0, 0, 0) ∧ zc_X6_comesBack.find? (fun r => r.1 == 112) = some (112, .iinc 3 1, 3, 0, 0, 0, 0) ∧ zc_X6_comesBack.find? (fun r => r.1 == 115) = some (115, .goto (-58), 3, 57, 0, 0, 0) ∧ zc_X6_comesBack.find? (fun r => r.1 == 118) = some (118, .iload_n 2, 1, 0, 0, 0, 0) ∧ zc_X6_comesBack.find? (fun r => r.1 == 119) = some (119, .ireturn, 1, 0, 0, 0, 0) := zi_fdi (zc := zc_X6_comesBack) (by decide +kernel)
set_option maxRecDepth 100000 in
theorem zf_X6_bring : zc_X6_bring.find? (fun r => r.1 == 0) = some (0, .iconst 0, 1, 0, 0, 0, 0) ∧ zc_X6_bring.find? (fun r => r.1 == 1) = some (1, .istore_n 2, 1, 0, 0, 0, 0) ∧ zc_X6_bring.find? (fun r => r.1 == 2) = some (2, .aload_n 0, 1, 0, 0, 0, 0) ∧ zc_X6_bring.find? (fun r => r.1 == 3) = some (3, .iconst 3, 1, 0, 0, 0, 0) ∧ zc_X6_bring.find? (fun r => r.1 == 4) = some (4, .iload_n 1, 1, 0, 0, 0, 0) ∧ zc_X6_bring.find? (fun r => r.1 == 5) = some (5, .iadd, 1, 0, 0, 0, 0) ∧ zc_X6_bring.find? (fun r => r.1 == 6) = some (6, .invokevirtual 194, 3, 193, 2, 1018, 6) ∧ zc_X6_bring.find? (fun r => r.1 == 9) = some (9, .iconst 0, 1, 0, 0, 0, 0) ∧ zc_X6_bring.find? (fun r => r.1 == 10) = some (10, .istore_n 3, 1, 0, 0, 0, 0) ∧ zc_X6_bring.find? (fun r => r.1 == 11) = some (11, .iload_n 3, 1, 0, 0, 0, 0) ∧ zc_X6_bring.find? (fun r => r.1 == 12) = some (12, .aload_n 0, 1, 0, 0, 0, 0) ∧ zc_X6_bring.find? (fun r => r.1 == 13) = some (13, .getfield 133, 3, 6, 30, 909, 0) ∧ zc_X6_bring.find? (fun r => r.1 == 16) = some (16, .if_icmp .ge 80, 3, 96, 0, 0, 0) ∧ zc_X6_bring.find? (fun r => r.1 == 19) = some (19, .iconst 3, 1, 0, 0, 0, 0) ∧ zc_X6_bring.find? (fun r => r.1 == 20) = some (20, .iload_n 1, 1, 0, 0, 0, 0) ∧ zc_X6_bring.find? (fun r => r.1 == 21) = some (21, .iadd, 1, 0, 0, 0, 0) ∧ zc_X6_bring.find? (fun r => r.1 == 22) = some (22, .aload_n 0, 1, 0, 0, 0, 0) ∧ zc_X6_bring.find? (fun r => r.1 == 23) = some (23, .getfield 92, 3, 6, 29, 908, 0) ∧ zc_X6_bring.find? (fun r => r.1 == 26) = some (26, .iload_n 3, 1, 0, 0, 0, 0) ∧ zc_X6_bring.find? (fun r => r.1 == 27) = some (27, .iaload, 1, 0, 0, 0, 0) ∧ zc_X6_bring.find? (fun r => r.1 == 28) = some (28, .invokestatic 105, 3, 70, 2, 991, 0) ∧ zc_X6_bring.find? (fun r => r.1 == 31) = some (31, .istore 4, 2, 0, 0, 0, 0) ∧ zc_X6_bring.find? (fun r => r.1 == 33) = some (33, .iconst 0, 1, 0, 0, 0, 0) ∧ zc_X6_bring.find? (fun r => r.1 == 34) = some (34, .istore 5, 2, 0, 0, 0, 0) ∧ zc_X6_bring.find? (fun r => r.1 == 36) = some (36, .iload 5, 2, 0, 0, 0, 0) ∧ zc_X6_bring.find? (fun r => r.1 == 38) = some (38, .aload_n 0, 1, 0, 0, 0, 0) ∧ zc_X6_bring.find? (fun r => r.1 == 39) = some (39, .getfield 61, 3, 6, 19, 898, 0) ∧ zc_X6_bring.find? (fun r => r.1 == 42) = some (42, .iload 4, 2, 0, 0, 0, 0) ∧ zc_X6_bring.find? (fun r => r.1 == 44) = some (44, .iaload, 1, 0, 0, 0, 0) ∧ zc_X6_bring.find? (fun r => r.1 == 45) = some (45, .if_icmp .ge 45, 3, 90, 0, 0, 0) ∧ zc_X6_bring.find? (fun r => r.1 == 48) = some (48, .aload_n 0, 1, 0, 0, 0, 0) ∧ zc_X6_bring.find? (fun r => r.1 == 49) = some (49, .getfield 58, 3, 6, 18, 897, 0) ∧ zc_X6_bring.find? (fun r => r.1 == 52) = some (52, .bipush 10, 2, 0, 0, 0, 0) ∧ zc_X6_bring.find? (fun r => r.1 == 54) = some (54, .iload 4, 2, 0, 0, 0, 0) ∧ zc_X6_bring.find? (fun r => r.1 == 56) = some (56, .imul, 1, 0, 0, 0, 0) ∧ zc_X6_bring.find? (fun r => r.1 == 57) = some (57, .iload 5, 2, 0, 0, 0, 0) ∧ zc_X6_bring.find? (fun r => r.1 == 59) = some (59, .iadd, 1, 0, 0, 0, 0) ∧ zc_X6_bring.find? (fun r => r.1 == 60) = some (60, .iaload, 1, 0, 0, 0, 0) ∧ zc_X6_bring.find? (fun r => r.1 == 61) = some (61, .istore 6, 2, 0, 0, 0, 0) ∧ zc_X6_bring.find? (fun r => r.1 == 63) = some (63, .aload_n 0, 1, 0, 0, 0, 0) ∧ zc_X6_bring.find? (fun r => r.1 == 64) = some (64, .aload_n 0, 1, 0, 0, 0, 0) ∧ zc_X6_bring.find? (fun r => r.1 == 65) = some (65, .getfield 28, 3, 6, 6, 885, 0) ∧ zc_X6_bring.find? (fun r => r.1 == 68) = some (68, .iload 6, 2, 0, 0, 0, 0) ∧ zc_X6_bring.find? (fun r => r.1 == 70) = some (70, .iaload, 1, 0, 0, 0, 0) ∧ zc_X6_bring.find? (fun r => r.1 == 71) = some (71, .iload 6, 2, 0, 0, 0, 0) ∧ zc_X6_bring.find? (fun r => r.1 == 73) = some (73, .invokevirtual 197, 3, 176, 3, 1026, 6) ∧ zc_X6_bring.find? (fun r => r.1 == 76) = some (76, .aload_n 0, 1, 0, 0, 0, 0) ∧ zc_X6_bring.find? (fun r => r.1 == 77) = some (77, .getfield 28, 3, 6, 6, 885, 0) ∧ zc_X6_bring.find? (fun r => r.1 == 80) = some (80, .iload 6, 2, 0, 0, 0, 0) ∧ zc_X6_bring.find? (fun r => r.1 == 82) = some (82, .iload_n 1, 1, 0, 0, 0, 0) ∧ zc_X6_bring.find? (fun r => r.1 == 83) = some (83, .iastore, 1, 0, 0, 0, 0) ∧ zc_X6_bring.find? (fun r => r.1 == 84) = some (84, .iinc 5 1, 3, 0, 0, 0, 0) ∧ zc_X6_bring.find? (fun r => r.1 == 87) = some (87, .goto (-51), 3, 36, 0, 0, 0) ∧ zc_X6_bring.find? (fun r => r.1 == 90) = some (90, .iinc 3 1, 3, 0, 0, 0, 0) ∧ zc_X6_bring.find? (fun r => r.1 == 93) = some (93, .goto (-82), 3, 11, 0, 0, 0) ∧ zc_X6_bring.find? (fun r => r.1 == 96) = some (96, .aload_n 0, 1, 0, 0, 0, 0) ∧ zc_X6_bring.find? (fun r => r.1 == 97) = some (97, .iconst 3, 1, 0, 0, 0, 0) ∧ zc_X6_bring.find? (fun r => r.1 == 98) = some (98, .iload_n 1, 1, 0, 0, 0, 0) ∧ zc_X6_bring.find? (fun r => r.1 == 99) = some (99, .iadd, 1, 0, 0, 0, 0) ∧ zc_X6_bring.find? (fun r => r.1 == 100) = some (100, .iload_n 1, 1, 0, 0, 0, 0) ∧ zc_X6_bring.find? (fun r => r.1 == 101) = some (101, .invokevirtual 201, 3, 168, 3, 1046, 6) ∧ zc_X6_bring.find? (fun r => r.1 == 104) = some (104, .iconst 0, 1, 0, 0, 0, 0) ∧ zc_X6_bring.find? (fun r => r.1 == 105) = some (105, .istore_n 3, 1, 0, 0, 0, 0) ∧ zc_X6_bring.find? (fun r => r.1 == 106) = some (106, .iload_n 3, 1, 0, 0, 0, 0) ∧ zc_X6_bring.find? (fun r => r.1 == 107) = some (107, .bipush 10, 2, 0, 0, 0, 0) ∧ zc_X6_bring.find? (fun r => r.1 == 109) = some (109, .if_icmp .ge 154, 3, 263, 0, 0, 0) ∧ zc_X6_bring.find? (fun r => r.1 == 112) = some (112, .aload_n 0, 1, 0, 0, 0, 0) ∧ zc_X6_bring.find? (fun r => r.1 == 113) = some (113, .getfield 95, 3, 6, 31, 910, 0) ∧ zc_X6_bring.find? (fun r => r.1 == 116) = some (116, .iload_n 3, 1, 0, 0, 0, 0) ∧ zc_X6_bring.find? (fun r => r.1 == 117) = some (117, .baload, 1, 0, 0, 0, 0) ∧ zc_X6_bring.find? (fun r => r.1 == 118) = some (118, .ifCond .eq 139, 3, 257, 0, 0, 0) ∧ zc_X6_bring.find? (fun r => r.1 == 121) = some (121, .iinc 2 1, 3, 0, 0, 0, 0) ∧ zc_X6_bring.find? (fun r => r.1 == 124) = some (124, .aload_n 0, 1, 0, 0, 0, 0) ∧ zc_X6_bring.find? (fun r => r.1 == 125) = some (125, .getfield 16, 3, 6, 2, 881, 0) ∧ zc_X6_bring.find? (fun r => r.1 == 128) = some (128, .iload_n 3, 1, 0, 0, 0, 0) ∧ zc_X6_bring.find? (fun r => r.1 == 129) = some (129, .iaload, 1, 0, 0, 0, 0) ∧ zc_X6_bring.find? (fun r => r.1 == 130) = some (130, .iconst 1, 1, 0, 0, 0, 0) ∧ zc_X6_bring.find? (fun r => r.1 == 131) = some (131, .if_icmp .eq 72, 3, 203, 0, 0, 0) ∧ zc_X6_bring.find? (fun r => r.1 == 134) = some (134, .aload_n 0, 1, 0, 0, 0, 0) ∧ zc_X6_bring.find? (fun r => r.1 == 135) = some (135, .getfield 71, 3, 6, 22, 901, 0) ∧ zc_X6_bring.find? (fun r => r.1 == 138) = some (138, .bipush 10, 2, 0, 0, 0, 0) ∧ zc_X6_bring.find? (fun r => r.1 == 140) = some (140, .iload_n 1, 1, 0, 0, 0, 0) ∧ zc_X6_bring.find? (fun r => r.1 == 141) = some (141, .imul, 1, 0, 0, 0, 0) ∧ zc_X6_bring.find? (fun r => r.1 == 142) = some (142, .iload_n 3, 1, 0, 0, 0, 0) ∧ zc_X6_bring.find? (fun r => r.1 == 143) = some (143, .iadd, 1, 0, 0, 0, 0) ∧ zc_X6_bring.find? (fun r => r.1 == 144) = some (144, .baload, 1, 0, 0, 0, 0) ∧ zc_X6_bring.find? (fun r => r.1 == 145) = some (145, .istore 4, 2, 0, 0, 0, 0) ∧ zc_X6_bring.find? (fun r => r.1 == 147) = some (147, .aload_n 0, 1, 0, 0, 0, 0) ∧ zc_X6_bring.find? (fun r => r.1 == 148) = some (148, .iload_n 3, 1, 0, 0, 0, 0) ∧ zc_X6_bring.find? (fun r => r.1 == 149) = some (149, .iload_n 1, 1, 0, 0, 0, 0) ∧ zc_X6_bring.find? (fun r => r.1 == 150) = some (150, .iload 4, 2, 0, 0, 0, 0) ∧ zc_X6_bring.find? (fun r => r.1 == 152) = some (152, .ifCond .eq 17, 3, 169, 0, 0, 0) ∧ zc_X6_bring.find? (fun r => r.1 == 155) = some (155, .aload_n 0, 1, 0, 0, 0, 0) ∧ zc_X6_bring.find? (fun r => r.1 == 156) = some (156, .getfield 74, 3, 6, 23, 902, 0) ∧ zc_X6_bring.find? (fun r => r.1 == 159) = some (159, .bipush 10, 2, 0, 0, 0, 0) ∧ zc_X6_bring.find? (fun r => r.1 == 161) = some (161, .iload_n 1, 1, 0, 0, 0, 0) ∧ zc_X6_bring.find? (fun r => r.1 == 162) = some (162, .imul, 1, 0, 0, 0, 0) ∧ zc_X6_bring.find? (fun r => r.1 == 163) = some (163, .iload_n 3, 1, 0, 0, 0, 0) ∧ zc_X6_bring.find? (fun r => r.1 == 164) = some (164, .iadd, 1, 0, 0, 0, 0) ∧ zc_X6_bring.find? (fun r => r.1 == 165) = some (165, .iaload, 1, 0, 0, 0, 0) ∧ zc_X6_bring.find? (fun r => r.1 == 166) = some (166, .goto 9, 3, 175, 0, 0, 0) ∧ zc_X6_bring.find? (fun r => r.1 == 169) = some (169, .aload_n 0, 1, 0, 0, 0, 0) ∧ zc_X6_bring.find? (fun r => r.1 == 170) = some (170, .getfield 31, 3, 6, 7, 886, 0) ∧ zc_X6_bring.find? (fun r => r.1 == 173) = some (173, .iload_n 3, 1, 0, 0, 0, 0) ∧ zc_X6_bring.find? (fun r => r.1 == 174) = some (174, .iaload, 1, 0, 0, 0, 0) ∧ zc_X6_bring.find? (fun r => r.1 == 175) = some (175, .iload 4, 2, 0, 0, 0, 0) ∧ zc_X6_bring.find? (fun r => r.1 == 177) = some (177, .ifCond .eq 17, 3, 194, 0, 0, 0) ∧ zc_X6_bring.find? (fun r => r.1 == 180) = some (180, .aload_n 0, 1, 0, 0, 0, 0) ∧ zc_X6_bring.find? (fun r => r.1 == 181) = some (181, .getfield 77, 3, 6, 24, 903, 0) ∧ zc_X6_bring.find? (fun r => r.1 == 184) = some (184, .bipush 10, 2, 0, 0, 0, 0) ∧ zc_X6_bring.find? (fun r => r.1 == 186) = some (186, .iload_n 1, 1, 0, 0, 0, 0) ∧ zc_X6_bring.find? (fun r => r.1 == 187) = some (187, .imul, 1, 0, 0, 0, 0) ∧ zc_X6_bring.find? (fun r => r.1 == 188) = some (188, .iload_n 3, 1, 0, 0, 0, 0) ∧ zc_X6_bring.find? (fun r => r.1 == 189) = some (189, .iadd, 1, 0, 0, 0, 0) ∧ zc_X6_bring.find? (fun r => r.1 == 190) = some (190, .iaload, 1, 0, 0, 0, 0) ∧ zc_X6_bring.find? (fun r => r.1 == 191) = some (191, .goto 9, 3, 200, 0, 0, 0) ∧ zc_X6_bring.find? (fun r => r.1 == 194) = some (194, .aload_n 0, 1, 0, 0, 0, 0) ∧ zc_X6_bring.find? (fun r => r.1 == 195) = some (195, .getfield 34, 3, 6, 8, 887, 0) ∧ zc_X6_bring.find? (fun r => r.1 == 198) = some (198, .iload_n 3, 1, 0, 0, 0, 0) ∧ zc_X6_bring.find? (fun r => r.1 == 199) = some (199, .iaload, 1, 0, 0, 0, 0) ∧ zc_X6_bring.find? (fun r => r.1 == 200) = some (200, .invokevirtual 188, 3, 183, 5, 1050, 6) ∧ zc_X6_bring.find? (fun r => r.1 == 203) = some (203, .iconst 0, 1, 0, 0, 0, 0) ∧ zc_X6_bring.find? (fun r => r.1 == 204) = some (204, .istore 4, 2, 0, 0, 0, 0) ∧ zc_X6_bring.find? (fun r => r.1 == 206) = some (206, .iload 4, 2, 0, 0, 0, 0) ∧ zc_X6_bring.find? (fun r => r.1 == 208) = some (208, .iconst 3, 1, 0, 0, 0, 0) ∧ zc_X6_bring.find? (fun r => r.1 == 209) = some (209, .if_icmp .ge 48, 3, 257, 0, 0, 0) ∧ zc_X6_bring.find? (fun r => r.1 == 212) = some (212, .iload 4, 2, 0, 0, 0, 0) ∧ zc_X6_bring.find? (fun r => r.1 == 214) = some (214, .iload_n 1, 1, 0, 0, 0, 0) ∧ zc_X6_bring.find? (fun r => r.1 == 215) = some (215, .if_icmp .eq 36, 3, 251, 0, 0, 0) ∧ zc_X6_bring.find? (fun r => r.1 == 218) = some (218, .aload_n 0, 1, 0, 0, 0, 0) ∧ zc_X6_bring.find? (fun r => r.1 == 219) = some (219, .getfield 67, 3, 6, 21, 900, 0) ∧ zc_X6_bring.find? (fun r => r.1 == 222) = some (222, .iload 4, 2, 0, 0, 0, 0) ∧ zc_X6_bring.find? (fun r => r.1 == 224) = some (224, .baload, 1, 0, 0, 0, 0) ∧ zc_X6_bring.find? (fun r => r.1 == 225) = some (225, .ifCond .eq 26, 3, 251, 0, 0, 0) ∧ zc_X6_bring.find? (fun r => r.1 == 228) = some (228, .aload_n 0, 1, 0, 0, 0, 0) ∧ zc_X6_bring.find? (fun r => r.1 == 229) = some (229, .getfield 71, 3, 6, 22, 901, 0) ∧ zc_X6_bring.find? (fun r => r.1 == 232) = some (232, .bipush 10, 2, 0, 0, 0, 0) ∧ zc_X6_bring.find? (fun r => r.1 == 234) = some (234, .iload 4, 2, 0, 0, 0, 0) ∧ zc_X6_bring.find? (fun r => r.1 == 236) = some (236, .imul, 1, 0, 0, 0, 0) ∧ zc_X6_bring.find? (fun r => r.1 == 237) = some (237, .iload_n 3, 1, 0, 0, 0, 0) ∧ zc_X6_bring.find? (fun r => r.1 == 238) = some (238, .iadd, 1, 0, 0, 0, 0) ∧ zc_X6_bring.find? (fun r => r.1 == 239) = some (239, .baload, 1, 0, 0, 0, 0) ∧ zc_X6_bring.find? (fun r => r.1 == 240) = some (240, .ifCond .eq 11, 3, 251, 0, 0, 0) ∧ zc_X6_bring.find? (fun r => r.1 == 243) = some (243, .aload_n 0, 1, 0, 0, 0, 0) ∧ zc_X6_bring.find? (fun r => r.1 == 244) = some (244, .getfield 67, 3, 6, 21, 900, 0) ∧ zc_X6_bring.find? (fun r => r.1 == 247) = some (247, .iload 4, 2, 0, 0, 0, 0) ∧ zc_X6_bring.find? (fun r => r.1 == 249) = some (249, .iconst 0, 1, 0, 0, 0, 0) ∧ zc_X6_bring.find? (fun r => r.1 == 250) = some (250, .bastore, 1, 0, 0, 0, 0) ∧ zc_X6_bring.find? (fun r => r.1 == 251) = some (251, .iinc 4 1, 3, 0, 0, 0, 0) ∧ zc_X6_bring.find? (fun r => r.1 == 254) = some (254, .goto (-48), 3, 206, 0, 0, 0) ∧ zc_X6_bring.find? (fun r => r.1 == 257) = some (257, .iinc 3 1, 3, 0, 0, 0, 0) ∧ zc_X6_bring.find? (fun r => r.1 == 260) = some (260, .goto (-154), 3, 106, 0, 0, 0) ∧ zc_X6_bring.find? (fun r => r.1 == 263) = some (263, .iload_n 2, 1, 0, 0, 0, 0) ∧ zc_X6_bring.find? (fun r => r.1 == 264) = some (264, .ireturn, 1, 0, 0, 0, 0) := zi_fdi (zc := zc_X6_bring) (by decide +kernel)
set_option maxRecDepth 100000 in
theorem zf_X6_clearLeaves : zc_X6_clearLeaves.find? (fun r => r.1 == 0) = some (0, .aload_n 0, 1, 0, 0, 0, 0) ∧ zc_X6_clearLeaves.find? (fun r => r.1 == 1) = some (1, .iconst 0, 1, 0, 0, 0, 0) ∧ zc_X6_clearLeaves.find? (fun r => r.1 == 2) = some (2, .putfield 133, 3, 6, 30, 909, 0) ∧ zc_X6_clearLeaves.find? (fun r => r.1 == 5) = some (5, .aload_n 0, 1, 0, 0, 0, 0) ∧ zc_X6_clearLeaves.find? (fun r => r.1 == 6) = some (6, .getfield 43, 3, 6, 13, 892, 0) ∧ zc_X6_clearLeaves.find? (fun r => r.1 == 9) = some (9, .iload_n 1, 1, 0, 0, 0, 0) ∧ zc_X6_clearLeaves.find? (fun r => r.1 == 10) = some (10, .iaload, 1, 0, 0, 0, 0) ∧ zc_X6_clearLeaves.find? (fun r => r.1 == 11) = some (11, .ifCond .lt 14, 3, 25, 0, 0, 0) ∧ zc_X6_clearLeaves.find? (fun r => r.1 == 14) = some (14, .aload_n 0, 1, 0, 0, 0, 0) ∧ zc_X6_clearLeaves.find? (fun r => r.1 == 15) = some (15, .iload_n 1, 1, 0, 0, 0, 0) ∧ zc_X6_clearLeaves.find? (fun r => r.1 == 16) = some (16, .aload_n 0, 1, 0, 0, 0, 0) ∧ zc_X6_clearLeaves.find? (fun r => r.1 == 17) = some (17, .getfield 43, 3, 6, 13, 892, 0) ∧ zc_X6_clearLeaves.find? (fun r => r.1 == 20) = some (20, .iload_n 1, 1, 0, 0, 0, 0) ∧ zc_X6_clearLeaves.find? (fun r => r.1 == 21) = some (21, .iaload, 1, 0, 0, 0, 0) ∧ zc_X6_clearLeaves.find? (fun r => r.1 == 22) = some (22, .invokevirtual 204, 3, 194, 3, 1022, 6) ∧ zc_X6_clearLeaves.find? (fun r => r.1 == 25) = some (25, .return_, 1, 0, 0, 0, 0) := zi_fdi (zc := zc_X6_clearLeaves) (by decide +kernel)
set_option maxRecDepth 100000 in
theorem zf_X6_findLeaves : zc_X6_findLeaves.find? (fun r => r.1 == 0) = some (0, .aload_n 0, 1, 0, 0, 0, 0) ∧ zc_X6_findLeaves.find? (fun r => r.1 == 1) = some (1, .getfield 46, 3, 6, 14, 893, 0) ∧ zc_X6_findLeaves.find? (fun r => r.1 == 4) = some (4, .iload_n 1, 1, 0, 0, 0, 0) ∧ zc_X6_findLeaves.find? (fun r => r.1 == 5) = some (5, .iload_n 2, 1, 0, 0, 0, 0) ∧ zc_X6_findLeaves.find? (fun r => r.1 == 6) = some (6, .invokestatic 105, 3, 70, 2, 991, 0) ∧ zc_X6_findLeaves.find? (fun r => r.1 == 9) = some (9, .iaload, 1, 0, 0, 0, 0) ∧ zc_X6_findLeaves.find? (fun r => r.1 == 10) = some (10, .iconst 1, 1, 0, 0, 0, 0) ∧ zc_X6_findLeaves.find? (fun r => r.1 == 11) = some (11, .if_icmp .ne 26, 3, 37, 0, 0, 0) ∧ zc_X6_findLeaves.find? (fun r => r.1 == 14) = some (14, .aload_n 0, 1, 0, 0, 0, 0) ∧ zc_X6_findLeaves.find? (fun r => r.1 == 15) = some (15, .getfield 92, 3, 6, 29, 908, 0) ∧ zc_X6_findLeaves.find? (fun r => r.1 == 18) = some (18, .aload_n 0, 1, 0, 0, 0, 0) ∧ zc_X6_findLeaves.find? (fun r => r.1 == 19) = some (19, .getfield 133, 3, 6, 30, 909, 0) ∧ zc_X6_findLeaves.find? (fun r => r.1 == 22) = some (22, .iload_n 2, 1, 0, 0, 0, 0) ∧ zc_X6_findLeaves.find? (fun r => r.1 == 23) = some (23, .iastore, 1, 0, 0, 0, 0) ∧ zc_X6_findLeaves.find? (fun r => r.1 == 24) = some (24, .aload_n 0, 1, 0, 0, 0, 0) ∧ zc_X6_findLeaves.find? (fun r => r.1 == 25) = some (25, .dup, 1, 0, 0, 0, 0) ∧ zc_X6_findLeaves.find? (fun r => r.1 == 26) = some (26, .getfield 133, 3, 6, 30, 909, 0) ∧ zc_X6_findLeaves.find? (fun r => r.1 == 29) = some (29, .iconst 1, 1, 0, 0, 0, 0) ∧ zc_X6_findLeaves.find? (fun r => r.1 == 30) = some (30, .iadd, 1, 0, 0, 0, 0) ∧ zc_X6_findLeaves.find? (fun r => r.1 == 31) = some (31, .putfield 133, 3, 6, 30, 909, 0) ∧ zc_X6_findLeaves.find? (fun r => r.1 == 34) = some (34, .goto 33, 3, 67, 0, 0, 0) ∧ zc_X6_findLeaves.find? (fun r => r.1 == 37) = some (37, .aload_n 0, 1, 0, 0, 0, 0) ∧ zc_X6_findLeaves.find? (fun r => r.1 == 38) = some (38, .iload_n 1, 1, 0, 0, 0, 0) ∧ zc_X6_findLeaves.find? (fun r => r.1 == 39) = some (39, .aload_n 0, 1, 0, 0, 0, 0) ∧ zc_X6_findLeaves.find? (fun r => r.1 == 40) = some (40, .getfield 49, 3, 6, 15, 894, 0) ∧ zc_X6_findLeaves.find? (fun r => r.1 == 43) = some (43, .iload_n 1, 1, 0, 0, 0, 0) ∧ zc_X6_findLeaves.find? (fun r => r.1 == 44) = some (44, .iload_n 2, 1, 0, 0, 0, 0) ∧ zc_X6_findLeaves.find? (fun r => r.1 == 45) = some (45, .invokestatic 105, 3, 70, 2, 991, 0) ∧ zc_X6_findLeaves.find? (fun r => r.1 == 48) = some (48, .iaload, 1, 0, 0, 0, 0) ∧ zc_X6_findLeaves.find? (fun r => r.1 == 49) = some (49, .invokevirtual 204, 3, 194, 3, 1022, 6) ∧ zc_X6_findLeaves.find? (fun r => r.1 == 52) = some (52, .aload_n 0, 1, 0, 0, 0, 0) ∧ zc_X6_findLeaves.find? (fun r => r.1 == 53) = some (53, .iload_n 1, 1, 0, 0, 0, 0) ∧ zc_X6_findLeaves.find? (fun r => r.1 == 54) = some (54, .aload_n 0, 1, 0, 0, 0, 0) ∧ zc_X6_findLeaves.find? (fun r => r.1 == 55) = some (55, .getfield 52, 3, 6, 16, 895, 0) ∧ zc_X6_findLeaves.find? (fun r => r.1 == 58) = some (58, .iload_n 1, 1, 0, 0, 0, 0) ∧ zc_X6_findLeaves.find? (fun r => r.1 == 59) = some (59, .iload_n 2, 1, 0, 0, 0, 0) ∧ zc_X6_findLeaves.find? (fun r => r.1 == 60) = some (60, .invokestatic 105, 3, 70, 2, 991, 0) ∧ zc_X6_findLeaves.find? (fun r => r.1 == 63) = some (63, .iaload, 1, 0, 0, 0, 0) ∧ zc_X6_findLeaves.find? (fun r => r.1 == 64) = some (64, .invokevirtual 204, 3, 194, 3, 1022, 6) ∧ zc_X6_findLeaves.find? (fun r => r.1 == 67) = some (67, .return_, 1, 0, 0, 0, 0) := zi_fdi (zc := zc_X6_findLeaves) (by decide +kernel)
set_option maxRecDepth 100000 in
theorem zf_X6_moveTabs : zc_X6_moveTabs.find? (fun r => r.1 == 0) = some (0, .aload_n 0, 1, 0, 0, 0, 0) ∧ zc_X6_moveTabs.find? (fun r => r.1 == 1) = some (1, .iload_n 2, 1, 0, 0, 0, 0) ∧ zc_X6_moveTabs.find? (fun r => r.1 == 2) = some (2, .invokevirtual 194, 3, 193, 2, 1018, 6) ∧ zc_X6_moveTabs.find? (fun r => r.1 == 5) = some (5, .aload_n 0, 1, 0, 0, 0, 0) ∧ zc_X6_moveTabs.find? (fun r => r.1 == 6) = some (6, .getfield 133, 3, 6, 30, 909, 0) ∧ zc_X6_moveTabs.find? (fun r => r.1 == 9) = some (9, .ifCond .le 12, 3, 21, 0, 0, 0) ∧ zc_X6_moveTabs.find? (fun r => r.1 == 12) = some (12, .aload_n 0, 1, 0, 0, 0, 0) ∧ zc_X6_moveTabs.find? (fun r => r.1 == 13) = some (13, .getfield 92, 3, 6, 29, 908, 0) ∧ zc_X6_moveTabs.find? (fun r => r.1 == 16) = some (16, .iconst 0, 1, 0, 0, 0, 0) ∧ zc_X6_moveTabs.find? (fun r => r.1 == 17) = some (17, .iaload, 1, 0, 0, 0, 0) ∧ zc_X6_moveTabs.find? (fun r => r.1 == 18) = some (18, .goto 4, 3, 22, 0, 0, 0) ∧ zc_X6_moveTabs.find? (fun r => r.1 == 21) = some (21, .iconst (-1), 1, 0, 0, 0, 0) ∧ zc_X6_moveTabs.find? (fun r => r.1 == 22) = some (22, .istore_n 3, 1, 0, 0, 0, 0) ∧ zc_X6_moveTabs.find? (fun r => r.1 == 23) = some (23, .aload_n 0, 1, 0, 0, 0, 0) ∧ zc_X6_moveTabs.find? (fun r => r.1 == 24) = some (24, .iload_n 1, 1, 0, 0, 0, 0) ∧ zc_X6_moveTabs.find? (fun r => r.1 == 25) = some (25, .invokevirtual 194, 3, 193, 2, 1018, 6) ∧ zc_X6_moveTabs.find? (fun r => r.1 == 28) = some (28, .iconst 0, 1, 0, 0, 0, 0) ∧ zc_X6_moveTabs.find? (fun r => r.1 == 29) = some (29, .istore 4, 2, 0, 0, 0, 0) ∧ zc_X6_moveTabs.find? (fun r => r.1 == 31) = some (31, .iconst 0, 1, 0, 0, 0, 0) ∧ zc_X6_moveTabs.find? (fun r => r.1 == 32) = some (32, .istore 5, 2, 0, 0, 0, 0) ∧ zc_X6_moveTabs.find? (fun r => r.1 == 34) = some (34, .iload 5, 2, 0, 0, 0, 0) ∧ zc_X6_moveTabs.find? (fun r => r.1 == 36) = some (36, .aload_n 0, 1, 0, 0, 0, 0) ∧ zc_X6_moveTabs.find? (fun r => r.1 == 37) = some (37, .getfield 133, 3, 6, 30, 909, 0) ∧ zc_X6_moveTabs.find? (fun r => r.1 == 40) = some (40, .if_icmp .ge 91, 3, 131, 0, 0, 0) ∧ zc_X6_moveTabs.find? (fun r => r.1 == 43) = some (43, .iload_n 1, 1, 0, 0, 0, 0) ∧ zc_X6_moveTabs.find? (fun r => r.1 == 44) = some (44, .aload_n 0, 1, 0, 0, 0, 0) ∧ zc_X6_moveTabs.find? (fun r => r.1 == 45) = some (45, .getfield 92, 3, 6, 29, 908, 0) ∧ zc_X6_moveTabs.find? (fun r => r.1 == 48) = some (48, .iload 5, 2, 0, 0, 0, 0) ∧ zc_X6_moveTabs.find? (fun r => r.1 == 50) = some (50, .iaload, 1, 0, 0, 0, 0) ∧ zc_X6_moveTabs.find? (fun r => r.1 == 51) = some (51, .invokestatic 105, 3, 70, 2, 991, 0) ∧ zc_X6_moveTabs.find? (fun r => r.1 == 54) = some (54, .istore 6, 2, 0, 0, 0, 0) ∧ zc_X6_moveTabs.find? (fun r => r.1 == 56) = some (56, .iconst 0, 1, 0, 0, 0, 0) ∧ zc_X6_moveTabs.find? (fun r => r.1 == 57) = some (57, .istore 7, 2, 0, 0, 0, 0) ∧ zc_X6_moveTabs.find? (fun r => r.1 == 59) = some (59, .iload 7, 2, 0, 0, 0, 0) ∧ zc_X6_moveTabs.find? (fun r => r.1 == 61) = some (61, .aload_n 0, 1, 0, 0, 0, 0) ∧ zc_X6_moveTabs.find? (fun r => r.1 == 62) = some (62, .getfield 61, 3, 6, 19, 898, 0) ∧ zc_X6_moveTabs.find? (fun r => r.1 == 65) = some (65, .iload 6, 2, 0, 0, 0, 0) ∧ zc_X6_moveTabs.find? (fun r => r.1 == 67) = some (67, .iaload, 1, 0, 0, 0, 0) ∧ zc_X6_moveTabs.find? (fun r => r.1 == 68) = some (68, .if_icmp .ge 57, 3, 125, 0, 0, 0) ∧ zc_X6_moveTabs.find? (fun r => r.1 == 71) = some (71, .aload_n 0, 1, 0, 0, 0, 0) ∧ zc_X6_moveTabs.find? (fun r => r.1 == 72) = some (72, .getfield 58, 3, 6, 18, 897, 0) ∧ zc_X6_moveTabs.find? (fun r => r.1 == 75) = some (75, .bipush 10, 2, 0, 0, 0, 0) ∧ zc_X6_moveTabs.find? (fun r => r.1 == 77) = some (77, .iload 6, 2, 0, 0, 0, 0) ∧ zc_X6_moveTabs.find? (fun r => r.1 == 79) = some (79, .imul, 1, 0, 0, 0, 0) ∧ zc_X6_moveTabs.find? (fun r => r.1 == 80) = some (80, .iload 7, 2, 0, 0, 0, 0) ∧ zc_X6_moveTabs.find? (fun r => r.1 == 82) = some (82, .iadd, 1, 0, 0, 0, 0) ∧ zc_X6_moveTabs.find? (fun r => r.1 == 83) = some (83, .iaload, 1, 0, 0, 0, 0) ∧ zc_X6_moveTabs.find? (fun r => r.1 == 84) = some (84, .istore 8, 2, 0, 0, 0, 0) ∧ zc_X6_moveTabs.find? (fun r => r.1 == 86) = some (86, .iload_n 3, 1, 0, 0, 0, 0) ∧ zc_X6_moveTabs.find? (fun r => r.1 == 87) = some (87, .ifCond .ge 21, 3, 108, 0, 0, 0) ∧ zc_X6_moveTabs.find? (fun r => r.1 == 90) = some (90, .aload_n 0, 1, 0, 0, 0, 0) ∧ zc_X6_moveTabs.find? (fun r => r.1 == 91) = some (91, .iload_n 2, 1, 0, 0, 0, 0) ∧ zc_X6_moveTabs.find? (fun r => r.1 == 92) = some (92, .iload 8, 2, 0, 0, 0, 0) ∧ zc_X6_moveTabs.find? (fun r => r.1 == 94) = some (94, .invokevirtual 126, 3, 170, 3, 1070, 6) ∧ zc_X6_moveTabs.find? (fun r => r.1 == 97) = some (97, .istore_n 3, 1, 0, 0, 0, 0) ∧ zc_X6_moveTabs.find? (fun r => r.1 == 98) = some (98, .aload_n 0, 1, 0, 0, 0, 0) ∧ zc_X6_moveTabs.find? (fun r => r.1 == 99) = some (99, .getfield 43, 3, 6, 13, 892, 0) ∧ zc_X6_moveTabs.find? (fun r => r.1 == 102) = some (102, .iload_n 2, 1, 0, 0, 0, 0) ∧ zc_X6_moveTabs.find? (fun r => r.1 == 103) = some (103, .iload_n 3, 1, 0, 0, 0, 0) ∧ zc_X6_moveTabs.find? (fun r => r.1 == 104) = some (104, .iastore, 1, 0, 0, 0, 0) ∧ zc_X6_moveTabs.find? (fun r => r.1 == 105) = some (105, .goto 11, 3, 116, 0, 0, 0) ∧ zc_X6_moveTabs.find? (fun r => r.1 == 108) = some (108, .aload_n 0, 1, 0, 0, 0, 0) ∧ zc_X6_moveTabs.find? (fun r => r.1 == 109) = some (109, .iload_n 2, 1, 0, 0, 0, 0) ∧ zc_X6_moveTabs.find? (fun r => r.1 == 110) = some (110, .iload_n 3, 1, 0, 0, 0, 0) ∧ zc_X6_moveTabs.find? (fun r => r.1 == 111) = some (111, .iload 8, 2, 0, 0, 0, 0) ∧ zc_X6_moveTabs.find? (fun r => r.1 == 113) = some (113, .invokevirtual 210, 3, 171, 4, 1078, 6) ∧ zc_X6_moveTabs.find? (fun r => r.1 == 116) = some (116, .iinc 4 1, 3, 0, 0, 0, 0) ∧ zc_X6_moveTabs.find? (fun r => r.1 == 119) = some (119, .iinc 7 1, 3, 0, 0, 0, 0) ∧ zc_X6_moveTabs.find? (fun r => r.1 == 122) = some (122, .goto (-63), 3, 59, 0, 0, 0) ∧ zc_X6_moveTabs.find? (fun r => r.1 == 125) = some (125, .iinc 5 1, 3, 0, 0, 0, 0) ∧ zc_X6_moveTabs.find? (fun r => r.1 == 128) = some (128, .goto (-94), 3, 34, 0, 0, 0) ∧ zc_X6_moveTabs.find? (fun r => r.1 == 131) = some (131, .iload 4, 2, 0, 0, 0, 0) ∧ zc_X6_moveTabs.find? (fun r => r.1 == 133) = some (133, .ireturn, 1, 0, 0, 0, 0) := zi_fdi (zc := zc_X6_moveTabs) (by decide +kernel)
set_option maxRecDepth 100000 in
theorem zf_X6_tile : zc_X6_tile.find? (fun r => r.1 == 0) = some (0, .iconst (-1), 1, 0, 0, 0, 0) ∧ zc_X6_tile.find? (fun r => r.1 == 1) = some (1, .istore_n 3, 1, 0, 0, 0, 0) ∧ zc_X6_tile.find? (fun r => r.1 == 2) = some (2, .aload_n 0, 1, 0, 0, 0, 0) ∧ zc_X6_tile.find? (fun r => r.1 == 3) = some (3, .getfield 160, 3, 6, 12, 891, 0) ∧ zc_X6_tile.find? (fun r => r.1 == 6) = some (6, .iconst 1, 1, 0, 0, 0, 0) ∧ zc_X6_tile.find? (fun r => r.1 == 7) = some (7, .isub, 1, 0, 0, 0, 0) ∧ zc_X6_tile.find? (fun r => r.1 == 8) = some (8, .istore 4, 2, 0, 0, 0, 0) ∧ zc_X6_tile.find? (fun r => r.1 == 10) = some (10, .iload 4, 2, 0, 0, 0, 0) ∧ zc_X6_tile.find? (fun r => r.1 == 12) = some (12, .ifCond .lt 58, 3, 70, 0, 0, 0) ∧ zc_X6_tile.find? (fun r => r.1 == 15) = some (15, .aload_n 0, 1, 0, 0, 0, 0) ∧ zc_X6_tile.find? (fun r => r.1 == 16) = some (16, .getfield 16, 3, 6, 2, 881, 0) ∧ zc_X6_tile.find? (fun r => r.1 == 19) = some (19, .aload_n 0, 1, 0, 0, 0, 0) ∧ zc_X6_tile.find? (fun r => r.1 == 20) = some (20, .getfield 40, 3, 6, 11, 890, 0) ∧ zc_X6_tile.find? (fun r => r.1 == 23) = some (23, .iload 4, 2, 0, 0, 0, 0) ∧ zc_X6_tile.find? (fun r => r.1 == 25) = some (25, .iaload, 1, 0, 0, 0, 0) ∧ zc_X6_tile.find? (fun r => r.1 == 26) = some (26, .iaload, 1, 0, 0, 0, 0) ∧ zc_X6_tile.find? (fun r => r.1 == 27) = some (27, .iconst 1, 1, 0, 0, 0, 0) ∧ zc_X6_tile.find? (fun r => r.1 == 28) = some (28, .if_icmp .ne 34, 3, 62, 0, 0, 0) ∧ zc_X6_tile.find? (fun r => r.1 == 31) = some (31, .aload_n 0, 1, 0, 0, 0, 0) ∧ zc_X6_tile.find? (fun r => r.1 == 32) = some (32, .getfield 28, 3, 6, 6, 885, 0) ∧ zc_X6_tile.find? (fun r => r.1 == 35) = some (35, .aload_n 0, 1, 0, 0, 0, 0) ∧ zc_X6_tile.find? (fun r => r.1 == 36) = some (36, .getfield 40, 3, 6, 11, 890, 0) ∧ zc_X6_tile.find? (fun r => r.1 == 39) = some (39, .iload 4, 2, 0, 0, 0, 0) ∧ zc_X6_tile.find? (fun r => r.1 == 41) = some (41, .iaload, 1, 0, 0, 0, 0) ∧ zc_X6_tile.find? (fun r => r.1 == 42) = some (42, .iaload, 1, 0, 0, 0, 0) ∧ zc_X6_tile.find? (fun r => r.1 == 43) = some (43, .iload_n 2, 1, 0, 0, 0, 0) ∧ zc_X6_tile.find? (fun r => r.1 == 44) = some (44, .if_icmp .ne 18, 3, 62, 0, 0, 0) ∧ zc_X6_tile.find? (fun r => r.1 == 47) = some (47, .aload_n 0, 1, 0, 0, 0, 0) ∧ zc_X6_tile.find? (fun r => r.1 == 48) = some (48, .iload_n 2, 1, 0, 0, 0, 0) ∧ zc_X6_tile.find? (fun r => r.1 == 49) = some (49, .aload_n 0, 1, 0, 0, 0, 0) ∧ zc_X6_tile.find? (fun r => r.1 == 50) = some (50, .getfield 40, 3, 6, 11, 890, 0) ∧ zc_X6_tile.find? (fun r => r.1 == 53) = some (53, .iload 4, 2, 0, 0, 0, 0) ∧ zc_X6_tile.find? (fun r => r.1 == 55) = some (55, .iaload, 1, 0, 0, 0, 0) ∧ zc_X6_tile.find? (fun r => r.1 == 56) = some (56, .invokevirtual 116, 3, 173, 3, 1030, 6) ∧ zc_X6_tile.find? (fun r => r.1 == 59) = some (59, .goto 4, 3, 63, 0, 0, 0) ∧ zc_X6_tile.find? (fun r => r.1 == 62) = some (62, .iload_n 3, 1, 0, 0, 0, 0) ∧ zc_X6_tile.find? (fun r => r.1 == 63) = some (63, .istore_n 3, 1, 0, 0, 0, 0) ∧ zc_X6_tile.find? (fun r => r.1 == 64) = some (64, .iinc 4 (-1), 3, 0, 0, 0, 0) ∧ zc_X6_tile.find? (fun r => r.1 == 67) = some (67, .goto (-57), 3, 10, 0, 0, 0) ∧ zc_X6_tile.find? (fun r => r.1 == 70) = some (70, .iload_n 3, 1, 0, 0, 0, 0) ∧ zc_X6_tile.find? (fun r => r.1 == 71) = some (71, .ifCond .ge 29, 3, 100, 0, 0, 0) ∧ zc_X6_tile.find? (fun r => r.1 == 74) = some (74, .aload_n 0, 1, 0, 0, 0, 0) ∧ zc_X6_tile.find? (fun r => r.1 == 75) = some (75, .bipush 6, 2, 0, 0, 0, 0) ∧ zc_X6_tile.find? (fun r => r.1 == 77) = some (77, .invokevirtual 167, 3, 71, 2, 987, 6) ∧ zc_X6_tile.find? (fun r => r.1 == 80) = some (80, .aload_n 0, 1, 0, 0, 0, 0) ∧ zc_X6_tile.find? (fun r => r.1 == 81) = some (81, .getfield 43, 3, 6, 13, 892, 0) ∧ zc_X6_tile.find? (fun r => r.1 == 84) = some (84, .bipush 6, 2, 0, 0, 0, 0) ∧ zc_X6_tile.find? (fun r => r.1 == 86) = some (86, .aload_n 0, 1, 0, 0, 0, 0) ∧ zc_X6_tile.find? (fun r => r.1 == 87) = some (87, .bipush 6, 2, 0, 0, 0, 0) ∧ zc_X6_tile.find? (fun r => r.1 == 89) = some (89, .iload_n 1, 1, 0, 0, 0, 0) ∧ zc_X6_tile.find? (fun r => r.1 == 90) = some (90, .invokevirtual 126, 3, 170, 3, 1070, 6) ∧ zc_X6_tile.find? (fun r => r.1 == 93) = some (93, .iastore, 1, 0, 0, 0, 0) ∧ zc_X6_tile.find? (fun r => r.1 == 94) = some (94, .aload_n 0, 1, 0, 0, 0, 0) ∧ zc_X6_tile.find? (fun r => r.1 == 95) = some (95, .iload_n 2, 1, 0, 0, 0, 0) ∧ zc_X6_tile.find? (fun r => r.1 == 96) = some (96, .invokevirtual 237, 3, 197, 2, 1103, 6) ∧ zc_X6_tile.find? (fun r => r.1 == 99) = some (99, .ireturn, 1, 0, 0, 0, 0) ∧ zc_X6_tile.find? (fun r => r.1 == 100) = some (100, .aload_n 0, 1, 0, 0, 0, 0) ∧ zc_X6_tile.find? (fun r => r.1 == 101) = some (101, .iload_n 2, 1, 0, 0, 0, 0) ∧ zc_X6_tile.find? (fun r => r.1 == 102) = some (102, .invokevirtual 240, 3, 181, 2, 1107, 6) ∧ zc_X6_tile.find? (fun r => r.1 == 105) = some (105, .aload_n 0, 1, 0, 0, 0, 0) ∧ zc_X6_tile.find? (fun r => r.1 == 106) = some (106, .getfield 86, 3, 6, 27, 906, 0) ∧ zc_X6_tile.find? (fun r => r.1 == 109) = some (109, .iload_n 3, 1, 0, 0, 0, 0) ∧ zc_X6_tile.find? (fun r => r.1 == 110) = some (110, .iaload, 1, 0, 0, 0, 0) ∧ zc_X6_tile.find? (fun r => r.1 == 111) = some (111, .aload_n 0, 1, 0, 0, 0, 0) ∧ zc_X6_tile.find? (fun r => r.1 == 112) = some (112, .getfield 89, 3, 6, 28, 907, 0) ∧ zc_X6_tile.find? (fun r => r.1 == 115) = some (115, .iload_n 3, 1, 0, 0, 0, 0) ∧ zc_X6_tile.find? (fun r => r.1 == 116) = some (116, .iaload, 1, 0, 0, 0, 0) ∧ zc_X6_tile.find? (fun r => r.1 == 117) = some (117, .if_icmp .lt 7, 3, 124, 0, 0, 0) ∧ zc_X6_tile.find? (fun r => r.1 == 120) = some (120, .iconst 1, 1, 0, 0, 0, 0) ∧ zc_X6_tile.find? (fun r => r.1 == 121) = some (121, .goto 4, 3, 125, 0, 0, 0) ∧ zc_X6_tile.find? (fun r => r.1 == 124) = some (124, .iconst 0, 1, 0, 0, 0, 0) ∧ zc_X6_tile.find? (fun r => r.1 == 125) = some (125, .istore 4, 2, 0, 0, 0, 0) ∧ zc_X6_tile.find? (fun r => r.1 == 127) = some (127, .iconst 0, 1, 0, 0, 0, 0) ∧ zc_X6_tile.find? (fun r => r.1 == 128) = some (128, .istore 5, 2, 0, 0, 0, 0) ∧ zc_X6_tile.find? (fun r => r.1 == 130) = some (130, .iload 5, 2, 0, 0, 0, 0) ∧ zc_X6_tile.find? (fun r => r.1 == 132) = some (132, .iconst 3, 1, 0, 0, 0, 0) ∧ zc_X6_tile.find? (fun r => r.1 == 133) = some (133, .if_icmp .ge 72, 3, 205, 0, 0, 0) ∧ zc_X6_tile.find? (fun r => r.1 == 136) = some (136, .aload_n 0, 1, 0, 0, 0, 0) ∧ zc_X6_tile.find? (fun r => r.1 == 137) = some (137, .iload_n 2, 1, 0, 0, 0, 0) ∧ zc_X6_tile.find? (fun r => r.1 == 138) = some (138, .bipush 6, 2, 0, 0, 0, 0) ∧ zc_X6_tile.find? (fun r => r.1 == 140) = some (140, .invokevirtual 201, 3, 168, 3, 1046, 6) ∧ zc_X6_tile.find? (fun r => r.1 == 143) = some (143, .iload 5, 2, 0, 0, 0, 0) ∧ zc_X6_tile.find? (fun r => r.1 == 145) = some (145, .iconst 2, 1, 0, 0, 0, 0) ∧ zc_X6_tile.find? (fun r => r.1 == 146) = some (146, .if_icmp .ge 35, 3, 181, 0, 0, 0) ∧ zc_X6_tile.find? (fun r => r.1 == 149) = some (149, .aload_n 0, 1, 0, 0, 0, 0) ∧ zc_X6_tile.find? (fun r => r.1 == 150) = some (150, .bipush 6, 2, 0, 0, 0, 0) ∧ zc_X6_tile.find? (fun r => r.1 == 152) = some (152, .iload_n 3, 1, 0, 0, 0, 0) ∧ zc_X6_tile.find? (fun r => r.1 == 153) = some (153, .iload 4, 2, 0, 0, 0, 0) ∧ zc_X6_tile.find? (fun r => r.1 == 155) = some (155, .iload 5, 2, 0, 0, 0, 0) ∧ zc_X6_tile.find? (fun r => r.1 == 157) = some (157, .ifCond .ne 7, 3, 164, 0, 0, 0) ∧ zc_X6_tile.find? (fun r => r.1 == 160) = some (160, .iconst 1, 1, 0, 0, 0, 0) ∧ zc_X6_tile.find? (fun r => r.1 == 161) = some (161, .goto 4, 3, 165, 0, 0, 0) ∧ zc_X6_tile.find? (fun r => r.1 == 164) = some (164, .iconst 0, 1, 0, 0, 0, 0) ∧ zc_X6_tile.find? (fun r => r.1 == 165) = some (165, .if_icmp .ne 7, 3, 172, 0, 0, 0) ∧ zc_X6_tile.find? (fun r => r.1 == 168) = some (168, .iconst 2, 1, 0, 0, 0, 0) ∧ zc_X6_tile.find? (fun r => r.1 == 169) = some (169, .goto 4, 3, 173, 0, 0, 0) ∧ zc_X6_tile.find? (fun r => r.1 == 172) = some (172, .iconst 3, 1, 0, 0, 0, 0) ∧ zc_X6_tile.find? (fun r => r.1 == 173) = some (173, .iload_n 1, 1, 0, 0, 0, 0) ∧ zc_X6_tile.find? (fun r => r.1 == 174) = some (174, .iconst 0, 1, 0, 0, 0, 0) ∧ zc_X6_tile.find? (fun r => r.1 == 175) = some (175, .invokevirtual 243, 3, 177, 6, 1115, 6) ∧ zc_X6_tile.find? (fun r => r.1 == 178) = some (178, .goto 11, 3, 189, 0, 0, 0) ∧ zc_X6_tile.find? (fun r => r.1 == 181) = some (181, .aload_n 0, 1, 0, 0, 0, 0) ∧ zc_X6_tile.find? (fun r => r.1 == 182) = some (182, .bipush 6, 2, 0, 0, 0, 0) ∧ zc_X6_tile.find? (fun r => r.1 == 184) = some (184, .iload_n 3, 1, 0, 0, 0, 0) ∧ zc_X6_tile.find? (fun r => r.1 == 185) = some (185, .iload_n 1, 1, 0, 0, 0, 0) ∧ zc_X6_tile.find? (fun r => r.1 == 186) = some (186, .invokevirtual 210, 3, 171, 4, 1078, 6) ∧ zc_X6_tile.find? (fun r => r.1 == 189) = some (189, .aload_n 0, 1, 0, 0, 0, 0) ∧ zc_X6_tile.find? (fun r => r.1 == 190) = some (190, .iload_n 2, 1, 0, 0, 0, 0) ∧ zc_X6_tile.find? (fun r => r.1 == 191) = some (191, .invokevirtual 237, 3, 197, 2, 1103, 6) ∧ zc_X6_tile.find? (fun r => r.1 == 194) = some (194, .ifCond .eq 5, 3, 199, 0, 0, 0) ∧ zc_X6_tile.find? (fun r => r.1 == 197) = some (197, .iconst 1, 1, 0, 0, 0, 0) ∧ zc_X6_tile.find? (fun r => r.1 == 198) = some (198, .ireturn, 1, 0, 0, 0, 0) ∧ zc_X6_tile.find? (fun r => r.1 == 199) = some (199, .iinc 5 1, 3, 0, 0, 0, 0) ∧ zc_X6_tile.find? (fun r => r.1 == 202) = some (202, .goto (-72), 3, 130, 0, 0, 0) ∧ zc_X6_tile.find? (fun r => r.1 == 205) = some (205, .iconst 0, 1, 0, 0, 0, 0) ∧ zc_X6_tile.find? (fun r => r.1 == 206) = some (206, .ireturn, 1, 0, 0, 0, 0) := zi_fdi (zc := zc_X6_tile) (by decide +kernel)
set_option maxRecDepth 100000 in
theorem zf_X6_takesTrial : zc_X6_takesTrial.find? (fun r => r.1 == 0) = some (0, .aload_n 0, 1, 0, 0, 0, 0) ∧ zc_X6_takesTrial.find? (fun r => r.1 == 1) = some (1, .bipush 6, 2, 0, 0, 0, 0) ∧ zc_X6_takesTrial.find? (fun r => r.1 == 3) = some (3, .aload_n 0, 1, 0, 0, 0, 0) ∧ zc_X6_takesTrial.find? (fun r => r.1 == 4) = some (4, .getfield 7, 3, 6, 0, 879, 0) ∧ zc_X6_takesTrial.find? (fun r => r.1 == 7) = some (7, .iload_n 1, 1, 0, 0, 0, 0) ∧ zc_X6_takesTrial.find? (fun r => r.1 == 8) = some (8, .iaload, 1, 0, 0, 0, 0) ∧ zc_X6_takesTrial.find? (fun r => r.1 == 9) = some (9, .aload_n 0, 1, 0, 0, 0, 0) ∧ zc_X6_takesTrial.find? (fun r => r.1 == 10) = some (10, .getfield 13, 3, 6, 1, 880, 0) ∧ zc_X6_takesTrial.find? (fun r => r.1 == 13) = some (13, .iload_n 1, 1, 0, 0, 0, 0) ∧ zc_X6_takesTrial.find? (fun r => r.1 == 14) = some (14, .iaload, 1, 0, 0, 0, 0) ∧ zc_X6_takesTrial.find? (fun r => r.1 == 15) = some (15, .invokevirtual 177, 3, 179, 4, 1002, 6) ∧ zc_X6_takesTrial.find? (fun r => r.1 == 18) = some (18, .ifCond .ne 5, 3, 23, 0, 0, 0) ∧ zc_X6_takesTrial.find? (fun r => r.1 == 21) = some (21, .iconst 0, 1, 0, 0, 0, 0) ∧ zc_X6_takesTrial.find? (fun r => r.1 == 22) = some (22, .ireturn, 1, 0, 0, 0, 0) ∧ zc_X6_takesTrial.find? (fun r => r.1 == 23) = some (23, .aload_n 0, 1, 0, 0, 0, 0) ∧ zc_X6_takesTrial.find? (fun r => r.1 == 24) = some (24, .bipush 6, 2, 0, 0, 0, 0) ∧ zc_X6_takesTrial.find? (fun r => r.1 == 26) = some (26, .iload_n 1, 1, 0, 0, 0, 0) ∧ zc_X6_takesTrial.find? (fun r => r.1 == 27) = some (27, .invokevirtual 201, 3, 168, 3, 1046, 6) ∧ zc_X6_takesTrial.find? (fun r => r.1 == 30) = some (30, .iconst 1, 1, 0, 0, 0, 0) ∧ zc_X6_takesTrial.find? (fun r => r.1 == 31) = some (31, .ireturn, 1, 0, 0, 0, 0) := zi_fdi (zc := zc_X6_takesTrial) (by decide +kernel)
set_option maxRecDepth 100000 in
theorem zf_X6_closed : zc_X6_closed.find? (fun r => r.1 == 0) = some (0, .aload_n 0, 1, 0, 0, 0, 0) ∧ zc_X6_closed.find? (fun r => r.1 == 1) = some (1, .iload_n 1, 1, 0, 0, 0, 0) ∧ zc_X6_closed.find? (fun r => r.1 == 2) = some (2, .invokevirtual 247, 3, 189, 2, 1156, 6) ∧ zc_X6_closed.find? (fun r => r.1 == 5) = some (5, .aload_n 0, 1, 0, 0, 0, 0) ∧ zc_X6_closed.find? (fun r => r.1 == 6) = some (6, .getfield 16, 3, 6, 2, 881, 0) ∧ zc_X6_closed.find? (fun r => r.1 == 9) = some (9, .iload_n 1, 1, 0, 0, 0, 0) ∧ zc_X6_closed.find? (fun r => r.1 == 10) = some (10, .iaload, 1, 0, 0, 0, 0) ∧ zc_X6_closed.find? (fun r => r.1 == 11) = some (11, .iconst 1, 1, 0, 0, 0, 0) ∧ zc_X6_closed.find? (fun r => r.1 == 12) = some (12, .if_icmp .ne 17, 3, 29, 0, 0, 0) ∧ zc_X6_closed.find? (fun r => r.1 == 15) = some (15, .aload_n 0, 1, 0, 0, 0, 0) ∧ zc_X6_closed.find? (fun r => r.1 == 16) = some (16, .aload_n 0, 1, 0, 0, 0, 0) ∧ zc_X6_closed.find? (fun r => r.1 == 17) = some (17, .getfield 28, 3, 6, 6, 885, 0) ∧ zc_X6_closed.find? (fun r => r.1 == 20) = some (20, .iload_n 1, 1, 0, 0, 0, 0) ∧ zc_X6_closed.find? (fun r => r.1 == 21) = some (21, .iaload, 1, 0, 0, 0, 0) ∧ zc_X6_closed.find? (fun r => r.1 == 22) = some (22, .iload_n 1, 1, 0, 0, 0, 0) ∧ zc_X6_closed.find? (fun r => r.1 == 23) = some (23, .invokevirtual 197, 3, 176, 3, 1026, 6) ∧ zc_X6_closed.find? (fun r => r.1 == 26) = some (26, .goto 8, 3, 34, 0, 0, 0) ∧ zc_X6_closed.find? (fun r => r.1 == 29) = some (29, .aload_n 0, 1, 0, 0, 0, 0) ∧ zc_X6_closed.find? (fun r => r.1 == 30) = some (30, .iload_n 1, 1, 0, 0, 0, 0) ∧ zc_X6_closed.find? (fun r => r.1 == 31) = some (31, .invokevirtual 151, 3, 185, 2, 1143, 6) ∧ zc_X6_closed.find? (fun r => r.1 == 34) = some (34, .iconst 0, 1, 0, 0, 0, 0) ∧ zc_X6_closed.find? (fun r => r.1 == 35) = some (35, .istore_n 2, 1, 0, 0, 0, 0) ∧ zc_X6_closed.find? (fun r => r.1 == 36) = some (36, .iconst 0, 1, 0, 0, 0, 0) ∧ zc_X6_closed.find? (fun r => r.1 == 37) = some (37, .istore_n 3, 1, 0, 0, 0, 0) ∧ zc_X6_closed.find? (fun r => r.1 == 38) = some (38, .iload_n 3, 1, 0, 0, 0, 0) ∧ zc_X6_closed.find? (fun r => r.1 == 39) = some (39, .aload_n 0, 1, 0, 0, 0, 0) ∧ zc_X6_closed.find? (fun r => r.1 == 40) = some (40, .getfield 160, 3, 6, 12, 891, 0) ∧ zc_X6_closed.find? (fun r => r.1 == 43) = some (43, .if_icmp .ge 34, 3, 77, 0, 0, 0) ∧ zc_X6_closed.find? (fun r => r.1 == 46) = some (46, .aload_n 0, 1, 0, 0, 0, 0) ∧ zc_X6_closed.find? (fun r => r.1 == 47) = some (47, .getfield 40, 3, 6, 11, 890, 0) ∧ zc_X6_closed.find? (fun r => r.1 == 50) = some (50, .iload_n 3, 1, 0, 0, 0, 0) ∧ zc_X6_closed.find? (fun r => r.1 == 51) = some (51, .iaload, 1, 0, 0, 0, 0) ∧ zc_X6_closed.find? (fun r => r.1 == 52) = some (52, .iload_n 1, 1, 0, 0, 0, 0) ∧ zc_X6_closed.find? (fun r => r.1 == 53) = some (53, .if_icmp .eq 18, 3, 71, 0, 0, 0) ∧ zc_X6_closed.find? (fun r => r.1 == 56) = some (56, .aload_n 0, 1, 0, 0, 0, 0) ∧ zc_X6_closed.find? (fun r => r.1 == 57) = some (57, .getfield 40, 3, 6, 11, 890, 0) ∧ zc_X6_closed.find? (fun r => r.1 == 60) = some (60, .iload_n 2, 1, 0, 0, 0, 0) ∧ zc_X6_closed.find? (fun r => r.1 == 61) = some (61, .aload_n 0, 1, 0, 0, 0, 0) ∧ zc_X6_closed.find? (fun r => r.1 == 62) = some (62, .getfield 40, 3, 6, 11, 890, 0) ∧ zc_X6_closed.find? (fun r => r.1 == 65) = some (65, .iload_n 3, 1, 0, 0, 0, 0) ∧ zc_X6_closed.find? (fun r => r.1 == 66) = some (66, .iaload, 1, 0, 0, 0, 0) ∧ zc_X6_closed.find? (fun r => r.1 == 67) = some (67, .iastore, 1, 0, 0, 0, 0) ∧ zc_X6_closed.find? (fun r => r.1 == 68) = some (68, .iinc 2 1, 3, 0, 0, 0, 0) ∧ zc_X6_closed.find? (fun r => r.1 == 71) = some (71, .iinc 3 1, 3, 0, 0, 0, 0) ∧ zc_X6_closed.find? (fun r => r.1 == 74) = some (74, .goto (-36), 3, 38, 0, 0, 0) ∧ zc_X6_closed.find? (fun r => r.1 == 77) = some (77, .aload_n 0, 1, 0, 0, 0, 0) ∧ zc_X6_closed.find? (fun r => r.1 == 78) = some (78, .iload_n 2, 1, 0, 0, 0, 0) ∧ zc_X6_closed.find? (fun r => r.1 == 79) = some (79, .putfield 160, 3, 6, 12, 891, 0) ∧ zc_X6_closed.find? (fun r => r.1 == 82) = some (82, .aload_n 0, 1, 0, 0, 0, 0) ∧ zc_X6_closed.find? (fun r => r.1 == 83) = some (83, .getfield 16, 3, 6, 2, 881, 0) ∧ zc_X6_closed.find? (fun r => r.1 == 86) = some (86, .iload_n 1, 1, 0, 0, 0, 0) ∧ zc_X6_closed.find? (fun r => r.1 == 87) = some (87, .iconst 0, 1, 0, 0, 0, 0) ∧ zc_X6_closed.find? (fun r => r.1 == 88) = some (88, .iastore, 1, 0, 0, 0, 0) ∧ zc_X6_closed.find? (fun r => r.1 == 89) = some (89, .iconst 1, 1, 0, 0, 0, 0) ∧ zc_X6_closed.find? (fun r => r.1 == 90) = some (90, .istore_n 3, 1, 0, 0, 0, 0) ∧ zc_X6_closed.find? (fun r => r.1 == 91) = some (91, .iconst 0, 1, 0, 0, 0, 0) ∧ zc_X6_closed.find? (fun r => r.1 == 92) = some (92, .istore 4, 2, 0, 0, 0, 0) ∧ zc_X6_closed.find? (fun r => r.1 == 94) = some (94, .iload 4, 2, 0, 0, 0, 0) ∧ zc_X6_closed.find? (fun r => r.1 == 96) = some (96, .bipush 10, 2, 0, 0, 0, 0) ∧ zc_X6_closed.find? (fun r => r.1 == 98) = some (98, .if_icmp .ge 40, 3, 138, 0, 0, 0) ∧ zc_X6_closed.find? (fun r => r.1 == 101) = some (101, .aload_n 0, 1, 0, 0, 0, 0) ∧ zc_X6_closed.find? (fun r => r.1 == 102) = some (102, .getfield 16, 3, 6, 2, 881, 0) ∧ zc_X6_closed.find? (fun r => r.1 == 105) = some (105, .iload 4, 2, 0, 0, 0, 0) ∧ zc_X6_closed.find? (fun r => r.1 == 107) = some (107, .iaload, 1, 0, 0, 0, 0) ∧ zc_X6_closed.find? (fun r => r.1 == 108) = some (108, .iconst 3, 1, 0, 0, 0, 0) ∧ zc_X6_closed.find? (fun r => r.1 == 109) = some (109, .if_icmp .ne 23, 3, 132, 0, 0, 0) ∧ zc_X6_closed.find? (fun r => r.1 == 112) = some (112, .aload_n 0, 1, 0, 0, 0, 0) ∧ zc_X6_closed.find? (fun r => r.1 == 113) = some (113, .getfield 25, 3, 6, 5, 884, 0) ∧ zc_X6_closed.find? (fun r => r.1 == 116) = some (116, .iload 4, 2, 0, 0, 0, 0) ∧ zc_X6_closed.find? (fun r => r.1 == 118) = some (118, .iaload, 1, 0, 0, 0, 0) ∧ zc_X6_closed.find? (fun r => r.1 == 119) = some (119, .iload_n 1, 1, 0, 0, 0, 0) ∧ zc_X6_closed.find? (fun r => r.1 == 120) = some (120, .if_icmp .ne 12, 3, 132, 0, 0, 0) ∧ zc_X6_closed.find? (fun r => r.1 == 123) = some (123, .iload_n 3, 1, 0, 0, 0, 0) ∧ zc_X6_closed.find? (fun r => r.1 == 124) = some (124, .aload_n 0, 1, 0, 0, 0, 0) ∧ zc_X6_closed.find? (fun r => r.1 == 125) = some (125, .iload 4, 2, 0, 0, 0, 0) ∧ zc_X6_closed.find? (fun r => r.1 == 127) = some (127, .invokevirtual 250, 3, 198, 2, 1152, 6) ∧ zc_X6_closed.find? (fun r => r.1 == 130) = some (130, .iadd, 1, 0, 0, 0, 0) ∧ zc_X6_closed.find? (fun r => r.1 == 131) = some (131, .istore_n 3, 1, 0, 0, 0, 0) ∧ zc_X6_closed.find? (fun r => r.1 == 132) = some (132, .iinc 4 1, 3, 0, 0, 0, 0) ∧ zc_X6_closed.find? (fun r => r.1 == 135) = some (135, .goto (-41), 3, 94, 0, 0, 0) ∧ zc_X6_closed.find? (fun r => r.1 == 138) = some (138, .iload_n 3, 1, 0, 0, 0, 0) ∧ zc_X6_closed.find? (fun r => r.1 == 139) = some (139, .ireturn, 1, 0, 0, 0, 0) := zi_fdi (zc := zc_X6_closed) (by decide +kernel)
set_option maxRecDepth 100000 in
theorem zf_X6_isShown : zc_X6_isShown.find? (fun r => r.1 == 0) = some (0, .aload_n 0, 1, 0, 0, 0, 0) ∧ zc_X6_isShown.find? (fun r => r.1 == 1) = some (1, .getfield 16, 3, 6, 2, 881, 0) ∧ zc_X6_isShown.find? (fun r => r.1 == 4) = some (4, .iload_n 1, 1, 0, 0, 0, 0) ∧ zc_X6_isShown.find? (fun r => r.1 == 5) = some (5, .iaload, 1, 0, 0, 0, 0) ∧ zc_X6_isShown.find? (fun r => r.1 == 6) = some (6, .iconst 1, 1, 0, 0, 0, 0) ∧ zc_X6_isShown.find? (fun r => r.1 == 7) = some (7, .if_icmp .ne 36, 3, 43, 0, 0, 0) ∧ zc_X6_isShown.find? (fun r => r.1 == 10) = some (10, .aload_n 0, 1, 0, 0, 0, 0) ∧ zc_X6_isShown.find? (fun r => r.1 == 11) = some (11, .getfield 64, 3, 6, 20, 899, 0) ∧ zc_X6_isShown.find? (fun r => r.1 == 14) = some (14, .aload_n 0, 1, 0, 0, 0, 0) ∧ zc_X6_isShown.find? (fun r => r.1 == 15) = some (15, .getfield 28, 3, 6, 6, 885, 0) ∧ zc_X6_isShown.find? (fun r => r.1 == 18) = some (18, .iload_n 1, 1, 0, 0, 0, 0) ∧ zc_X6_isShown.find? (fun r => r.1 == 19) = some (19, .iaload, 1, 0, 0, 0, 0) ∧ zc_X6_isShown.find? (fun r => r.1 == 20) = some (20, .aload_n 0, 1, 0, 0, 0, 0) ∧ zc_X6_isShown.find? (fun r => r.1 == 21) = some (21, .aload_n 0, 1, 0, 0, 0, 0) ∧ zc_X6_isShown.find? (fun r => r.1 == 22) = some (22, .getfield 28, 3, 6, 6, 885, 0) ∧ zc_X6_isShown.find? (fun r => r.1 == 25) = some (25, .iload_n 1, 1, 0, 0, 0, 0) ∧ zc_X6_isShown.find? (fun r => r.1 == 26) = some (26, .iaload, 1, 0, 0, 0, 0) ∧ zc_X6_isShown.find? (fun r => r.1 == 27) = some (27, .iload_n 1, 1, 0, 0, 0, 0) ∧ zc_X6_isShown.find? (fun r => r.1 == 28) = some (28, .invokevirtual 116, 3, 173, 3, 1030, 6) ∧ zc_X6_isShown.find? (fun r => r.1 == 31) = some (31, .invokestatic 105, 3, 70, 2, 991, 0) ∧ zc_X6_isShown.find? (fun r => r.1 == 34) = some (34, .iaload, 1, 0, 0, 0, 0) ∧ zc_X6_isShown.find? (fun r => r.1 == 35) = some (35, .iload_n 1, 1, 0, 0, 0, 0) ∧ zc_X6_isShown.find? (fun r => r.1 == 36) = some (36, .if_icmp .ne 7, 3, 43, 0, 0, 0) ∧ zc_X6_isShown.find? (fun r => r.1 == 39) = some (39, .iconst 1, 1, 0, 0, 0, 0) ∧ zc_X6_isShown.find? (fun r => r.1 == 40) = some (40, .goto 4, 3, 44, 0, 0, 0) ∧ zc_X6_isShown.find? (fun r => r.1 == 43) = some (43, .iconst 0, 1, 0, 0, 0, 0) ∧ zc_X6_isShown.find? (fun r => r.1 == 44) = some (44, .ireturn, 1, 0, 0, 0, 0) := zi_fdi (zc := zc_X6_isShown) (by decide +kernel)
set_option maxRecDepth 100000 in
theorem zf_X6_common : zc_X6_common.find? (fun r => r.1 == 0) = some (0, .iload_n 0, 1, 0, 0, 0, 0) ∧ zc_X6_common.find? (fun r => r.1 == 1) = some (1, .iload_n 2, 1, 0, 0, 0, 0) ∧ zc_X6_common.find? (fun r => r.1 == 2) = some (2, .if_icmp .le 7, 3, 9, 0, 0, 0) ∧ zc_X6_common.find? (fun r => r.1 == 5) = some (5, .iload_n 0, 1, 0, 0, 0, 0) ∧ zc_X6_common.find? (fun r => r.1 == 6) = some (6, .goto 4, 3, 10, 0, 0, 0) ∧ zc_X6_common.find? (fun r => r.1 == 9) = some (9, .iload_n 2, 1, 0, 0, 0, 0) ∧ zc_X6_common.find? (fun r => r.1 == 10) = some (10, .istore 4, 2, 0, 0, 0, 0) ∧ zc_X6_common.find? (fun r => r.1 == 12) = some (12, .iload_n 1, 1, 0, 0, 0, 0) ∧ zc_X6_common.find? (fun r => r.1 == 13) = some (13, .iload_n 3, 1, 0, 0, 0, 0) ∧ zc_X6_common.find? (fun r => r.1 == 14) = some (14, .if_icmp .ge 7, 3, 21, 0, 0, 0) ∧ zc_X6_common.find? (fun r => r.1 == 17) = some (17, .iload_n 1, 1, 0, 0, 0, 0) ∧ zc_X6_common.find? (fun r => r.1 == 18) = some (18, .goto 4, 3, 22, 0, 0, 0) ∧ zc_X6_common.find? (fun r => r.1 == 21) = some (21, .iload_n 3, 1, 0, 0, 0, 0) ∧ zc_X6_common.find? (fun r => r.1 == 22) = some (22, .istore 5, 2, 0, 0, 0, 0) ∧ zc_X6_common.find? (fun r => r.1 == 24) = some (24, .iload 5, 2, 0, 0, 0, 0) ∧ zc_X6_common.find? (fun r => r.1 == 26) = some (26, .iload 4, 2, 0, 0, 0, 0) ∧ zc_X6_common.find? (fun r => r.1 == 28) = some (28, .isub, 1, 0, 0, 0, 0) ∧ zc_X6_common.find? (fun r => r.1 == 29) = some (29, .ireturn, 1, 0, 0, 0, 0) := zi_fdi (zc := zc_X6_common) (by decide +kernel)
set_option maxRecDepth 100000 in
theorem zf_X6_neighbourOf : zc_X6_neighbourOf.find? (fun r => r.1 == 0) = some (0, .aload_n 0, 1, 0, 0, 0, 0) ∧ zc_X6_neighbourOf.find? (fun r => r.1 == 1) = some (1, .getfield 28, 3, 6, 6, 885, 0) ∧ zc_X6_neighbourOf.find? (fun r => r.1 == 4) = some (4, .iload_n 1, 1, 0, 0, 0, 0) ∧ zc_X6_neighbourOf.find? (fun r => r.1 == 5) = some (5, .iaload, 1, 0, 0, 0, 0) ∧ zc_X6_neighbourOf.find? (fun r => r.1 == 6) = some (6, .istore_n 3, 1, 0, 0, 0, 0) ∧ zc_X6_neighbourOf.find? (fun r => r.1 == 7) = some (7, .aload_n 0, 1, 0, 0, 0, 0) ∧ zc_X6_neighbourOf.find? (fun r => r.1 == 8) = some (8, .iload_n 3, 1, 0, 0, 0, 0) ∧ zc_X6_neighbourOf.find? (fun r => r.1 == 9) = some (9, .invokevirtual 240, 3, 181, 2, 1107, 6) ∧ zc_X6_neighbourOf.find? (fun r => r.1 == 12) = some (12, .aload_n 0, 1, 0, 0, 0, 0) ∧ zc_X6_neighbourOf.find? (fun r => r.1 == 13) = some (13, .iload_n 3, 1, 0, 0, 0, 0) ∧ zc_X6_neighbourOf.find? (fun r => r.1 == 14) = some (14, .iload_n 1, 1, 0, 0, 0, 0) ∧ zc_X6_neighbourOf.find? (fun r => r.1 == 15) = some (15, .invokevirtual 116, 3, 173, 3, 1030, 6) ∧ zc_X6_neighbourOf.find? (fun r => r.1 == 18) = some (18, .istore 4, 2, 0, 0, 0, 0) ∧ zc_X6_neighbourOf.find? (fun r => r.1 == 20) = some (20, .iconst (-1), 1, 0, 0, 0, 0) ∧ zc_X6_neighbourOf.find? (fun r => r.1 == 21) = some (21, .istore 5, 2, 0, 0, 0, 0) ∧ zc_X6_neighbourOf.find? (fun r => r.1 == 23) = some (23, .iconst 0, 1, 0, 0, 0, 0) ∧ zc_X6_neighbourOf.find? (fun r => r.1 == 24) = some (24, .istore 6, 2, 0, 0, 0, 0) ∧ zc_X6_neighbourOf.find? (fun r => r.1 == 26) = some (26, .iconst 0, 1, 0, 0, 0, 0) ∧ zc_X6_neighbourOf.find? (fun r => r.1 == 27) = some (27, .istore 7, 2, 0, 0, 0, 0) ∧ zc_X6_neighbourOf.find? (fun r => r.1 == 29) = some (29, .iload 7, 2, 0, 0, 0, 0) ∧ zc_X6_neighbourOf.find? (fun r => r.1 == 31) = some (31, .bipush 10, 2, 0, 0, 0, 0) ∧ zc_X6_neighbourOf.find? (fun r => r.1 == 33) = some (33, .if_icmp .ge 324, 3, 357, 0, 0, 0) ∧ zc_X6_neighbourOf.find? (fun r => r.1 == 36) = some (36, .iload 7, 2, 0, 0, 0, 0) ∧ zc_X6_neighbourOf.find? (fun r => r.1 == 38) = some (38, .iload_n 1, 1, 0, 0, 0, 0) ∧ zc_X6_neighbourOf.find? (fun r => r.1 == 39) = some (39, .if_icmp .eq 312, 3, 351, 0, 0, 0) ∧ zc_X6_neighbourOf.find? (fun r => r.1 == 42) = some (42, .aload_n 0, 1, 0, 0, 0, 0) ∧ zc_X6_neighbourOf.find? (fun r => r.1 == 43) = some (43, .getfield 16, 3, 6, 2, 881, 0) ∧ zc_X6_neighbourOf.find? (fun r => r.1 == 46) = some (46, .iload 7, 2, 0, 0, 0, 0) ∧ zc_X6_neighbourOf.find? (fun r => r.1 == 48) = some (48, .iaload, 1, 0, 0, 0, 0) ∧ zc_X6_neighbourOf.find? (fun r => r.1 == 49) = some (49, .iconst 1, 1, 0, 0, 0, 0) ∧ zc_X6_neighbourOf.find? (fun r => r.1 == 50) = some (50, .if_icmp .ne 301, 3, 351, 0, 0, 0) ∧ zc_X6_neighbourOf.find? (fun r => r.1 == 53) = some (53, .aload_n 0, 1, 0, 0, 0, 0) ∧ zc_X6_neighbourOf.find? (fun r => r.1 == 54) = some (54, .getfield 28, 3, 6, 6, 885, 0) ∧ zc_X6_neighbourOf.find? (fun r => r.1 == 57) = some (57, .iload 7, 2, 0, 0, 0, 0) ∧ zc_X6_neighbourOf.find? (fun r => r.1 == 59) = some (59, .iaload, 1, 0, 0, 0, 0) ∧ zc_X6_neighbourOf.find? (fun r => r.1 == 60) = some (60, .iload_n 3, 1, 0, 0, 0, 0) ∧ zc_X6_neighbourOf.find? (fun r => r.1 == 61) = some (61, .if_icmp .ne 290, 3, 351, 0, 0, 0) ∧ zc_X6_neighbourOf.find? (fun r => r.1 == 64) = some (64, .aload_n 0, 1, 0, 0, 0, 0) ∧ zc_X6_neighbourOf.find? (fun r => r.1 == 65) = some (65, .iload 7, 2, 0, 0, 0, 0) ∧ zc_X6_neighbourOf.find? (fun r => r.1 == 67) = some (67, .invokevirtual 253, 3, 199, 2, 1172, 6) ∧ zc_X6_neighbourOf.find? (fun r => r.1 == 70) = some (70, .ifCond .eq 281, 3, 351, 0, 0, 0) ∧ zc_X6_neighbourOf.find? (fun r => r.1 == 73) = some (73, .aload_n 0, 1, 0, 0, 0, 0) ∧ zc_X6_neighbourOf.find? (fun r => r.1 == 74) = some (74, .iload_n 3, 1, 0, 0, 0, 0) ∧ zc_X6_neighbourOf.find? (fun r => r.1 == 75) = some (75, .iload 7, 2, 0, 0, 0, 0) ∧ zc_X6_neighbourOf.find? (fun r => r.1 == 77) = some (77, .invokevirtual 116, 3, 173, 3, 1030, 6) ∧ zc_X6_neighbourOf.find? (fun r => r.1 == 80) = some (80, .istore 8, 2, 0, 0, 0, 0) ∧ zc_X6_neighbourOf.find? (fun r => r.1 == 82) = some (82, .iload_n 2, 1, 0, 0, 0, 0) ∧ zc_X6_neighbourOf.find? (fun r => r.1 == 83) = some (83, .ifCond .ne 36, 3, 119, 0, 0, 0) ∧ zc_X6_neighbourOf.find? (fun r => r.1 == 86) = some (86, .aload_n 0, 1, 0, 0, 0, 0) ∧ zc_X6_neighbourOf.find? (fun r => r.1 == 87) = some (87, .getfield 80, 3, 6, 25, 904, 0) ∧ zc_X6_neighbourOf.find? (fun r => r.1 == 90) = some (90, .iload 8, 2, 0, 0, 0, 0) ∧ zc_X6_neighbourOf.find? (fun r => r.1 == 92) = some (92, .iaload, 1, 0, 0, 0, 0) ∧ zc_X6_neighbourOf.find? (fun r => r.1 == 93) = some (93, .aload_n 0, 1, 0, 0, 0, 0) ∧ zc_X6_neighbourOf.find? (fun r => r.1 == 94) = some (94, .getfield 86, 3, 6, 27, 906, 0) ∧ zc_X6_neighbourOf.find? (fun r => r.1 == 97) = some (97, .iload 8, 2, 0, 0, 0, 0) ∧ zc_X6_neighbourOf.find? (fun r => r.1 == 99) = some (99, .iaload, 1, 0, 0, 0, 0) ∧ zc_X6_neighbourOf.find? (fun r => r.1 == 100) = some (100, .iadd, 1, 0, 0, 0, 0) ∧ zc_X6_neighbourOf.find? (fun r => r.1 == 101) = some (101, .aload_n 0, 1, 0, 0, 0, 0) ∧ zc_X6_neighbourOf.find? (fun r => r.1 == 102) = some (102, .getfield 80, 3, 6, 25, 904, 0) ∧ zc_X6_neighbourOf.find? (fun r => r.1 == 105) = some (105, .iload 4, 2, 0, 0, 0, 0) ∧ zc_X6_neighbourOf.find? (fun r => r.1 == 107) = some (107, .iaload, 1, 0, 0, 0, 0) ∧ zc_X6_neighbourOf.find? (fun r => r.1 == 108) = some (108, .if_icmp .ne 7, 3, 115, 0, 0, 0) ∧ zc_X6_neighbourOf.find? (fun r => r.1 == 111) = some (111, .iconst 1, 1, 0, 0, 0, 0) ∧ zc_X6_neighbourOf.find? (fun r => r.1 == 112) = some (112, .goto 113, 3, 225, 0, 0, 0) ∧ zc_X6_neighbourOf.find? (fun r => r.1 == 115) = some (115, .iconst 0, 1, 0, 0, 0, 0) ∧ zc_X6_neighbourOf.find? (fun r => r.1 == 116) = some (116, .goto 109, 3, 225, 0, 0, 0) ∧ zc_X6_neighbourOf.find? (fun r => r.1 == 119) = some (119, .iload_n 2, 1, 0, 0, 0, 0) ∧ zc_X6_neighbourOf.find? (fun r => r.1 == 120) = some (120, .iconst 1, 1, 0, 0, 0, 0) ∧ zc_X6_neighbourOf.find? (fun r => r.1 == 121) = some (121, .if_icmp .ne 36, 3, 157, 0, 0, 0) ∧ zc_X6_neighbourOf.find? (fun r => r.1 == 124) = some (124, .aload_n 0, 1, 0, 0, 0, 0) ∧ zc_X6_neighbourOf.find? (fun r => r.1 == 125) = some (125, .getfield 80, 3, 6, 25, 904, 0) ∧ zc_X6_neighbourOf.find? (fun r => r.1 == 128) = some (128, .iload 4, 2, 0, 0, 0, 0) ∧ zc_X6_neighbourOf.find? (fun r => r.1 == 130) = some (130, .iaload, 1, 0, 0, 0, 0) ∧ zc_X6_neighbourOf.find? (fun r => r.1 == 131) = some (131, .aload_n 0, 1, 0, 0, 0, 0) ∧ zc_X6_neighbourOf.find? (fun r => r.1 == 132) = some (132, .getfield 86, 3, 6, 27, 906, 0) ∧ zc_X6_neighbourOf.find? (fun r => r.1 == 135) = some (135, .iload 4, 2, 0, 0, 0, 0) ∧ zc_X6_neighbourOf.find? (fun r => r.1 == 137) = some (137, .iaload, 1, 0, 0, 0, 0) ∧ zc_X6_neighbourOf.find? (fun r => r.1 == 138) = some (138, .iadd, 1, 0, 0, 0, 0) ∧ zc_X6_neighbourOf.find? (fun r => r.1 == 139) = some (139, .aload_n 0, 1, 0, 0, 0, 0) ∧ zc_X6_neighbourOf.find? (fun r => r.1 == 140) = some (140, .getfield 80, 3, 6, 25, 904, 0) ∧ zc_X6_neighbourOf.find? (fun r => r.1 == 143) = some (143, .iload 8, 2, 0, 0, 0, 0) ∧ zc_X6_neighbourOf.find? (fun r => r.1 == 145) = some (145, .iaload, 1, 0, 0, 0, 0) ∧ zc_X6_neighbourOf.find? (fun r => r.1 == 146) = some (146, .if_icmp .ne 7, 3, 153, 0, 0, 0) ∧ zc_X6_neighbourOf.find? (fun r => r.1 == 149) = some (149, .iconst 1, 1, 0, 0, 0, 0) ∧ zc_X6_neighbourOf.find? (fun r => r.1 == 150) = some (150, .goto 75, 3, 225, 0, 0, 0) ∧ zc_X6_neighbourOf.find? (fun r => r.1 == 153) = some (153, .iconst 0, 1, 0, 0, 0, 0) ∧ zc_X6_neighbourOf.find? (fun r => r.1 == 154) = some (154, .goto 71, 3, 225, 0, 0, 0) ∧ zc_X6_neighbourOf.find? (fun r => r.1 == 157) = some (157, .iload_n 2, 1, 0, 0, 0, 0) ∧ zc_X6_neighbourOf.find? (fun r => r.1 == 158) = some (158, .iconst 2, 1, 0, 0, 0, 0) ∧ zc_X6_neighbourOf.find? (fun r => r.1 == 159) = some (159, .if_icmp .ne 36, 3, 195, 0, 0, 0) ∧ zc_X6_neighbourOf.find? (fun r => r.1 == 162) = some (162, .aload_n 0, 1, 0, 0, 0, 0) ∧ zc_X6_neighbourOf.find? (fun r => r.1 == 163) = some (163, .getfield 83, 3, 6, 26, 905, 0) ∧ zc_X6_neighbourOf.find? (fun r => r.1 == 166) = some (166, .iload 8, 2, 0, 0, 0, 0) ∧ zc_X6_neighbourOf.find? (fun r => r.1 == 168) = some (168, .iaload, 1, 0, 0, 0, 0) ∧ zc_X6_neighbourOf.find? (fun r => r.1 == 169) = some (169, .aload_n 0, 1, 0, 0, 0, 0) ∧ zc_X6_neighbourOf.find? (fun r => r.1 == 170) = some (170, .getfield 89, 3, 6, 28, 907, 0) ∧ zc_X6_neighbourOf.find? (fun r => r.1 == 173) = some (173, .iload 8, 2, 0, 0, 0, 0) ∧ zc_X6_neighbourOf.find? (fun r => r.1 == 175) = some (175, .iaload, 1, 0, 0, 0, 0) ∧ zc_X6_neighbourOf.find? (fun r => r.1 == 176) = some (176, .iadd, 1, 0, 0, 0, 0) ∧ zc_X6_neighbourOf.find? (fun r => r.1 == 177) = some (177, .aload_n 0, 1, 0, 0, 0, 0) ∧ zc_X6_neighbourOf.find? (fun r => r.1 == 178) = some (178, .getfield 83, 3, 6, 26, 905, 0) ∧ zc_X6_neighbourOf.find? (fun r => r.1 == 181) = some (181, .iload 4, 2, 0, 0, 0, 0) ∧ zc_X6_neighbourOf.find? (fun r => r.1 == 183) = some (183, .iaload, 1, 0, 0, 0, 0) ∧ zc_X6_neighbourOf.find? (fun r => r.1 == 184) = some (184, .if_icmp .ne 7, 3, 191, 0, 0, 0) ∧ zc_X6_neighbourOf.find? (fun r => r.1 == 187) = some (187, .iconst 1, 1, 0, 0, 0, 0) ∧ zc_X6_neighbourOf.find? (fun r => r.1 == 188) = some (188, .goto 37, 3, 225, 0, 0, 0) ∧ zc_X6_neighbourOf.find? (fun r => r.1 == 191) = some (191, .iconst 0, 1, 0, 0, 0, 0) ∧ zc_X6_neighbourOf.find? (fun r => r.1 == 192) = some (192, .goto 33, 3, 225, 0, 0, 0) ∧ zc_X6_neighbourOf.find? (fun r => r.1 == 195) = some (195, .aload_n 0, 1, 0, 0, 0, 0) ∧ zc_X6_neighbourOf.find? (fun r => r.1 == 196) = some (196, .getfield 83, 3, 6, 26, 905, 0) ∧ zc_X6_neighbourOf.find? (fun r => r.1 == 199) = some (199, .iload 4, 2, 0, 0, 0, 0) ∧ zc_X6_neighbourOf.find? (fun r => r.1 == 201) = some (201, .iaload, 1, 0, 0, 0, 0) ∧ zc_X6_neighbourOf.find? (fun r => r.1 == 202) = some (202, .aload_n 0, 1, 0, 0, 0, 0) ∧ zc_X6_neighbourOf.find? (fun r => r.1 == 203) = some (203, .getfield 89, 3, 6, 28, 907, 0) ∧ zc_X6_neighbourOf.find? (fun r => r.1 == 206) = some (206, .iload 4, 2, 0, 0, 0, 0) ∧ zc_X6_neighbourOf.find? (fun r => r.1 == 208) = some (208, .iaload, 1, 0, 0, 0, 0) ∧ zc_X6_neighbourOf.find? (fun r => r.1 == 209) = some (209, .iadd, 1, 0, 0, 0, 0) ∧ zc_X6_neighbourOf.find? (fun r => r.1 == 210) = some (210, .aload_n 0, 1, 0, 0, 0, 0) ∧ zc_X6_neighbourOf.find? (fun r => r.1 == 211) = some (211, .getfield 83, 3, 6, 26, 905, 0) ∧ zc_X6_neighbourOf.find? (fun r => r.1 == 214) = some (214, .iload 8, 2, 0, 0, 0, 0) ∧ zc_X6_neighbourOf.find? (fun r => r.1 == 216) = some (216, .iaload, 1, 0, 0, 0, 0) ∧ zc_X6_neighbourOf.find? (fun r => r.1 == 217) = some (217, .if_icmp .ne 7, 3, 224, 0, 0, 0) ∧ zc_X6_neighbourOf.find? (fun r => r.1 == 220) = some (220, .iconst 1, 1, 0, 0, 0, 0) ∧ zc_X6_neighbourOf.find? (fun r => r.1 == 221) = some (221, .goto 4, 3, 225, 0, 0, 0) ∧ zc_X6_neighbourOf.find? (fun r => r.1 == 224) = some (224, .iconst 0, 1, 0, 0, 0, 0) ∧ zc_X6_neighbourOf.find? (fun r => r.1 == 225) = some (225, .istore 9, 2, 0, 0, 0, 0) ∧ zc_X6_neighbourOf.find? (fun r => r.1 == 227) = some (227, .iload_n 2, 1, 0, 0, 0, 0) ∧ zc_X6_neighbourOf.find? (fun r => r.1 == 228) = some (228, .iconst 2, 1, 0, 0, 0, 0) ∧ zc_X6_neighbourOf.find? (fun r => r.1 == 229) = some (229, .if_icmp .ge 53, 3, 282, 0, 0, 0) ∧ zc_X6_neighbourOf.find? (fun r => r.1 == 232) = some (232, .aload_n 0, 1, 0, 0, 0, 0) ∧ zc_X6_neighbourOf.find? (fun r => r.1 == 233) = some (233, .getfield 83, 3, 6, 26, 905, 0) ∧ zc_X6_neighbourOf.find? (fun r => r.1 == 236) = some (236, .iload 4, 2, 0, 0, 0, 0) ∧ zc_X6_neighbourOf.find? (fun r => r.1 == 238) = some (238, .iaload, 1, 0, 0, 0, 0) ∧ zc_X6_neighbourOf.find? (fun r => r.1 == 239) = some (239, .aload_n 0, 1, 0, 0, 0, 0) ∧ zc_X6_neighbourOf.find? (fun r => r.1 == 240) = some (240, .getfield 83, 3, 6, 26, 905, 0) ∧ zc_X6_neighbourOf.find? (fun r => r.1 == 243) = some (243, .iload 4, 2, 0, 0, 0, 0) ∧ zc_X6_neighbourOf.find? (fun r => r.1 == 245) = some (245, .iaload, 1, 0, 0, 0, 0) ∧ zc_X6_neighbourOf.find? (fun r => r.1 == 246) = some (246, .aload_n 0, 1, 0, 0, 0, 0) ∧ zc_X6_neighbourOf.find? (fun r => r.1 == 247) = some (247, .getfield 89, 3, 6, 28, 907, 0) ∧ zc_X6_neighbourOf.find? (fun r => r.1 == 250) = some (250, .iload 4, 2, 0, 0, 0, 0) ∧ zc_X6_neighbourOf.find? (fun r => r.1 == 252) = some (252, .iaload, 1, 0, 0, 0, 0) ∧ zc_X6_neighbourOf.find? (fun r => r.1 == 253) = some (253, .iadd, 1, 0, 0, 0, 0) ∧ zc_X6_neighbourOf.find? (fun r => r.1 == 254) = some (254, .aload_n 0, 1, 0, 0, 0, 0) ∧ zc_X6_neighbourOf.find? (fun r => r.1 == 255) = some (255, .getfield 83, 3, 6, 26, 905, 0) ∧ zc_X6_neighbourOf.find? (fun r => r.1 == 258) = some (258, .iload 8, 2, 0, 0, 0, 0) ∧ zc_X6_neighbourOf.find? (fun r => r.1 == 260) = some (260, .iaload, 1, 0, 0, 0, 0) ∧ zc_X6_neighbourOf.find? (fun r => r.1 == 261) = some (261, .aload_n 0, 1, 0, 0, 0, 0) ∧ zc_X6_neighbourOf.find? (fun r => r.1 == 262) = some (262, .getfield 83, 3, 6, 26, 905, 0) ∧ zc_X6_neighbourOf.find? (fun r => r.1 == 265) = some (265, .iload 8, 2, 0, 0, 0, 0) ∧ zc_X6_neighbourOf.find? (fun r => r.1 == 267) = some (267, .iaload, 1, 0, 0, 0, 0) ∧ zc_X6_neighbourOf.find? (fun r => r.1 == 268) = some (268, .aload_n 0, 1, 0, 0, 0, 0) ∧ zc_X6_neighbourOf.find? (fun r => r.1 == 269) = some (269, .getfield 89, 3, 6, 28, 907, 0) ∧ zc_X6_neighbourOf.find? (fun r => r.1 == 272) = some (272, .iload 8, 2, 0, 0, 0, 0) ∧ zc_X6_neighbourOf.find? (fun r => r.1 == 274) = some (274, .iaload, 1, 0, 0, 0, 0) ∧ zc_X6_neighbourOf.find? (fun r => r.1 == 275) = some (275, .iadd, 1, 0, 0, 0, 0) ∧ zc_X6_neighbourOf.find? (fun r => r.1 == 276) = some (276, .invokestatic 256, 3, 200, 4, 1180, 0) ∧ zc_X6_neighbourOf.find? (fun r => r.1 == 279) = some (279, .goto 50, 3, 329, 0, 0, 0) ∧ zc_X6_neighbourOf.find? (fun r => r.1 == 282) = some (282, .aload_n 0, 1, 0, 0, 0, 0) ∧ zc_X6_neighbourOf.find? (fun r => r.1 == 283) = some (283, .getfield 80, 3, 6, 25, 904, 0) ∧ zc_X6_neighbourOf.find? (fun r => r.1 == 286) = some (286, .iload 4, 2, 0, 0, 0, 0) ∧ zc_X6_neighbourOf.find? (fun r => r.1 == 288) = some (288, .iaload, 1, 0, 0, 0, 0) ∧ zc_X6_neighbourOf.find? (fun r => r.1 == 289) = some (289, .aload_n 0, 1, 0, 0, 0, 0) ∧ zc_X6_neighbourOf.find? (fun r => r.1 == 290) = some (290, .getfield 80, 3, 6, 25, 904, 0) ∧ zc_X6_neighbourOf.find? (fun r => r.1 == 293) = some (293, .iload 4, 2, 0, 0, 0, 0) ∧ zc_X6_neighbourOf.find? (fun r => r.1 == 295) = some (295, .iaload, 1, 0, 0, 0, 0) ∧ zc_X6_neighbourOf.find? (fun r => r.1 == 296) = some (296, .aload_n 0, 1, 0, 0, 0, 0) ∧ zc_X6_neighbourOf.find? (fun r => r.1 == 297) = some (297, .getfield 86, 3, 6, 27, 906, 0) ∧ zc_X6_neighbourOf.find? (fun r => r.1 == 300) = some (300, .iload 4, 2, 0, 0, 0, 0) ∧ zc_X6_neighbourOf.find? (fun r => r.1 == 302) = some (302, .iaload, 1, 0, 0, 0, 0) ∧ zc_X6_neighbourOf.find? (fun r => r.1 == 303) = some (303, .iadd, 1, 0, 0, 0, 0) ∧ zc_X6_neighbourOf.find? (fun r => r.1 == 304) = some (304, .aload_n 0, 1, 0, 0, 0, 0) ∧ zc_X6_neighbourOf.find? (fun r => r.1 == 305) = some (305, .getfield 80, 3, 6, 25, 904, 0) ∧ zc_X6_neighbourOf.find? (fun r => r.1 == 308) = some (308, .iload 8, 2, 0, 0, 0, 0) ∧ zc_X6_neighbourOf.find? (fun r => r.1 == 310) = some (310, .iaload, 1, 0, 0, 0, 0) ∧ zc_X6_neighbourOf.find? (fun r => r.1 == 311) = some (311, .aload_n 0, 1, 0, 0, 0, 0) ∧ zc_X6_neighbourOf.find? (fun r => r.1 == 312) = some (312, .getfield 80, 3, 6, 25, 904, 0) ∧ zc_X6_neighbourOf.find? (fun r => r.1 == 315) = some (315, .iload 8, 2, 0, 0, 0, 0) ∧ zc_X6_neighbourOf.find? (fun r => r.1 == 317) = some (317, .iaload, 1, 0, 0, 0, 0) ∧ zc_X6_neighbourOf.find? (fun r => r.1 == 318) = some (318, .aload_n 0, 1, 0, 0, 0, 0) ∧ zc_X6_neighbourOf.find? (fun r => r.1 == 319) = some (319, .getfield 86, 3, 6, 27, 906, 0) ∧ zc_X6_neighbourOf.find? (fun r => r.1 == 322) = some (322, .iload 8, 2, 0, 0, 0, 0) ∧ zc_X6_neighbourOf.find? (fun r => r.1 == 324) = some (324, .iaload, 1, 0, 0, 0, 0) ∧ zc_X6_neighbourOf.find? (fun r => r.1 == 325) = some (325, .iadd, 1, 0, 0, 0, 0) ∧ zc_X6_neighbourOf.find? (fun r => r.1 == 326) = some (326, .invokestatic 256, 3, 200, 4, 1180, 0) ∧ zc_X6_neighbourOf.find? (fun r => r.1 == 329) = some (329, .istore 10, 2, 0, 0, 0, 0) ∧ zc_X6_neighbourOf.find? (fun r => r.1 == 331) = some (331, .iload 9, 2, 0, 0, 0, 0) ∧ zc_X6_neighbourOf.find? (fun r => r.1 == 333) = some (333, .ifCond .eq 18, 3, 351, 0, 0, 0) ∧ zc_X6_neighbourOf.find? (fun r => r.1 == 336) = some (336, .iload 10, 2, 0, 0, 0, 0) ∧ zc_X6_neighbourOf.find? (fun r => r.1 == 338) = some (338, .iload 6, 2, 0, 0, 0, 0) ∧ zc_X6_neighbourOf.find? (fun r => r.1 == 340) = some (340, .if_icmp .le 11, 3, 351, 0, 0, 0) ∧ zc_X6_neighbourOf.find? (fun r => r.1 == 343) = some (343, .iload 10, 2, 0, 0, 0, 0) ∧ zc_X6_neighbourOf.find? (fun r => r.1 == 345) = some (345, .istore 6, 2, 0, 0, 0, 0) ∧ zc_X6_neighbourOf.find? (fun r => r.1 == 347) = some (347, .iload 7, 2, 0, 0, 0, 0) ∧ zc_X6_neighbourOf.find? (fun r => r.1 == 349) = some (349, .istore 5, 2, 0, 0, 0, 0) ∧ zc_X6_neighbourOf.find? (fun r => r.1 == 351) = some (351, .iinc 7 1, 3, 0, 0, 0, 0) ∧ zc_X6_neighbourOf.find? (fun r => r.1 == 354) = some (354, .goto (-325), 3, 29, 0, 0, 0) ∧ zc_X6_neighbourOf.find? (fun r => r.1 == 357) = some (357, .iload 5, 2, 0, 0, 0, 0) ∧ zc_X6_neighbourOf.find? (fun r => r.1 == 359) = some (359, .ireturn, 1, 0, 0, 0, 0) := zi_fdi (zc := zc_X6_neighbourOf) (by decide +kernel)
set_option maxRecDepth 100000 in
theorem zf_X6_areaOf : zc_X6_areaOf.find? (fun r => r.1 == 0) = some (0, .iload_n 2, 1, 0, 0, 0, 0) ∧ zc_X6_areaOf.find? (fun r => r.1 == 1) = some (1, .ifCond .ne 26, 3, 27, 0, 0, 0) ∧ zc_X6_areaOf.find? (fun r => r.1 == 4) = some (4, .aload_n 0, 1, 0, 0, 0, 0) ∧ zc_X6_areaOf.find? (fun r => r.1 == 5) = some (5, .getfield 16, 3, 6, 2, 881, 0) ∧ zc_X6_areaOf.find? (fun r => r.1 == 8) = some (8, .iload_n 1, 1, 0, 0, 0, 0) ∧ zc_X6_areaOf.find? (fun r => r.1 == 9) = some (9, .iaload, 1, 0, 0, 0, 0) ∧ zc_X6_areaOf.find? (fun r => r.1 == 10) = some (10, .iconst 4, 1, 0, 0, 0, 0) ∧ zc_X6_areaOf.find? (fun r => r.1 == 11) = some (11, .if_icmp .ne 9, 3, 20, 0, 0, 0) ∧ zc_X6_areaOf.find? (fun r => r.1 == 14) = some (14, .ldc_w 263, 3, 0, 0, 1123, (-1000000005)) ∧ zc_X6_areaOf.find? (fun r => r.1 == 17) = some (17, .goto 9, 3, 26, 0, 0, 0) ∧ zc_X6_areaOf.find? (fun r => r.1 == 20) = some (20, .aload_n 0, 1, 0, 0, 0, 0) ∧ zc_X6_areaOf.find? (fun r => r.1 == 21) = some (21, .getfield 28, 3, 6, 6, 885, 0) ∧ zc_X6_areaOf.find? (fun r => r.1 == 24) = some (24, .iload_n 1, 1, 0, 0, 0, 0) ∧ zc_X6_areaOf.find? (fun r => r.1 == 25) = some (25, .iaload, 1, 0, 0, 0, 0) ∧ zc_X6_areaOf.find? (fun r => r.1 == 26) = some (26, .ireturn, 1, 0, 0, 0, 0) ∧ zc_X6_areaOf.find? (fun r => r.1 == 27) = some (27, .aload_n 0, 1, 0, 0, 0, 0) ∧ zc_X6_areaOf.find? (fun r => r.1 == 28) = some (28, .iload_n 1, 1, 0, 0, 0, 0) ∧ zc_X6_areaOf.find? (fun r => r.1 == 29) = some (29, .invokevirtual 147, 3, 167, 2, 1124, 6) ∧ zc_X6_areaOf.find? (fun r => r.1 == 32) = some (32, .ifCond .eq 52, 3, 84, 0, 0, 0) ∧ zc_X6_areaOf.find? (fun r => r.1 == 35) = some (35, .iload_n 2, 1, 0, 0, 0, 0) ∧ zc_X6_areaOf.find? (fun r => r.1 == 36) = some (36, .iconst 1, 1, 0, 0, 0, 0) ∧ zc_X6_areaOf.find? (fun r => r.1 == 37) = some (37, .if_icmp .ne 12, 3, 49, 0, 0, 0) ∧ zc_X6_areaOf.find? (fun r => r.1 == 40) = some (40, .aload_n 0, 1, 0, 0, 0, 0) ∧ zc_X6_areaOf.find? (fun r => r.1 == 41) = some (41, .getfield 31, 3, 6, 7, 886, 0) ∧ zc_X6_areaOf.find? (fun r => r.1 == 44) = some (44, .iload_n 1, 1, 0, 0, 0, 0) ∧ zc_X6_areaOf.find? (fun r => r.1 == 45) = some (45, .iaload, 1, 0, 0, 0, 0) ∧ zc_X6_areaOf.find? (fun r => r.1 == 46) = some (46, .goto 37, 3, 83, 0, 0, 0) ∧ zc_X6_areaOf.find? (fun r => r.1 == 49) = some (49, .iload_n 2, 1, 0, 0, 0, 0) ∧ zc_X6_areaOf.find? (fun r => r.1 == 50) = some (50, .iconst 2, 1, 0, 0, 0, 0) ∧ zc_X6_areaOf.find? (fun r => r.1 == 51) = some (51, .if_icmp .ne 12, 3, 63, 0, 0, 0) ∧ zc_X6_areaOf.find? (fun r => r.1 == 54) = some (54, .aload_n 0, 1, 0, 0, 0, 0) ∧ zc_X6_areaOf.find? (fun r => r.1 == 55) = some (55, .getfield 34, 3, 6, 8, 887, 0) ∧ zc_X6_areaOf.find? (fun r => r.1 == 58) = some (58, .iload_n 1, 1, 0, 0, 0, 0) ∧ zc_X6_areaOf.find? (fun r => r.1 == 59) = some (59, .iaload, 1, 0, 0, 0, 0) ∧ zc_X6_areaOf.find? (fun r => r.1 == 60) = some (60, .goto 23, 3, 83, 0, 0, 0) ∧ zc_X6_areaOf.find? (fun r => r.1 == 63) = some (63, .iload_n 2, 1, 0, 0, 0, 0) ∧ zc_X6_areaOf.find? (fun r => r.1 == 64) = some (64, .iconst 3, 1, 0, 0, 0, 0) ∧ zc_X6_areaOf.find? (fun r => r.1 == 65) = some (65, .if_icmp .ne 12, 3, 77, 0, 0, 0) ∧ zc_X6_areaOf.find? (fun r => r.1 == 68) = some (68, .aload_n 0, 1, 0, 0, 0, 0) ∧ zc_X6_areaOf.find? (fun r => r.1 == 69) = some (69, .getfield 19, 3, 6, 3, 882, 0) ∧ zc_X6_areaOf.find? (fun r => r.1 == 72) = some (72, .iload_n 1, 1, 0, 0, 0, 0) ∧ zc_X6_areaOf.find? (fun r => r.1 == 73) = some (73, .iaload, 1, 0, 0, 0, 0) ∧ zc_X6_areaOf.find? (fun r => r.1 == 74) = some (74, .goto 9, 3, 83, 0, 0, 0) ∧ zc_X6_areaOf.find? (fun r => r.1 == 77) = some (77, .aload_n 0, 1, 0, 0, 0, 0) ∧ zc_X6_areaOf.find? (fun r => r.1 == 78) = some (78, .getfield 22, 3, 6, 4, 883, 0) ∧ zc_X6_areaOf.find? (fun r => r.1 == 81) = some (81, .iload_n 1, 1, 0, 0, 0, 0) ∧ zc_X6_areaOf.find? (fun r => r.1 == 82) = some (82, .iaload, 1, 0, 0, 0, 0) ∧ zc_X6_areaOf.find? (fun r => r.1 == 83) = some (83, .ireturn, 1, 0, 0, 0, 0) ∧ zc_X6_areaOf.find? (fun r => r.1 == 84) = some (84, .aload_n 0, 1, 0, 0, 0, 0) ∧ zc_X6_areaOf.find? (fun r => r.1 == 85) = some (85, .aload_n 0, 1, 0, 0, 0, 0) ∧ zc_X6_areaOf.find? (fun r => r.1 == 86) = some (86, .getfield 28, 3, 6, 6, 885, 0) ∧ zc_X6_areaOf.find? (fun r => r.1 == 89) = some (89, .iload_n 1, 1, 0, 0, 0, 0) ∧ zc_X6_areaOf.find? (fun r => r.1 == 90) = some (90, .iaload, 1, 0, 0, 0, 0) ∧ zc_X6_areaOf.find? (fun r => r.1 == 91) = some (91, .invokevirtual 240, 3, 181, 2, 1107, 6) ∧ zc_X6_areaOf.find? (fun r => r.1 == 94) = some (94, .aload_n 0, 1, 0, 0, 0, 0) ∧ zc_X6_areaOf.find? (fun r => r.1 == 95) = some (95, .aload_n 0, 1, 0, 0, 0, 0) ∧ zc_X6_areaOf.find? (fun r => r.1 == 96) = some (96, .getfield 28, 3, 6, 6, 885, 0) ∧ zc_X6_areaOf.find? (fun r => r.1 == 99) = some (99, .iload_n 1, 1, 0, 0, 0, 0) ∧ zc_X6_areaOf.find? (fun r => r.1 == 100) = some (100, .iaload, 1, 0, 0, 0, 0) ∧ zc_X6_areaOf.find? (fun r => r.1 == 101) = some (101, .iload_n 1, 1, 0, 0, 0, 0) ∧ zc_X6_areaOf.find? (fun r => r.1 == 102) = some (102, .invokevirtual 116, 3, 173, 3, 1030, 6) ∧ zc_X6_areaOf.find? (fun r => r.1 == 105) = some (105, .istore_n 3, 1, 0, 0, 0, 0) ∧ zc_X6_areaOf.find? (fun r => r.1 == 106) = some (106, .iload_n 2, 1, 0, 0, 0, 0) ∧ zc_X6_areaOf.find? (fun r => r.1 == 107) = some (107, .iconst 1, 1, 0, 0, 0, 0) ∧ zc_X6_areaOf.find? (fun r => r.1 == 108) = some (108, .if_icmp .ne 12, 3, 120, 0, 0, 0) ∧ zc_X6_areaOf.find? (fun r => r.1 == 111) = some (111, .aload_n 0, 1, 0, 0, 0, 0) ∧ zc_X6_areaOf.find? (fun r => r.1 == 112) = some (112, .getfield 80, 3, 6, 25, 904, 0) ∧ zc_X6_areaOf.find? (fun r => r.1 == 115) = some (115, .iload_n 3, 1, 0, 0, 0, 0) ∧ zc_X6_areaOf.find? (fun r => r.1 == 116) = some (116, .iaload, 1, 0, 0, 0, 0) ∧ zc_X6_areaOf.find? (fun r => r.1 == 117) = some (117, .goto 37, 3, 154, 0, 0, 0) ∧ zc_X6_areaOf.find? (fun r => r.1 == 120) = some (120, .iload_n 2, 1, 0, 0, 0, 0) ∧ zc_X6_areaOf.find? (fun r => r.1 == 121) = some (121, .iconst 2, 1, 0, 0, 0, 0) ∧ zc_X6_areaOf.find? (fun r => r.1 == 122) = some (122, .if_icmp .ne 12, 3, 134, 0, 0, 0) ∧ zc_X6_areaOf.find? (fun r => r.1 == 125) = some (125, .aload_n 0, 1, 0, 0, 0, 0) ∧ zc_X6_areaOf.find? (fun r => r.1 == 126) = some (126, .getfield 83, 3, 6, 26, 905, 0) ∧ zc_X6_areaOf.find? (fun r => r.1 == 129) = some (129, .iload_n 3, 1, 0, 0, 0, 0) ∧ zc_X6_areaOf.find? (fun r => r.1 == 130) = some (130, .iaload, 1, 0, 0, 0, 0) ∧ zc_X6_areaOf.find? (fun r => r.1 == 131) = some (131, .goto 23, 3, 154, 0, 0, 0) ∧ zc_X6_areaOf.find? (fun r => r.1 == 134) = some (134, .iload_n 2, 1, 0, 0, 0, 0) ∧ zc_X6_areaOf.find? (fun r => r.1 == 135) = some (135, .iconst 3, 1, 0, 0, 0, 0) ∧ zc_X6_areaOf.find? (fun r => r.1 == 136) = some (136, .if_icmp .ne 12, 3, 148, 0, 0, 0) ∧ zc_X6_areaOf.find? (fun r => r.1 == 139) = some (139, .aload_n 0, 1, 0, 0, 0, 0) ∧ zc_X6_areaOf.find? (fun r => r.1 == 140) = some (140, .getfield 86, 3, 6, 27, 906, 0) ∧ zc_X6_areaOf.find? (fun r => r.1 == 143) = some (143, .iload_n 3, 1, 0, 0, 0, 0) ∧ zc_X6_areaOf.find? (fun r => r.1 == 144) = some (144, .iaload, 1, 0, 0, 0, 0) ∧ zc_X6_areaOf.find? (fun r => r.1 == 145) = some (145, .goto 9, 3, 154, 0, 0, 0) ∧ zc_X6_areaOf.find? (fun r => r.1 == 148) = some (148, .aload_n 0, 1, 0, 0, 0, 0) ∧ zc_X6_areaOf.find? (fun r => r.1 == 149) = some (149, .getfield 89, 3, 6, 28, 907, 0) ∧ zc_X6_areaOf.find? (fun r => r.1 == 152) = some (152, .iload_n 3, 1, 0, 0, 0, 0) ∧ zc_X6_areaOf.find? (fun r => r.1 == 153) = some (153, .iaload, 1, 0, 0, 0, 0) ∧ zc_X6_areaOf.find? (fun r => r.1 == 154) = some (154, .ireturn, 1, 0, 0, 0, 0) := zi_fdi (zc := zc_X6_areaOf) (by decide +kernel)
set_option maxRecDepth 100000 in
theorem zf_X6_placeIn : zc_X6_placeIn.find? (fun r => r.1 == 0) = some (0, .iconst 0, 1, 0, 0, 0, 0) ∧ zc_X6_placeIn.find? (fun r => r.1 == 1) = some (1, .istore_n 3, 1, 0, 0, 0, 0) ∧ zc_X6_placeIn.find? (fun r => r.1 == 2) = some (2, .iload_n 3, 1, 0, 0, 0, 0) ∧ zc_X6_placeIn.find? (fun r => r.1 == 3) = some (3, .iload_n 1, 1, 0, 0, 0, 0) ∧ zc_X6_placeIn.find? (fun r => r.1 == 4) = some (4, .if_icmp .ge 18, 3, 22, 0, 0, 0) ∧ zc_X6_placeIn.find? (fun r => r.1 == 7) = some (7, .aload_n 0, 1, 0, 0, 0, 0) ∧ zc_X6_placeIn.find? (fun r => r.1 == 8) = some (8, .iload_n 3, 1, 0, 0, 0, 0) ∧ zc_X6_placeIn.find? (fun r => r.1 == 9) = some (9, .iaload, 1, 0, 0, 0, 0) ∧ zc_X6_placeIn.find? (fun r => r.1 == 10) = some (10, .iload_n 2, 1, 0, 0, 0, 0) ∧ zc_X6_placeIn.find? (fun r => r.1 == 11) = some (11, .if_icmp .ne 5, 3, 16, 0, 0, 0) ∧ zc_X6_placeIn.find? (fun r => r.1 == 14) = some (14, .iload_n 3, 1, 0, 0, 0, 0) ∧ zc_X6_placeIn.find? (fun r => r.1 == 15) = some (15, .ireturn, 1, 0, 0, 0, 0) ∧ zc_X6_placeIn.find? (fun r => r.1 == 16) = some (16, .iinc 3 1, 3, 0, 0, 0, 0) ∧ zc_X6_placeIn.find? (fun r => r.1 == 19) = some (19, .goto (-17), 3, 2, 0, 0, 0) ∧ zc_X6_placeIn.find? (fun r => r.1 == 22) = some (22, .ldc_w 263, 3, 0, 0, 1123, (-1000000005)) ∧ zc_X6_placeIn.find? (fun r => r.1 == 25) = some (25, .ireturn, 1, 0, 0, 0, 0) := zi_fdi (zc := zc_X6_placeIn) (by decide +kernel)
set_option maxRecDepth 100000 in
theorem zf_X6_lies : zc_X6_lies.find? (fun r => r.1 == 0) = some (0, .aload_n 0, 1, 0, 0, 0, 0) ∧ zc_X6_lies.find? (fun r => r.1 == 1) = some (1, .getfield 16, 3, 6, 2, 881, 0) ∧ zc_X6_lies.find? (fun r => r.1 == 4) = some (4, .iload_n 1, 1, 0, 0, 0, 0) ∧ zc_X6_lies.find? (fun r => r.1 == 5) = some (5, .iaload, 1, 0, 0, 0, 0) ∧ zc_X6_lies.find? (fun r => r.1 == 6) = some (6, .iconst 4, 1, 0, 0, 0, 0) ∧ zc_X6_lies.find? (fun r => r.1 == 7) = some (7, .if_icmp .eq 13, 3, 20, 0, 0, 0) ∧ zc_X6_lies.find? (fun r => r.1 == 10) = some (10, .aload_n 0, 1, 0, 0, 0, 0) ∧ zc_X6_lies.find? (fun r => r.1 == 11) = some (11, .getfield 28, 3, 6, 6, 885, 0) ∧ zc_X6_lies.find? (fun r => r.1 == 14) = some (14, .iload_n 1, 1, 0, 0, 0, 0) ∧ zc_X6_lies.find? (fun r => r.1 == 15) = some (15, .iaload, 1, 0, 0, 0, 0) ∧ zc_X6_lies.find? (fun r => r.1 == 16) = some (16, .iload_n 2, 1, 0, 0, 0, 0) ∧ zc_X6_lies.find? (fun r => r.1 == 17) = some (17, .if_icmp .ne 33, 3, 50, 0, 0, 0) ∧ zc_X6_lies.find? (fun r => r.1 == 20) = some (20, .aload_n 0, 1, 0, 0, 0, 0) ∧ zc_X6_lies.find? (fun r => r.1 == 21) = some (21, .getfield 16, 3, 6, 2, 881, 0) ∧ zc_X6_lies.find? (fun r => r.1 == 24) = some (24, .iload_n 1, 1, 0, 0, 0, 0) ∧ zc_X6_lies.find? (fun r => r.1 == 25) = some (25, .iaload, 1, 0, 0, 0, 0) ∧ zc_X6_lies.find? (fun r => r.1 == 26) = some (26, .iconst 4, 1, 0, 0, 0, 0) ∧ zc_X6_lies.find? (fun r => r.1 == 27) = some (27, .if_icmp .ne 25, 3, 52, 0, 0, 0) ∧ zc_X6_lies.find? (fun r => r.1 == 30) = some (30, .aload_n 0, 1, 0, 0, 0, 0) ∧ zc_X6_lies.find? (fun r => r.1 == 31) = some (31, .iload_n 1, 1, 0, 0, 0, 0) ∧ zc_X6_lies.find? (fun r => r.1 == 32) = some (32, .aload_n 0, 1, 0, 0, 0, 0) ∧ zc_X6_lies.find? (fun r => r.1 == 33) = some (33, .getfield 7, 3, 6, 0, 879, 0) ∧ zc_X6_lies.find? (fun r => r.1 == 36) = some (36, .iload_n 2, 1, 0, 0, 0, 0) ∧ zc_X6_lies.find? (fun r => r.1 == 37) = some (37, .iaload, 1, 0, 0, 0, 0) ∧ zc_X6_lies.find? (fun r => r.1 == 38) = some (38, .aload_n 0, 1, 0, 0, 0, 0) ∧ zc_X6_lies.find? (fun r => r.1 == 39) = some (39, .getfield 13, 3, 6, 1, 880, 0) ∧ zc_X6_lies.find? (fun r => r.1 == 42) = some (42, .iload_n 2, 1, 0, 0, 0, 0) ∧ zc_X6_lies.find? (fun r => r.1 == 43) = some (43, .iaload, 1, 0, 0, 0, 0) ∧ zc_X6_lies.find? (fun r => r.1 == 44) = some (44, .invokevirtual 184, 3, 182, 4, 1010, 6) ∧ zc_X6_lies.find? (fun r => r.1 == 47) = some (47, .ifCond .ne 5, 3, 52, 0, 0, 0) ∧ zc_X6_lies.find? (fun r => r.1 == 50) = some (50, .iconst 0, 1, 0, 0, 0, 0) ∧ zc_X6_lies.find? (fun r => r.1 == 51) = some (51, .ireturn, 1, 0, 0, 0, 0) ∧ zc_X6_lies.find? (fun r => r.1 == 52) = some (52, .aload_n 0, 1, 0, 0, 0, 0) ∧ zc_X6_lies.find? (fun r => r.1 == 53) = some (53, .getfield 16, 3, 6, 2, 881, 0) ∧ zc_X6_lies.find? (fun r => r.1 == 56) = some (56, .iload_n 1, 1, 0, 0, 0, 0) ∧ zc_X6_lies.find? (fun r => r.1 == 57) = some (57, .iaload, 1, 0, 0, 0, 0) ∧ zc_X6_lies.find? (fun r => r.1 == 58) = some (58, .iconst 4, 1, 0, 0, 0, 0) ∧ zc_X6_lies.find? (fun r => r.1 == 59) = some (59, .if_icmp .ne 28, 3, 87, 0, 0, 0) ∧ zc_X6_lies.find? (fun r => r.1 == 62) = some (62, .aload_n 0, 1, 0, 0, 0, 0) ∧ zc_X6_lies.find? (fun r => r.1 == 63) = some (63, .getfield 31, 3, 6, 7, 886, 0) ∧ zc_X6_lies.find? (fun r => r.1 == 66) = some (66, .iload_n 1, 1, 0, 0, 0, 0) ∧ zc_X6_lies.find? (fun r => r.1 == 67) = some (67, .iaload, 1, 0, 0, 0, 0) ∧ zc_X6_lies.find? (fun r => r.1 == 68) = some (68, .aload_n 0, 1, 0, 0, 0, 0) ∧ zc_X6_lies.find? (fun r => r.1 == 69) = some (69, .getfield 7, 3, 6, 0, 879, 0) ∧ zc_X6_lies.find? (fun r => r.1 == 72) = some (72, .iload_n 2, 1, 0, 0, 0, 0) ∧ zc_X6_lies.find? (fun r => r.1 == 73) = some (73, .iaload, 1, 0, 0, 0, 0) ∧ zc_X6_lies.find? (fun r => r.1 == 74) = some (74, .aload_n 0, 1, 0, 0, 0, 0) ∧ zc_X6_lies.find? (fun r => r.1 == 75) = some (75, .getfield 19, 3, 6, 3, 882, 0) ∧ zc_X6_lies.find? (fun r => r.1 == 78) = some (78, .iload_n 1, 1, 0, 0, 0, 0) ∧ zc_X6_lies.find? (fun r => r.1 == 79) = some (79, .iaload, 1, 0, 0, 0, 0) ∧ zc_X6_lies.find? (fun r => r.1 == 80) = some (80, .isub, 1, 0, 0, 0, 0) ∧ zc_X6_lies.find? (fun r => r.1 == 81) = some (81, .invokestatic 141, 3, 166, 2, 1054, 0) ∧ zc_X6_lies.find? (fun r => r.1 == 84) = some (84, .goto 9, 3, 93, 0, 0, 0) ∧ zc_X6_lies.find? (fun r => r.1 == 87) = some (87, .aload_n 0, 1, 0, 0, 0, 0) ∧ zc_X6_lies.find? (fun r => r.1 == 88) = some (88, .getfield 31, 3, 6, 7, 886, 0) ∧ zc_X6_lies.find? (fun r => r.1 == 91) = some (91, .iload_n 1, 1, 0, 0, 0, 0) ∧ zc_X6_lies.find? (fun r => r.1 == 92) = some (92, .iaload, 1, 0, 0, 0, 0) ∧ zc_X6_lies.find? (fun r => r.1 == 93) = some (93, .istore 5, 2, 0, 0, 0, 0) ∧ zc_X6_lies.find? (fun r => r.1 == 95) = some (95, .aload_n 0, 1, 0, 0, 0, 0) ∧ zc_X6_lies.find? (fun r => r.1 == 96) = some (96, .getfield 16, 3, 6, 2, 881, 0) ∧ zc_X6_lies.find? (fun r => r.1 == 99) = some (99, .iload_n 1, 1, 0, 0, 0, 0) ∧ zc_X6_lies.find? (fun r => r.1 == 100) = some (100, .iaload, 1, 0, 0, 0, 0) ∧ zc_X6_lies.find? (fun r => r.1 == 101) = some (101, .iconst 4, 1, 0, 0, 0, 0) ∧ zc_X6_lies.find? (fun r => r.1 == 102) = some (102, .if_icmp .ne 28, 3, 130, 0, 0, 0) ∧ zc_X6_lies.find? (fun r => r.1 == 105) = some (105, .aload_n 0, 1, 0, 0, 0, 0) ∧ zc_X6_lies.find? (fun r => r.1 == 106) = some (106, .getfield 34, 3, 6, 8, 887, 0) ∧ zc_X6_lies.find? (fun r => r.1 == 109) = some (109, .iload_n 1, 1, 0, 0, 0, 0) ∧ zc_X6_lies.find? (fun r => r.1 == 110) = some (110, .iaload, 1, 0, 0, 0, 0) ∧ zc_X6_lies.find? (fun r => r.1 == 111) = some (111, .aload_n 0, 1, 0, 0, 0, 0) ∧ zc_X6_lies.find? (fun r => r.1 == 112) = some (112, .getfield 13, 3, 6, 1, 880, 0) ∧ zc_X6_lies.find? (fun r => r.1 == 115) = some (115, .iload_n 2, 1, 0, 0, 0, 0) ∧ zc_X6_lies.find? (fun r => r.1 == 116) = some (116, .iaload, 1, 0, 0, 0, 0) ∧ zc_X6_lies.find? (fun r => r.1 == 117) = some (117, .aload_n 0, 1, 0, 0, 0, 0) ∧ zc_X6_lies.find? (fun r => r.1 == 118) = some (118, .getfield 22, 3, 6, 4, 883, 0) ∧ zc_X6_lies.find? (fun r => r.1 == 121) = some (121, .iload_n 1, 1, 0, 0, 0, 0) ∧ zc_X6_lies.find? (fun r => r.1 == 122) = some (122, .iaload, 1, 0, 0, 0, 0) ∧ zc_X6_lies.find? (fun r => r.1 == 123) = some (123, .isub, 1, 0, 0, 0, 0) ∧ zc_X6_lies.find? (fun r => r.1 == 124) = some (124, .invokestatic 141, 3, 166, 2, 1054, 0) ∧ zc_X6_lies.find? (fun r => r.1 == 127) = some (127, .goto 9, 3, 136, 0, 0, 0) ∧ zc_X6_lies.find? (fun r => r.1 == 130) = some (130, .aload_n 0, 1, 0, 0, 0, 0) ∧ zc_X6_lies.find? (fun r => r.1 == 131) = some (131, .getfield 34, 3, 6, 8, 887, 0) ∧ zc_X6_lies.find? (fun r => r.1 == 134) = some (134, .iload_n 1, 1, 0, 0, 0, 0) ∧ zc_X6_lies.find? (fun r => r.1 == 135) = some (135, .iaload, 1, 0, 0, 0, 0) ∧ zc_X6_lies.find? (fun r => r.1 == 136) = some (136, .istore 6, 2, 0, 0, 0, 0) ∧ zc_X6_lies.find? (fun r => r.1 == 138) = some (138, .iload_n 3, 1, 0, 0, 0, 0) ∧ zc_X6_lies.find? (fun r => r.1 == 139) = some (139, .iload 5, 2, 0, 0, 0, 0) ∧ zc_X6_lies.find? (fun r => r.1 == 141) = some (141, .if_icmp .lt 41, 3, 182, 0, 0, 0) ∧ zc_X6_lies.find? (fun r => r.1 == 144) = some (144, .iload_n 3, 1, 0, 0, 0, 0) ∧ zc_X6_lies.find? (fun r => r.1 == 145) = some (145, .iload 5, 2, 0, 0, 0, 0) ∧ zc_X6_lies.find? (fun r => r.1 == 147) = some (147, .aload_n 0, 1, 0, 0, 0, 0) ∧ zc_X6_lies.find? (fun r => r.1 == 148) = some (148, .getfield 19, 3, 6, 3, 882, 0) ∧ zc_X6_lies.find? (fun r => r.1 == 151) = some (151, .iload_n 1, 1, 0, 0, 0, 0) ∧ zc_X6_lies.find? (fun r => r.1 == 152) = some (152, .iaload, 1, 0, 0, 0, 0) ∧ zc_X6_lies.find? (fun r => r.1 == 153) = some (153, .iadd, 1, 0, 0, 0, 0) ∧ zc_X6_lies.find? (fun r => r.1 == 154) = some (154, .if_icmp .ge 28, 3, 182, 0, 0, 0) ∧ zc_X6_lies.find? (fun r => r.1 == 157) = some (157, .iload 4, 2, 0, 0, 0, 0) ∧ zc_X6_lies.find? (fun r => r.1 == 159) = some (159, .iload 6, 2, 0, 0, 0, 0) ∧ zc_X6_lies.find? (fun r => r.1 == 161) = some (161, .if_icmp .lt 21, 3, 182, 0, 0, 0) ∧ zc_X6_lies.find? (fun r => r.1 == 164) = some (164, .iload 4, 2, 0, 0, 0, 0) ∧ zc_X6_lies.find? (fun r => r.1 == 166) = some (166, .iload 6, 2, 0, 0, 0, 0) ∧ zc_X6_lies.find? (fun r => r.1 == 168) = some (168, .aload_n 0, 1, 0, 0, 0, 0) ∧ zc_X6_lies.find? (fun r => r.1 == 169) = some (169, .getfield 22, 3, 6, 4, 883, 0) ∧ zc_X6_lies.find? (fun r => r.1 == 172) = some (172, .iload_n 1, 1, 0, 0, 0, 0) ∧ zc_X6_lies.find? (fun r => r.1 == 173) = some (173, .iaload, 1, 0, 0, 0, 0) ∧ zc_X6_lies.find? (fun r => r.1 == 174) = some (174, .iadd, 1, 0, 0, 0, 0) ∧ zc_X6_lies.find? (fun r => r.1 == 175) = some (175, .if_icmp .ge 7, 3, 182, 0, 0, 0) ∧ zc_X6_lies.find? (fun r => r.1 == 178) = some (178, .iconst 1, 1, 0, 0, 0, 0) ∧ zc_X6_lies.find? (fun r => r.1 == 179) = some (179, .goto 4, 3, 183, 0, 0, 0) ∧ zc_X6_lies.find? (fun r => r.1 == 182) = some (182, .iconst 0, 1, 0, 0, 0, 0) ∧ zc_X6_lies.find? (fun r => r.1 == 183) = some (183, .ireturn, 1, 0, 0, 0, 0) := zi_fdi (zc := zc_X6_lies) (by decide +kernel)
set_option maxRecDepth 100000 in
theorem zf_J9_floorDiv_7cf53 : zc_J9_floorDiv_7cf53.find? (fun r => r.1 == 0) = some (0, .iload_n 0, 1, 0, 0, 0, 0) ∧ zc_J9_floorDiv_7cf53.find? (fun r => r.1 == 1) = some (1, .iload_n 1, 1, 0, 0, 0, 0) ∧ zc_J9_floorDiv_7cf53.find? (fun r => r.1 == 2) = some (2, .idiv, 1, 0, 0, 0, 0) ∧ zc_J9_floorDiv_7cf53.find? (fun r => r.1 == 3) = some (3, .istore_n 2, 1, 0, 0, 0, 0) ∧ zc_J9_floorDiv_7cf53.find? (fun r => r.1 == 4) = some (4, .iload_n 0, 1, 0, 0, 0, 0) ∧ zc_J9_floorDiv_7cf53.find? (fun r => r.1 == 5) = some (5, .iload_n 1, 1, 0, 0, 0, 0) ∧ zc_J9_floorDiv_7cf53.find? (fun r => r.1 == 6) = some (6, .ixor, 1, 0, 0, 0, 0) ∧ zc_J9_floorDiv_7cf53.find? (fun r => r.1 == 7) = some (7, .ifCond .ge 14, 3, 21, 0, 0, 0) ∧ zc_J9_floorDiv_7cf53.find? (fun r => r.1 == 10) = some (10, .iload_n 2, 1, 0, 0, 0, 0) ∧ zc_J9_floorDiv_7cf53.find? (fun r => r.1 == 11) = some (11, .iload_n 1, 1, 0, 0, 0, 0) ∧ zc_J9_floorDiv_7cf53.find? (fun r => r.1 == 12) = some (12, .imul, 1, 0, 0, 0, 0) ∧ zc_J9_floorDiv_7cf53.find? (fun r => r.1 == 13) = some (13, .iload_n 0, 1, 0, 0, 0, 0) ∧ zc_J9_floorDiv_7cf53.find? (fun r => r.1 == 14) = some (14, .if_icmp .eq 7, 3, 21, 0, 0, 0) ∧ zc_J9_floorDiv_7cf53.find? (fun r => r.1 == 17) = some (17, .iload_n 2, 1, 0, 0, 0, 0) ∧ zc_J9_floorDiv_7cf53.find? (fun r => r.1 == 18) = some (18, .iconst 1, 1, 0, 0, 0, 0) ∧ zc_J9_floorDiv_7cf53.find? (fun r => r.1 == 19) = some (19, .isub, 1, 0, 0, 0, 0) ∧ zc_J9_floorDiv_7cf53.find? (fun r => r.1 == 20) = some (20, .ireturn, 1, 0, 0, 0, 0) ∧ zc_J9_floorDiv_7cf53.find? (fun r => r.1 == 21) = some (21, .iload_n 2, 1, 0, 0, 0, 0) ∧ zc_J9_floorDiv_7cf53.find? (fun r => r.1 == 22) = some (22, .ireturn, 1, 0, 0, 0, 0) := zi_fdi (zc := zc_J9_floorDiv_7cf53) (by decide +kernel)
set_option maxRecDepth 100000 in
theorem zf_J9_max_7cf53 : zc_J9_max_7cf53.find? (fun r => r.1 == 0) = some (0, .iload_n 0, 1, 0, 0, 0, 0) ∧ zc_J9_max_7cf53.find? (fun r => r.1 == 1) = some (1, .iload_n 1, 1, 0, 0, 0, 0) ∧ zc_J9_max_7cf53.find? (fun r => r.1 == 2) = some (2, .if_icmp .lt 7, 3, 9, 0, 0, 0) ∧ zc_J9_max_7cf53.find? (fun r => r.1 == 5) = some (5, .iload_n 0, 1, 0, 0, 0, 0) ∧ zc_J9_max_7cf53.find? (fun r => r.1 == 6) = some (6, .goto 4, 3, 10, 0, 0, 0) ∧ zc_J9_max_7cf53.find? (fun r => r.1 == 9) = some (9, .iload_n 1, 1, 0, 0, 0, 0) ∧ zc_J9_max_7cf53.find? (fun r => r.1 == 10) = some (10, .ireturn, 1, 0, 0, 0, 0) := zi_fdi (zc := zc_J9_max_7cf53) (by decide +kernel)
set_option maxRecDepth 100000 in
theorem zf_J9_min_7cf53 : zc_J9_min_7cf53.find? (fun r => r.1 == 0) = some (0, .iload_n 0, 1, 0, 0, 0, 0) ∧ zc_J9_min_7cf53.find? (fun r => r.1 == 1) = some (1, .iload_n 1, 1, 0, 0, 0, 0) ∧ zc_J9_min_7cf53.find? (fun r => r.1 == 2) = some (2, .if_icmp .gt 7, 3, 9, 0, 0, 0) ∧ zc_J9_min_7cf53.find? (fun r => r.1 == 5) = some (5, .iload_n 0, 1, 0, 0, 0, 0) ∧ zc_J9_min_7cf53.find? (fun r => r.1 == 6) = some (6, .goto 4, 3, 10, 0, 0, 0) ∧ zc_J9_min_7cf53.find? (fun r => r.1 == 9) = some (9, .iload_n 1, 1, 0, 0, 0, 0) ∧ zc_J9_min_7cf53.find? (fun r => r.1 == 10) = some (10, .ireturn, 1, 0, 0, 0, 0) := zi_fdi (zc := zc_J9_min_7cf53) (by decide +kernel)
end
section
/-! what abstract cells stand for -/
noncomputable def zi_cv (ρ : Nat → Int32) (b : Nat) (as : List Nat) (v : Value) : Value := match v with
  | .ref 0 => .ref b
  | .ref (i + 1) => .ref (as.getD i 0)
  | .float k => .int (ρ k.toNat)
  | v => v
noncomputable def zi_iv (ρ : Nat → Int32) (v : Value) : Int32 := match v with
  | .int x => x
  | .float k => ρ k.toNat
  | _ => 0
noncomputable def zi_rv (as : List Nat) (v : Value) : Option Nat := match v with
  | .ref (i + 1) => some (as.getD i 0)
  | _ => none
noncomputable def zi_ce (ρ : Nat → Int32) (b : Nat) (as : List Nat) (cy : Nat → ClassId) (c : Nat × List Value) : va_E :=
  if c.1 < 7 then .inr (c.1, c.2.map (zi_cv ρ b as))
  else if c.1 < 9 then .inl (cy c.1, c.2.length, .inl (fun i => zi_iv ρ (c.2.getD i (.int 0))))
  else .inl (cy c.1, c.2.length, .inr (.inr (.inr (.inr (fun i => zi_rv as (c.2.getD i .null))))))
noncomputable def zi_w (ρ : Nat → Int32) (b : Nat) (as : List Nat) (cy : Nat → ClassId) (h : zi_Hp) : va_W := h.mapIdx (fun i c => (as.getD i 0, zi_ce ρ b as cy c))
noncomputable def zi_lc (ρ : Nat → Int32) (b : Nat) (as : List Nat) (L : zi_Lc) : List (Nat × Value) := L.map (fun q => (q.1, zi_cv ρ b as q.2))
noncomputable def zi_mem (x : Int) (l : zi_Iv) : Prop := ∃ q ∈ l, q.1 ≤ x ∧ x ≤ q.2
noncomputable def zi_rho (ρ : Nat → Int32) (d : zi_Dm) : Prop := (∀ (k : Nat) (l : zi_Iv), d[k]? = some l → zi_mem (ρ k).toInt l) ∧ ρ 5 = ρ 0 &&& 31
section ZC
variable {ρ : Nat → Int32} {b : Nat} {as : List Nat} {cy : Nat → ClassId}
theorem zi_w_get {h : zi_Hp} {r : Nat} {c : Nat × List Value} (e : h[r]? = some c) : (zi_w ρ b as cy h)[r]? = some (as.getD r 0, zi_ce ρ b as cy c) := by
  unfold zi_w
  rw [List.getElem?_mapIdx, e]
  rfl
theorem zi_w_set {h : zi_Hp} {r : Nat} {c : Nat × List Value} : zi_w ρ b as cy (h.set r c) = (zi_w ρ b as cy h).set r (as.getD r 0, zi_ce ρ b as cy c) := by
  unfold zi_w
  rw [List.mapIdx_set]
theorem zi_cv_cat (v : Value) : (zi_cv ρ b as v).category = v.category := by
  unfold zi_cv
  split <;> first | rfl | simp [Value.category]
theorem zi_cv_grow {qs : List Nat} {v : Value} (h : zi_wfv as.length v = true) : zi_cv ρ b (as ++ qs) v = zi_cv ρ b as v := by
  unfold zi_cv
  split
  · rfl
  · rename_i i
    have hi : i < as.length := by simpa [zi_wfv] using h
    simp [List.getElem?_append_left hi]
  · rfl
  · rfl
theorem zi_rv_grow {qs : List Nat} {v : Value} (h : zi_wfv as.length v = true) : zi_rv (as ++ qs) v = zi_rv as v := by
  unfold zi_rv
  split
  · rename_i i
    have hi : i < as.length := by simpa [zi_wfv] using h
    simp [List.getElem?_append_left hi]
  · rfl
theorem zi_cvl_grow {qs : List Nat} {l : List Value} (h : zi_wfl as.length l = true) : l.map (zi_cv ρ b (as ++ qs)) = l.map (zi_cv ρ b as) := by
  apply List.map_congr_left
  intro v hv
  exact zi_cv_grow (List.all_eq_true.mp h v hv)
theorem zi_lc_grow {qs : List Nat} {L : zi_Lc} (h : zi_wfc as.length L = true) : zi_lc ρ b (as ++ qs) L = zi_lc ρ b as L := by
  apply List.map_congr_left
  intro q hq
  rw [zi_cv_grow (List.all_eq_true.mp h q hq)]
theorem zi_ce_grow {qs : List Nat} {c : Nat × List Value} (h : (c.1 == 7 || c.1 == 8 || zi_wfl as.length c.2) = true) : zi_ce ρ b (as ++ qs) cy c = zi_ce ρ b as cy c := by
  obtain ⟨t, l⟩ := c
  unfold zi_ce
  dsimp only
  split
  · rename_i ht
    have h2 : zi_wfl as.length l = true := by
      simp only [Bool.or_eq_true, beq_iff_eq] at h
      rcases h with (h | h) | h
      · omega
      · omega
      · exact h
    rw [zi_cvl_grow h2]
  · split
    · rfl
    · rename_i h1 h2
      have h3 : zi_wfl as.length l = true := by
        simp only [Bool.or_eq_true, beq_iff_eq] at h
        rcases h with (h | h) | h
        · omega
        · omega
        · exact h
      have e : (fun i => zi_rv (as ++ qs) (l.getD i .null)) = (fun i => zi_rv as (l.getD i .null)) := by
        funext i
        apply zi_rv_grow
        by_cases hi : i < l.length
        · have : l.getD i .null ∈ l := by simp [List.getD_eq_getElem?_getD, hi]
          exact List.all_eq_true.mp h3 _ this
        · simp [List.getD_eq_getElem?_getD, List.getElem?_eq_none (Nat.not_lt.mp hi), zi_wfv]
      rw [e]
theorem zi_w_grow {qs : List Nat} {h cs : zi_Hp} (hl : as.length = h.length) (hw : zi_wfh h = true) : zi_w ρ b (as ++ qs) cy (h ++ cs) = zi_w ρ b as cy h ++ cs.mapIdx (fun i c => (qs.getD i 0, zi_ce ρ b (as ++ qs) cy c)) := by
  unfold zi_w
  rw [List.mapIdx_append]
  congr 1
  · apply List.ext_getElem?
    intro i
    rw [List.getElem?_mapIdx, List.getElem?_mapIdx]
    cases hi : h[i]? with
    | none => rfl
    | some c =>
      have hlt : i < as.length := by rw [hl]; exact (List.getElem?_eq_some_iff.mp hi).1
      have hm : c ∈ h := List.mem_of_getElem? hi
      have h2 := List.all_eq_true.mp hw c hm
      rw [← hl] at h2
      simp only [Option.map_some]
      rw [zi_ce_grow h2]
      simp [List.getD_eq_getElem?_getD, List.getElem?_append_left hlt]
  · apply List.ext_getElem?
    intro i
    rw [List.getElem?_mapIdx, List.getElem?_mapIdx]
    cases cs[i]? with
    | none => rfl
    | some c =>
      simp [List.getD_eq_getElem?_getD, ← hl, List.getElem?_append_right]
theorem zi_clip_mem {lo hi x : Int} {l : zi_Iv} (h : zi_mem x l) (h1 : lo ≤ x) (h2 : x ≤ hi) : zi_mem x (zi_clip lo hi l) := by
  obtain ⟨q, hq, a, c⟩ := h
  refine ⟨(max q.1 lo, min q.2 hi), List.mem_filterMap.mpr ⟨q, hq, if_pos (by omega)⟩, by dsimp only; omega, by dsimp only; omega⟩
theorem zi_mem_app {x : Int} {l r : zi_Iv} : zi_mem x (l ++ r) ↔ zi_mem x l ∨ zi_mem x r := by
  unfold zi_mem
  constructor
  · rintro ⟨q, hq, h⟩
    rcases List.mem_append.mp hq with h1 | h1
    · exact Or.inl ⟨q, h1, h⟩
    · exact Or.inr ⟨q, h1, h⟩
  · rintro (⟨q, hq, h⟩ | ⟨q, hq, h⟩)
    · exact ⟨q, List.mem_append_left _ hq, h⟩
    · exact ⟨q, List.mem_append_right _ hq, h⟩
/-- the condition over whole numbers -/
noncomputable def zi_hold (c : ClassFile.Cond) (x v : Int) : Prop := match c with
  | .eq => x = v | .ne => ¬ x = v | .lt => x < v | .ge => v ≤ x | .gt => v < x | .le => x ≤ v
theorem zi_T_mem {c : ClassFile.Cond} {x v : Int} {l : zi_Iv} (h : zi_mem x l) (lo : -2147483648 ≤ x) (hi : x ≤ 2147483647) (hc : zi_hold c x v) : zi_mem x (zi_T c v l) := by
  cases c <;> simp only [zi_hold] at hc <;> simp only [zi_T]
  · exact zi_clip_mem h (by omega) (by omega)
  · rw [zi_mem_app]
    rcases Int.lt_or_gt_of_ne hc with h1 | h1
    · exact Or.inl (zi_clip_mem h lo (by omega))
    · exact Or.inr (zi_clip_mem h (by omega) hi)
  · exact zi_clip_mem h lo (by omega)
  · exact zi_clip_mem h (by omega) hi
  · exact zi_clip_mem h (by omega) hi
  · exact zi_clip_mem h lo (by omega)
theorem zi_hold_neg (c : ClassFile.Cond) (x v : Int) : zi_hold c x v ∨ zi_hold (zi_neg c) x v := by
  cases c <;> simp only [zi_hold, zi_neg] <;> omega
theorem zi_cmp_hold {c : ClassFile.Cond} {x y : Int32} : zi_cmp c x y = true ↔ zi_hold c x.toInt y.toInt := by
  cases c <;> simp only [zi_cmp, zi_hold, decide_eq_true_eq, Int32.lt_iff_toInt_lt, Int32.le_iff_toInt_le, Int32.toInt_inj]
theorem zi_hold_swap {c : ClassFile.Cond} {x y : Int} : zi_hold (zi_swap c) x y ↔ zi_hold c y x := by
  cases c <;> simp only [zi_hold, zi_swap] <;> omega
theorem zi_rho_set {d : zi_Dm} {k : Nat} {l : zi_Iv} (h : zi_rho ρ d) (hm : zi_mem (ρ k).toInt l) : zi_rho ρ (d.set k l) := by
  refine ⟨fun j l' hj => ?_, h.2⟩
  rw [List.getElem?_set] at hj
  split at hj
  · rename_i e
    subst e
    split at hj
    · cases hj; exact hm
    · cases hj
  · exact h.1 j l' hj
theorem zi_lo (x : Int32) : -2147483648 ≤ x.toInt := by have := x.le_toInt; simpa using this
theorem zi_hi (x : Int32) : x.toInt ≤ 2147483647 := by have := x.toInt_lt; omega
theorem zi_nm_cv {d : zi_Dm} (h : zi_rho ρ d) (v : Value) : zi_cv ρ b as (zi_nm d v) = zi_cv ρ b as v := by
  unfold zi_nm
  split
  · rename_i k
    split
    · rename_i q hq
      split
      · rename_i e
        obtain ⟨q', hq', h1, h2⟩ := h.1 _ _ hq
        rw [List.mem_singleton.mp hq'] at h1 h2
        have : (ρ k.toNat).toInt = q.1 := by omega
        simp only [zi_cv]
        rw [← this, Int32.ofInt_toInt]
      · rfl
    · rfl
  · rfl
theorem zi_nm_iv {d : zi_Dm} (h : zi_rho ρ d) (v : Value) : zi_iv ρ (zi_nm d v) = zi_iv ρ v := by
  unfold zi_nm
  split
  · rename_i k
    split
    · rename_i q hq
      split
      · rename_i e
        obtain ⟨q', hq', h1, h2⟩ := h.1 _ _ hq
        rw [List.mem_singleton.mp hq'] at h1 h2
        have : (ρ k.toNat).toInt = q.1 := by omega
        simp only [zi_iv]
        rw [← this, Int32.ofInt_toInt]
      · rfl
    · rfl
  · rfl
theorem zi_cv_iv {v : Value} (h : zi_isI v = true) : zi_cv ρ b as v = .int (zi_iv ρ v) := by
  unfold zi_isI at h
  split at h
  · rfl
  · rfl
  · cases h
theorem zi_nm_isI {d : zi_Dm} {k : UInt32} : zi_isI (zi_nm d (.float k)) = true := by
  simp only [zi_nm]
  split
  · split <;> rfl
  · rfl
theorem zi_vals_mem {x : Int} {l : zi_Iv} (h : zi_mem x l) : x ∈ zi_vals l := by
  obtain ⟨q, hq, h1, h2⟩ := h
  refine List.mem_flatMap.mpr ⟨q, hq, List.mem_map.mpr ⟨(x - q.1).toNat, List.mem_range.mpr (by omega), by omega⟩⟩
theorem zi_get_at {L : zi_Lc} {k : Nat} {v : Value} {ls : Array Slot} {nL : Nat} (hl : lv_has ls nL (zi_lc ρ b as L)) (h : zi_get L k = some v) : ls[k]? = some (.val (zi_cv ρ b as v)) := by
  unfold zi_get at h
  obtain ⟨q, hq, e⟩ := Option.map_eq_some_iff.mp h
  have hm := List.mem_of_find?_eq_some hq
  have hk : q.1 = k := by simpa using List.find?_some hq
  have := hl.2.2 (q.1, zi_cv ρ b as q.2) (List.mem_map.mpr ⟨q, hm, rfl⟩)
  rw [← e, ← hk]
  exact this
theorem zi_set_lc {L : zi_Lc} {k : Nat} {v : Value} : (k, zi_cv ρ b as v) :: (zi_lc ρ b as L).filter (fun q => !(q.1 == k) && !(q.1 + 1 == k && q.2.category == 2)) = zi_lc ρ b as (zi_set L k v) := by
  unfold zi_lc zi_set
  rw [List.map_cons, List.filter_map]
  congr 2
  apply List.filter_congr
  intro q _
  simp only [Function.comp, zi_cv_cat]
theorem zi_set2_lc {L : zi_Lc} {k : Nat} {v : Value} : (k, zi_cv ρ b as v) :: (zi_lc ρ b as L).filter (fun q => !(q.1 == k) && (!(q.1 == k + 1) && !(q.1 + 1 == k && q.2.category == 2))) = zi_lc ρ b as (zi_set2 L k v) := by
  unfold zi_lc zi_set2
  rw [List.map_cons, List.filter_map]
  congr 2
  apply List.filter_congr
  intro q _
  simp only [Function.comp, zi_cv_cat]
theorem zi_bind_some {α : Type} {xs : List α} {k : α → Option (List zi_Out)} {os : List zi_Out} (h : zi_bind xs k = some os) : ∀ x ∈ xs, ∃ o, k x = some o ∧ ∀ y ∈ o, y ∈ os := by
  induction xs generalizing os with
  | nil => intro x hx; cases hx
  | cons x xs ih =>
    simp only [zi_bind] at h
    split at h
    · cases h
    · rename_i a ha
      split at h
      · cases h
      · rename_i c hc
        cases h
        intro y hy
        rcases List.mem_cons.mp hy with e | e
        · subst e
          exact ⟨a, ha, fun z hz => List.mem_append_left _ hz⟩
        · obtain ⟨o, h1, h2⟩ := ih hc y e
          exact ⟨o, h1, fun z hz => List.mem_append_right _ (h2 z hz)⟩
end ZC
end
section
/-! the words, and what a row must be -/
noncomputable def zi_Ts : List Cond := lw_tbl.filter goodWord
noncomputable def zi_tb (t : Nat) (w : Cond) : Bool := decide (lw_tbl[t]? = some w) && goodWord w
theorem zi_tb_in {t : Nat} {w : Cond} (h : zi_tb t w = true) : w ∈ zi_Ts := by
  simp only [zi_tb, Bool.and_eq_true, decide_eq_true_eq] at h
  exact List.mem_filter.mpr ⟨List.mem_of_getElem? h.1, h.2⟩
theorem zi_Ts_good {w : Cond} (h : w ∈ zi_Ts) : (w.onTables && w.keeps) = true ∨ ∃ ty, w = .arrayClass ty := good_of_word (List.mem_filter.mp h).2
noncomputable def zi_tys (cy : Nat → ClassId) : List (ClassId × FieldType) := [(cy 7, .int), (cy 8, .boolean), (cy 9, .object RX2), (cy 10, .object RX4), (cy 11, .array .int)]
noncomputable def zi_len (i : Instr) : Nat := match i with
  | .bipush _ | .ldc _ | .iload _ | .aload _ | .istore _ | .astore _ | .newarray _ => 2
  | .sipush _ | .ldc_w _ | .iinc _ _ | .getfield _ | .putfield _ | .goto _ | .ifCond _ _ | .if_icmp _ _ | .invokespecial _ | .invokestatic _ | .invokevirtual _ | .new _ | .anewarray _ | .ldc2_w _ => 3
  | .multianewarray _ _ => 4
  | _ => 1
noncomputable def zi_lok (r : zi_Row) : Bool := match r.2.1 with
  | .tableswitch _ _ _ _ | .lookupswitch _ _ => true
  | i => decide (r.2.2.1 = zi_len i)
noncomputable def zi_lk (own : String) (j t : Nat) (y : MethodName) : Bool := if t < 10000 then zi_tb t (.methodLink own j y) else decide (zi_nest[t - 10000]? = some (.methodLinkNest own j y RX5))
noncomputable def zi_np (y : MethodName) : Option Nat := (parseMethodDescriptor y.desc).map (fun d => d.parameters.length)
noncomputable def zi_ok (own : String) (ini : Bool) (ms : List zi_Me) (r : zi_Row) : Bool := match r with
  | (pc, i, _, a, b, t, v) => match i with
    | .getfield j => (match vwCl[a]? with | some q => decide (b < q.2.2) && decide ((q.2.1 b).1 = q.1) && zi_tb t (.fieldLink own j q.1 (q.2.1 b).2.1 (q.2.1 b).2.2.1) | none => false)
    | .putfield j => (match vwCl[a]? with | some q => decide (b < q.2.2) && decide ((q.2.1 b).1 = q.1) && zi_tb t (.fieldLink own j q.1 (q.2.1 b).2.1 (q.2.1 b).2.2.1) && (decide ((q.2.1 b).2.2.2 = false) || (ini && decide (q.1 = own))) | none => false)
    | .ldc j => zi_tb t (.constant own j (Int32.ofInt v))
    | .ldc_w j => zi_tb t (.constant own j (Int32.ofInt v))
    | .ldc2_w j => zi_tb t (.constantLong own j (Int64.ofInt v))
    | .lookupswitch _ ps => (ps.toList.zip (ps.toList.drop 1)).all (fun (a, next) => a.1 < next.1)
    | .new j => (match vwCl[a]? with | some q => zi_tb t (.classLink own j q.1) | none => false)
    | .anewarray j => zi_tb t (.classLink own j (if a = 9 then RX2 else RX4))
    | .multianewarray j _ => zi_tb t (.classLink own j ("[" ++ (FieldType.array .int).toString))
    | .goto off => decide ((pc : Int) + off = (a : Int))
    | .ifCond _ off => decide ((pc : Int) + off = (a : Int))
    | .if_icmp _ off => decide ((pc : Int) + off = (a : Int))
    | .tableswitch _ lo hi offs => decide (offs.size = (hi - lo + 1).toNat)
    | .invokespecial j => if a = 999 then zi_tb t (.methodLink own j objectInit) else (match ms[a]?, zi_mt[a]? with
      | some m, some g => zi_lk own j t m.1 && decide (m.1.name = "<init>") && decide (zi_np m.1 = some (b - 1)) && decide (1 ≤ b) && decide (m.2.2.2.1 = none) && zi_tb g.2.2.1 (.instanceMethod m.1)
      | none, _ => true
      | some _, none => false)
    | .invokestatic j => if a = 997 then zi_tb t (.methodLink own j arraycopyName) else (match ms[a]?, zi_mt[a]? with
      | some m, some g => zi_lk own j t m.1 && decide (zi_np m.1 = some b) && zi_tb g.2.2.1 (.static m.1)
      | none, _ => true
      | some _, none => false)
    | .invokevirtual j => (match ms[a]?, zi_mt[a]? with
      | some m, some g => zi_tb t (.methodLink own j m.1) && decide (zi_np m.1 = some (b - 1)) && decide (1 ≤ b) && (match vwCl[v.toNat]? with | some q => decide (q.1 = m.1.cls) | none => false) && decide (0 ≤ v) && zi_tb g.2.2.1 (.instanceMethod m.1) && zi_tb g.2.2.2.1 (.selects m.1.cls m.1 m.1)
      | none, _ => true
      | some _, none => false)
    | _ => true
/-! the classes -/
noncomputable def zi_cok (a : Nat) (q : vw_C) : Prop := (∀ w ∈ u_ws q.1 q.2.1 q.2.2, w ∈ zi_Ts) ∧ (∀ k, k < q.2.2 → parseFieldDescriptor (q.2.1 k).2.2.1 = some (zi_ty a k)) ∧ (∀ x, x < q.2.2 → ∀ y, y < q.2.2 → x ≠ y → (q.2.1 x).2.1 ≠ (q.2.1 y).2.1) ∧ q.2.2 = zi_fld a ∧ Cond.instantiable q.1 q.2.2 ∈ zi_Ts ∧ Cond.initialized q.1 ∈ zi_Ts
section ZS
variable {ρ : Nat → Int32} {b0 : Nat} {as : List Nat} {cy : Nat → ClassId}
theorem zi_fit_ok {ty : FieldType} {v : Value} (h : zi_fit ty v = true) : narrow ty (zi_cv ρ b0 as v) = zi_cv ρ b0 as v ∧ fits ty (zi_cv ρ b0 as v) = true := by
  unfold zi_fit at h
  split at h
  · rename_i x
    simp only [Bool.or_eq_true, decide_eq_true_eq] at h
    rcases h with rfl | rfl
    · exact ⟨show narrow .boolean (.int 0) = .int 0 from by decide, show fits .boolean (.int 0) = true from by decide⟩
    · exact ⟨show narrow .boolean (.int 1) = .int 1 from by decide, show fits .boolean (.int 1) = true from by decide⟩
  · exact ⟨rfl, rfl⟩
  · exact ⟨rfl, rfl⟩
  · rename_i n a
    cases a with
    | zero => exact ⟨rfl, rfl⟩
    | succ a => exact ⟨rfl, rfl⟩
  · exact ⟨rfl, rfl⟩
  · rename_i n a
    cases a with
    | zero => exact ⟨rfl, rfl⟩
    | succ a => exact ⟨rfl, rfl⟩
  · exact ⟨rfl, rfl⟩
  · cases h
theorem zi_ce_obj {a : Nat} {fs : List Value} (h : a < 7) : zi_ce ρ b0 as cy (a, fs) = .inr (a, fs.map (zi_cv ρ b0 as)) := by
  unfold zi_ce
  rw [if_pos h]
theorem zi_ce_int {l : List Value} : zi_ce ρ b0 as cy (7, l) = .inl (cy 7, l.length, .inl (fun i => zi_iv ρ (l.getD i (.int 0)))) := by
  unfold zi_ce
  rw [if_neg (by dsimp only; omega), if_pos (by dsimp only; omega)]
theorem zi_ce_boo {l : List Value} : zi_ce ρ b0 as cy (8, l) = .inl (cy 8, l.length, .inl (fun i => zi_iv ρ (l.getD i (.int 0)))) := by
  unfold zi_ce
  rw [if_neg (by dsimp only; omega), if_pos (by dsimp only; omega)]
theorem zi_ce_ref {t : Nat} {l : List Value} (h : 9 ≤ t) : zi_ce ρ b0 as cy (t, l) = .inl (cy t, l.length, .inr (.inr (.inr (.inr (fun i => zi_rv as (l.getD i .null)))))) := by
  unfold zi_ce
  rw [if_neg (by dsimp only; omega), if_neg (by dsimp only; omega)]
theorem zi_in_lt {j : Int32} {n : Nat} (h : zi_in j n = true) : vp_in j n ∧ j.toNatClampNeg < n := by
  have h1 : vp_in j n := by simpa [zi_in, vp_in] using h
  exact ⟨h1, Nat.not_le.mp fun q => h1 (Or.inr q)⟩
theorem zi_upd {l : List Value} {j : Nat} {v : Value} (h : j < l.length) : (fun i => zi_iv ρ ((l.set j v).getD i (.int 0))) = upd (fun i => zi_iv ρ (l.getD i (.int 0))) j (zi_iv ρ v) := by
  funext i
  unfold upd
  by_cases e : i = j
  · subst e
    simp [List.getD_eq_getElem?_getD, h]
  · rw [if_neg e]
    simp [List.getD_eq_getElem?_getD, List.getElem?_set_ne (Ne.symm e)]
theorem zi_updr {l : List Value} {j q : Nat} (h : j < l.length) : (fun i => zi_rv as ((l.set j (.ref (q + 1))).getD i .null)) = va_up (fun i => zi_rv as (l.getD i .null)) j (some (as.getD q 0)) := by
  funext i
  unfold va_up
  by_cases e : i = j
  · subst e
    simp [List.getD_eq_getElem?_getD, h, zi_rv]
  · rw [if_neg e]
    simp [List.getD_eq_getElem?_getD, List.getElem?_set_ne (Ne.symm e)]
theorem zi_ld_at {L : zi_Lc} {d : zi_Dm} {k : Nat} {x : Value} {ls : Array Slot} {nL : Nat} (hr : zi_rho ρ d) (hl : lv_has ls nL (zi_lc ρ b0 as L)) (h : zi_ld L d k = some x) : ls[k]? = some (.val (.int (zi_iv ρ x))) ∧ zi_cv ρ b0 as x = .int (zi_iv ρ x) := by
  unfold zi_ld at h
  split at h
  · rename_i y hy
    cases h
    exact ⟨zi_get_at hl hy, rfl⟩
  · rename_i q hy
    cases h
    refine ⟨?_, zi_cv_iv zi_nm_isI⟩
    rw [zi_nm_iv hr]
    exact zi_get_at hl hy
  · cases h
theorem zi_lda_at {L : zi_Lc} {k : Nat} {x : Value} {ls : Array Slot} {nL : Nat} (hl : lv_has ls nL (zi_lc ρ b0 as L)) (h : zi_lda L k = some x) : ∃ y, ls[k]? = some (.val (.ref y)) ∧ zi_cv ρ b0 as x = .ref y := by
  unfold zi_lda at h
  split at h
  · rename_i r hy
    cases h
    have h1 := zi_get_at hl hy
    cases r with
    | zero => exact ⟨b0, h1, rfl⟩
    | succ r => exact ⟨as.getD r 0, h1, rfl⟩
  · cases h
end ZS
end
section
section ZW
variable {p : Program} {l : Launch} {e : Env} {R : Room} {s : State} {m : MethodId} {args : Array Value} {below : List Frame} {meth : Method} {c : Code} {H : Heap} {locs : List Loc} {cells slots : Nat} {Q : State → Prop}
variable {cc : ByteArray} {ls : Array Slot} {D : va_G} {A : Nat → Prop} {tys : List (ClassId × FieldType)} {H0 : Heap}
variable {ρ : Nat → Int32} {b0 : Nat} {as : List Nat} {cy : Nat → ClassId} {own : String} {ini : Bool} {ms : List zi_Me} {scr : Option (List Value)} {nL : Nat} {d : zi_Dm}
theorem zi_Waald {pc : Nat} {rest : List Value} {cl : List vw_C} {ws : va_W} {a : Nat} (hexec : p.tables.exec = Jvm.exec) (hb : c.code = cc) (hK : va_K D cl tys s) (hP : va_P D cl ws H) (q0 t0 : Nat) {cA : ClassId} {ty : FieldType} (hty : ty.isReference = true) {n : Nat} {f : Nat → Option Nat} (ha : ws[q0]? = some (a, .inl (cA, n, .inr (.inr (.inr (.inr f)))))) (ht : tys[t0]? = some (cA, ty)) {i : Int32} (hin : vp_in i n) (hdg : decode cc pc = .ok (.aaload, 1))
    (kk : W p l e R s m args below meth c H locs cells slots Q (F0 m (pc + 1) ls (va_rf (f i.toNatClampNeg) :: rest))) : W p l e R s m args below meth c H locs cells slots Q (F0 m pc ls (.int i :: .ref a :: rest)) := by
  have hlt : i.toNatClampNeg < n := Nat.not_le.mp fun q => hin (Or.inr q)
  exact W.aald (v := va_rf (f i.toNatClampNeg)) (ty := ty) hexec hb (hP q0 _ ha) ((hK.2 t0 _ ht).1 n (fun j => va_rf (f j))) hty (fun q => by cases q) (by show ¬ (i < 0 ∨ (arrV _ _ _).slots.size ≤ _); rw [arrV_size]; exact hin) (by show (arrV _ _ _).slots[_]? = _; rw [arrV_read _ _ hlt]) rfl rfl hdg kk
noncomputable def zi_tyOf (t : Nat) : FieldType := match t with
  | 7 => .int | 8 => .boolean | 9 => .object RX2 | 10 => .object RX4 | _ => .array .int
theorem zi_tys_at {t : Nat} (h1 : 7 ≤ t) (h2 : t ≤ 11) : (zi_tys cy)[t - 7]? = some (cy t, zi_tyOf t) := by
  match t, h1, h2 with
  | 7, _, _ => rfl
  | 8, _, _ => rfl
  | 9, _, _ => rfl
  | 10, _, _ => rfl
  | 11, _, _ => rfl
set_option maxHeartbeats 4000000 in
/-- an instruction that goes on behind itself -/
theorem zi_step_sound {r : zi_Row} {L L' : zi_Lc} {st st' : List Value} {h h' : zi_Hp}
    (hx : p.tables.exec = Jvm.exec) (hb : c.code = cc) (hown : s.vm.findClass own = some m.cls) (hts : ∀ w ∈ zi_Ts, w.before args s = true) (hcl : ∀ a q, vwCl[a]? = some q → zi_cok a q) (hini : ini = true → meth.name = "<init>")
    (hX : ∀ sl, scr = some sl → va_X b0 sl.length (fun j => zi_iv ρ (sl.getD j (.int 0))) s H0 ∧ b0 < H0.size ∧ ¬ A b0)
    (hK : va_K D vwCl (zi_tys cy) s) (hrho : zi_rho ρ d)
    (hdg : decode cc r.1 = .ok (r.2.1, r.2.2.1)) (hlen : zi_lok r = true) (hok : zi_ok own ini ms r = true) (hst : zi_step scr nL d r L st h = some (L', st', h'))
    (hl : lv_has ls nL (zi_lc ρ b0 as L)) (hP : va_P D vwCl (zi_w ρ b0 as cy h) H) (hD : va_D A (zi_w ρ b0 as cy h)) (hS : va_S A H0 H locs)
    (kk : ∀ (H1 : Heap) (locs1 : List Loc) (ls1 : Array Slot), va_P D vwCl (zi_w ρ b0 as cy h') H1 → va_D A (zi_w ρ b0 as cy h') → va_S A H0 H1 locs1 → lv_has ls1 nL (zi_lc ρ b0 as L') → h'.length = h.length → W p l e R s m args below meth c H1 locs1 cells slots Q (F0 m (r.1 + r.2.2.1) ls1 (st'.map (zi_cv ρ b0 as)))) :
    W p l e R s m args below meth c H locs cells slots Q (F0 m r.1 ls (st.map (zi_cv ρ b0 as))) := by
  obtain ⟨pc, i, ln, a, b, t, v⟩ := r
  dsimp only at hdg hlen hok hst kk ⊢
  unfold zi_step at hst
  dsimp only at hst
  split at hst
  · -- iconst
    simp only [Option.some.injEq, Prod.mk.injEq] at hst
    obtain ⟨rfl, rfl, rfl⟩ := hst
    have e : ln = 1 := of_decide_eq_true hlen
    subst e
    exact lv_iconst hx hb hdg rfl (kk H locs ls hP hD hS hl rfl)
  · -- bipush
    simp only [Option.some.injEq, Prod.mk.injEq] at hst
    obtain ⟨rfl, rfl, rfl⟩ := hst
    have e : ln = 2 := of_decide_eq_true hlen
    subst e
    exact lv_bipush hx hb hdg rfl (kk H locs ls hP hD hS hl rfl)
  · -- sipush
    simp only [Option.some.injEq, Prod.mk.injEq] at hst
    obtain ⟨rfl, rfl, rfl⟩ := hst
    have e : ln = 3 := of_decide_eq_true hlen
    subst e
    exact lv_sipush hx hb hdg rfl (kk H locs ls hP hD hS hl rfl)
  · -- ldc
    simp only [Option.some.injEq, Prod.mk.injEq] at hst
    obtain ⟨rfl, rfl, rfl⟩ := hst
    have e : ln = 2 := of_decide_eq_true hlen
    subst e
    exact lv_ldc hx hb hown (hts _ (zi_tb_in hok)) hdg (kk H locs ls hP hD hS hl rfl)
  · -- ldc_w
    simp only [Option.some.injEq, Prod.mk.injEq] at hst
    obtain ⟨rfl, rfl, rfl⟩ := hst
    have e : ln = 3 := of_decide_eq_true hlen
    subst e
    exact lv_ldcw hx hb hown (hts _ (zi_tb_in hok)) hdg (kk H locs ls hP hD hS hl rfl)
  · -- iload_n
    obtain ⟨x, h1, h2⟩ := Option.map_eq_some_iff.mp hst
    simp only [Prod.mk.injEq] at h2
    obtain ⟨rfl, rfl, rfl⟩ := h2
    have e : ln = 1 := of_decide_eq_true hlen
    subst e
    obtain ⟨h3, h4⟩ := zi_ld_at hrho hl h1
    have h5 := kk H locs ls hP hD hS hl rfl
    rw [List.map_cons, h4] at h5
    exact lv_iload_n hx hb hdg rfl h3 h5
  · -- iload
    obtain ⟨x, h1, h2⟩ := Option.map_eq_some_iff.mp hst
    simp only [Prod.mk.injEq] at h2
    obtain ⟨rfl, rfl, rfl⟩ := h2
    have e : ln = 2 := of_decide_eq_true hlen
    subst e
    obtain ⟨h3, h4⟩ := zi_ld_at hrho hl h1
    have h5 := kk H locs ls hP hD hS hl rfl
    rw [List.map_cons, h4] at h5
    exact lv_iload hx hb hdg h3 h5
  · -- aload_n
    obtain ⟨x, h1, h2⟩ := Option.map_eq_some_iff.mp hst
    simp only [Prod.mk.injEq] at h2
    obtain ⟨rfl, rfl, rfl⟩ := h2
    have e : ln = 1 := of_decide_eq_true hlen
    subst e
    obtain ⟨y, h3, h4⟩ := zi_lda_at hl h1
    have h5 := kk H locs ls hP hD hS hl rfl
    rw [List.map_cons, h4] at h5
    exact lv_aload_n hx hb hdg rfl h3 h5
  · -- aload
    obtain ⟨x, h1, h2⟩ := Option.map_eq_some_iff.mp hst
    simp only [Prod.mk.injEq] at h2
    obtain ⟨rfl, rfl, rfl⟩ := h2
    have e : ln = 2 := of_decide_eq_true hlen
    subst e
    obtain ⟨y, h3, h4⟩ := zi_lda_at hl h1
    have h5 := kk H locs ls hP hD hS hl rfl
    rw [List.map_cons, h4] at h5
    exact lv_aload hx hb hdg h3 h5
  · -- istore_n
    rename_i k
    split at hst
    · rename_i x rest
      split at hst
      · rename_i hc
        simp only [Option.some.injEq, Prod.mk.injEq] at hst
        obtain ⟨rfl, rfl, rfl⟩ := hst
        have e : ln = 1 := of_decide_eq_true hlen
        subst e
        rw [List.map_cons, zi_cv_iv hc.1]
        exact lv_istore_n hx hb hdg rfl hl hc.2 (by rw [← zi_set_lc, zi_cv_iv hc.1]) (fun ls1 hl1 => kk H locs ls1 hP hD hS hl1 rfl)
      · cases hst
    · cases hst
  · -- istore
    rename_i k
    split at hst
    · rename_i x rest
      split at hst
      · rename_i hc
        simp only [Option.some.injEq, Prod.mk.injEq] at hst
        obtain ⟨rfl, rfl, rfl⟩ := hst
        have e : ln = 2 := of_decide_eq_true hlen
        subst e
        rw [List.map_cons, zi_cv_iv hc.1]
        exact lv_istore hx hb hdg hl hc.2 (by rw [← zi_set_lc, zi_cv_iv hc.1]) (fun ls1 hl1 => kk H locs ls1 hP hD hS hl1 rfl)
      · cases hst
    · cases hst
  · -- astore_n
    rename_i k
    split at hst
    · rename_i x rest
      split at hst
      · rename_i hc
        simp only [Option.some.injEq, Prod.mk.injEq] at hst
        obtain ⟨rfl, rfl, rfl⟩ := hst
        have e : ln = 1 := of_decide_eq_true hlen
        subst e
        obtain ⟨y, hy⟩ : ∃ y, zi_cv ρ b0 as (.ref x) = .ref y := by cases x <;> exact ⟨_, rfl⟩
        rw [List.map_cons, hy]
        exact lv_astore_n hx hb hdg rfl hl hc (by rw [← zi_set_lc, hy]) (fun ls1 hl1 => kk H locs ls1 hP hD hS hl1 rfl)
      · cases hst
    · cases hst
  · -- astore
    rename_i k
    split at hst
    · rename_i x rest
      split at hst
      · rename_i hc
        simp only [Option.some.injEq, Prod.mk.injEq] at hst
        obtain ⟨rfl, rfl, rfl⟩ := hst
        have e : ln = 2 := of_decide_eq_true hlen
        subst e
        obtain ⟨y, hy⟩ : ∃ y, zi_cv ρ b0 as (.ref x) = .ref y := by cases x <;> exact ⟨_, rfl⟩
        rw [List.map_cons, hy]
        exact lv_astore hx hb hdg hl hc (by rw [← zi_set_lc, hy]) (fun ls1 hl1 => kk H locs ls1 hP hD hS hl1 rfl)
      · cases hst
    · cases hst
  · -- iinc
    rename_i k n
    split at hst
    · rename_i x hg
      split at hst
      · rename_i hc
        simp only [Option.some.injEq, Prod.mk.injEq] at hst
        obtain ⟨rfl, rfl, rfl⟩ := hst
        have e : ln = 3 := of_decide_eq_true hlen
        subst e
        obtain ⟨j, hj⟩ : ∃ j : Nat, (zi_lc ρ b0 as L)[j]? = some (k, .int x) := by
          unfold zi_get at hg
          obtain ⟨q, hq, e⟩ := Option.map_eq_some_iff.mp hg
          have hm := List.mem_of_find?_eq_some hq
          have hk : q.1 = k := by simpa using List.find?_some hq
          refine List.getElem?_of_mem (List.mem_map.mpr ⟨q, hm, ?_⟩)
          rw [hk, e]
          rfl
        exact lv_iinc hx hb hdg hl hj rfl hc (by rw [← zi_set_lc]; rfl) (fun ls1 hl1 => kk H locs ls1 hP hD hS hl1 rfl)
      · cases hst
    · cases hst
  · -- iadd
    split at hst
    · simp only [Option.some.injEq, Prod.mk.injEq] at hst
      obtain ⟨rfl, rfl, rfl⟩ := hst
      have e : ln = 1 := of_decide_eq_true hlen
      subst e
      exact lv_iadd hx hb hdg (kk H locs ls hP hD hS hl rfl)
    · cases hst
  · -- isub
    split at hst
    · simp only [Option.some.injEq, Prod.mk.injEq] at hst
      obtain ⟨rfl, rfl, rfl⟩ := hst
      have e : ln = 1 := of_decide_eq_true hlen
      subst e
      exact lv_isub hx hb hdg (kk H locs ls hP hD hS hl rfl)
    · cases hst
  · -- imul
    split at hst
    · simp only [Option.some.injEq, Prod.mk.injEq] at hst
      obtain ⟨rfl, rfl, rfl⟩ := hst
      have e : ln = 1 := of_decide_eq_true hlen
      subst e
      exact lv_imul hx hb hdg (kk H locs ls hP hD hS hl rfl)
    · cases hst
  · -- iand
    split at hst
    · simp only [Option.some.injEq, Prod.mk.injEq] at hst
      obtain ⟨rfl, rfl, rfl⟩ := hst
      have e : ln = 1 := of_decide_eq_true hlen
      subst e
      exact lv_iand hx hb hdg (kk H locs ls hP hD hS hl rfl)
    · rename_i y k rest
      split at hst
      · rename_i hc
        simp only [Option.some.injEq, Prod.mk.injEq] at hst
        obtain ⟨rfl, rfl, rfl⟩ := hst
        have e : ln = 1 := of_decide_eq_true hlen
        subst e
        have h5 := kk H locs ls hP hD hS hl rfl
        have e5 : zi_cv ρ b0 as (.float 5) = .int (ρ 0 &&& 31) := by
          rw [← hrho.2]
          rfl
        rw [List.map_cons, e5] at h5
        have e0 : zi_cv ρ b0 as (.float k) = .int (ρ 0) := by
          show Value.int (ρ k.toNat) = _
          rw [hc.2]
        rw [List.map_cons, List.map_cons, e0, hc.1]
        exact lv_iand hx hb hdg h5
      · cases hst
    · cases hst
  · -- idiv
    split at hst
    · split at hst
      · cases hst
      · rename_i hc
        simp only [Option.some.injEq, Prod.mk.injEq] at hst
        obtain ⟨rfl, rfl, rfl⟩ := hst
        have e : ln = 1 := of_decide_eq_true hlen
        subst e
        exact lv_idiv hx hb hdg hc (kk H locs ls hP hD hS hl rfl)
    · cases hst
  · -- irem
    split at hst
    · split at hst
      · cases hst
      · rename_i hc
        simp only [Option.some.injEq, Prod.mk.injEq] at hst
        obtain ⟨rfl, rfl, rfl⟩ := hst
        have e : ln = 1 := of_decide_eq_true hlen
        subst e
        exact lv_irem hx hb hdg hc (kk H locs ls hP hD hS hl rfl)
    · cases hst
  · -- dup
    split at hst
    · split at hst
      · rename_i hc
        simp only [Option.some.injEq, Prod.mk.injEq] at hst
        obtain ⟨rfl, rfl, rfl⟩ := hst
        have e : ln = 1 := of_decide_eq_true hlen
        subst e
        exact lv_dup hx hb hdg (by rw [zi_cv_cat]; exact hc) (kk H locs ls hP hD hS hl rfl)
      · cases hst
    · cases hst
  · -- dup2
    split at hst
    · split at hst
      · rename_i hc
        simp only [Option.some.injEq, Prod.mk.injEq] at hst
        obtain ⟨rfl, rfl, rfl⟩ := hst
        have e : ln = 1 := of_decide_eq_true hlen
        subst e
        exact lv_dup2_11 hx hb hdg (by rw [zi_cv_cat]; exact hc.1) (by rw [zi_cv_cat]; exact hc.2) (kk H locs ls hP hD hS hl rfl)
      · cases hst
    · cases hst
  · -- getfield
    rename_i j
    split at hst
    · rename_i r rest
      obtain ⟨x, h1, h2⟩ := Option.map_eq_some_iff.mp hst
      simp only [Prod.mk.injEq] at h2
      obtain ⟨rfl, rfl, rfl⟩ := h2
      have e : ln = 3 := of_decide_eq_true hlen
      subst e
      unfold zi_gf at h1
      split at h1
      · rename_i t' fs hr
        split at h1
        · rename_i hc
          obtain ⟨rfl, h7⟩ := hc
          unfold zi_ok at hok
          dsimp only at hok
          split at hok
          · rename_i q hq
            simp only [Bool.and_eq_true, decide_eq_true_eq] at hok
            obtain ⟨⟨k1, k2⟩, k3⟩ := hok
            have he := zi_w_get (ρ := ρ) (b := b0) (as := as) (cy := cy) hr
            rw [zi_ce_obj h7] at he
            exact va_get (D := D) (ci := t') (C := q.1) (T := q.2.1) (N := q.2.2) hx hb hts (hcl _ _ hq).1 hown hK hP r he hq b k1 (hts _ (zi_tb_in k3)) (fun y hy => by rw [← k2]; exact hy) (by rw [List.getElem?_map, h1]; rfl) hdg (kk H locs ls hP hD hS hl rfl)
          · cases hok
        · cases h1
      · cases h1
    · cases hst
  · -- putfield
    rename_i j
    split at hst
    · rename_i x r rest
      obtain ⟨hn, h1, h2⟩ := Option.map_eq_some_iff.mp hst
      simp only [Prod.mk.injEq] at h2
      obtain ⟨rfl, rfl, rfl⟩ := h2
      have e : ln = 3 := of_decide_eq_true hlen
      subst e
      unfold zi_pf at h1
      split at h1
      · rename_i t' fs hr
        split at h1
        · rename_i hc
          obtain ⟨rfl, h7, hbl, hfit⟩ := hc
          cases h1
          unfold zi_ok at hok
          dsimp only at hok
          split at hok
          · rename_i q hq
            simp only [Bool.and_eq_true, Bool.or_eq_true, decide_eq_true_eq] at hok
            obtain ⟨⟨⟨k1, k2⟩, k3⟩, k4⟩ := hok
            have he := zi_w_get (ρ := ρ) (b := b0) (as := as) (cy := cy) hr
            rw [zi_ce_obj h7] at he
            have hcq := hcl _ _ hq
            obtain ⟨n1, n2⟩ := zi_fit_ok (ρ := ρ) (b0 := b0) (as := as) hfit
            have ew : (zi_w ρ b0 as cy h).set r (as.getD r 0, .inr (t', (fs.map (zi_cv ρ b0 as)).set b (zi_cv ρ b0 as x))) = zi_w ρ b0 as cy (h.set r (t', fs.set b x)) := by
              rw [zi_w_set, zi_ce_obj h7, List.map_set]
            have k9 : ∀ (H1 : Heap) (locs1 : List Loc), va_P D vwCl ((zi_w ρ b0 as cy h).set r (as.getD r 0, .inr (t', (fs.map (zi_cv ρ b0 as)).set b (zi_cv ρ b0 as x)))) H1 → va_D A ((zi_w ρ b0 as cy h).set r (as.getD r 0, .inr (t', (fs.map (zi_cv ρ b0 as)).set b (zi_cv ρ b0 as x)))) → va_S A H0 H1 locs1 → W p l e R s m args below meth c H1 locs1 cells slots Q (F0 m (pc + 3) ls (rest.map (zi_cv ρ b0 as))) := by
              intro H1 locs1 p1 p2 p3
              rw [ew] at p1 p2
              exact kk H1 locs1 ls p1 p2 p3 hl (List.length_set ..)
            rcases k4 with k4 | ⟨k4, k5⟩
            · exact va_put (D := D) (ci := t') (ty := zi_ty t' b) (C := q.1) (T := q.2.1) (N := q.2.2) hx hb hts hcq.1 (zi_ty t') hcq.2.1 hcq.2.2.1 hown hK hP hD hS r he hq b k1 (hts _ (zi_tb_in k3)) (fun y hy => by rw [← k2]; exact hy) k4 (hcq.2.1 b k1) n1 n2 (by rw [List.length_map]; exact hbl) hdg k9
            · by_cases k6 : (q.2.1 b).2.2.2 = false
              · exact va_put (D := D) (ci := t') (ty := zi_ty t' b) (C := q.1) (T := q.2.1) (N := q.2.2) hx hb hts hcq.1 (zi_ty t') hcq.2.1 hcq.2.2.1 hown hK hP hD hS r he hq b k1 (hts _ (zi_tb_in k3)) (fun y hy => by rw [← k2]; exact hy) k6 (hcq.2.1 b k1) n1 n2 (by rw [List.length_map]; exact hbl) hdg k9
              · exact va_putF (D := D) (ci := t') (ty := zi_ty t' b) (C := q.1) (T := q.2.1) (N := q.2.2) hx hb hts hcq.1 (zi_ty t') hcq.2.1 hcq.2.2.1 hown hK hP hD hS r he hq b k1 (hts _ (zi_tb_in k3)) (fun y hy => by rw [← k2]; exact hy) (by simpa using k6) (hini k4) (k2.trans k5) (hcq.2.1 b k1) n1 n2 (by rw [List.length_map]; exact hbl) hdg k9
          · cases hok
        · cases h1
      · cases h1
    · cases hst
  · -- iaload
    split at hst
    · rename_i j r rest
      obtain ⟨x, h1, h2⟩ := Option.map_eq_some_iff.mp hst
      simp only [Prod.mk.injEq] at h2
      obtain ⟨rfl, rfl, rfl⟩ := h2
      have e : ln = 1 := of_decide_eq_true hlen
      subst e
      have h5 := kk H locs ls hP hD hS hl rfl
      have hval : ∀ (sl : List Value) (y : Value), sl[j.toNatClampNeg]? = some y → zi_isI y = true → zi_cv ρ b0 as (zi_nm d y) = .int (zi_iv ρ (sl.getD j.toNatClampNeg (.int 0))) := by
        intro sl y hy hi
        rw [zi_nm_cv hrho, zi_cv_iv hi, List.getD_eq_getElem?_getD, hy]
        rfl
      unfold zi_iald at h1
      split at h1
      · split at h1
        · rename_i _ sl
          obtain ⟨x1, x2, x3⟩ := hX _ rfl
          split at h1
          · rename_i hin
            have hv : zi_cv ρ b0 as x = .int (zi_iv ρ (sl.getD j.toNatClampNeg (.int 0))) := by
              split at h1
              · rename_i y hy
                cases h1
                exact hval sl _ hy rfl
              · rename_i q hy
                cases h1
                exact hval sl _ hy rfl
              · cases h1
            rw [List.map_cons, hv] at h5
            exact va_sld hx hb x1 x2 x3 hS (zi_in_lt hin).1 hdg h5
          · cases h1
        · cases h1
      · rename_i r
        split at h1
        · rename_i sl hr
          split at h1
          · rename_i hin
            have hv : zi_cv ρ b0 as x = .int (zi_iv ρ (sl.getD j.toNatClampNeg (.int 0))) := by
              split at h1
              · rename_i y hy
                cases h1
                exact hval sl _ hy rfl
              · rename_i q hy
                cases h1
                exact hval sl _ hy rfl
              · cases h1
            rw [List.map_cons, hv] at h5
            have he := zi_w_get (ρ := ρ) (b := b0) (as := as) (cy := cy) hr
            rw [zi_ce_int] at he
            exact va_iald hx hb hK hP r 0 he rfl (zi_in_lt hin).1 hdg h5
          · cases h1
        · cases h1
    · cases hst
  · -- baload
    split at hst
    · rename_i j r rest
      obtain ⟨x, h1, h2⟩ := Option.map_eq_some_iff.mp hst
      simp only [Prod.mk.injEq] at h2
      obtain ⟨rfl, rfl, rfl⟩ := h2
      have e : ln = 1 := of_decide_eq_true hlen
      subst e
      have h5 := kk H locs ls hP hD hS hl rfl
      unfold zi_bald at h1
      split at h1
      · rename_i sl hr
        split at h1
        · rename_i hin
          split at h1
          · rename_i y hy
            cases h1
            have hv : y = zi_iv ρ (sl.getD j.toNatClampNeg (.int 0)) := by
              rw [List.getD_eq_getElem?_getD, hy]
              rfl
            rw [List.map_cons, hv] at h5
            have he := zi_w_get (ρ := ρ) (b := b0) (as := as) (cy := cy) hr
            rw [zi_ce_boo] at he
            exact va_zald hx hb hK hP r 1 he rfl (zi_in_lt hin).1 hdg h5
          · cases h1
        · cases h1
      · cases h1
    · cases hst
  · -- aaload
    split at hst
    · rename_i j r rest
      obtain ⟨x, h1, h2⟩ := Option.map_eq_some_iff.mp hst
      simp only [Prod.mk.injEq] at h2
      obtain ⟨rfl, rfl, rfl⟩ := h2
      have e : ln = 1 := of_decide_eq_true hlen
      subst e
      have h5 := kk H locs ls hP hD hS hl rfl
      unfold zi_aald at h1
      split at h1
      · rename_i t' sl hr
        split at h1
        · rename_i hin
          simp only [Bool.and_eq_true, decide_eq_true_eq] at hin
          have hv : zi_cv ρ b0 as x = va_rf (zi_rv as (sl.getD j.toNatClampNeg .null)) := by
            split at h1
            · rename_i y hy
              cases h1
              rw [List.getD_eq_getElem?_getD, hy]
              rfl
            · rename_i hy
              cases h1
              rw [List.getD_eq_getElem?_getD, hy]
              rfl
            · cases h1
          rw [List.map_cons, hv] at h5
          have he := zi_w_get (ρ := ρ) (b := b0) (as := as) (cy := cy) hr
          rw [zi_ce_ref hin.1.1] at he
          have hty : (zi_tyOf t').isReference = true := by
            obtain ⟨⟨g1, g2⟩, -⟩ := hin
            match t', g1, g2 with
            | 9, _, _ => rfl
            | 10, _, _ => rfl
            | 11, _, _ => rfl
          exact zi_Waald hx hb hK hP r (t' - 7) hty he (zi_tys_at (by omega) hin.1.2) (zi_in_lt hin.2).1 hdg h5
        · cases h1
      · cases h1
    · cases hst
  · -- iastore
    split at hst
    · rename_i x j r rest
      obtain ⟨hn, h1, h2⟩ := Option.map_eq_some_iff.mp hst
      simp only [Prod.mk.injEq] at h2
      obtain ⟨rfl, rfl, rfl⟩ := h2
      have e : ln = 1 := of_decide_eq_true hlen
      subst e
      unfold zi_iast at h1
      split at h1
      · rename_i sl hr
        split at h1
        · rename_i hin
          simp only [Bool.and_eq_true] at hin
          cases h1
          have he := zi_w_get (ρ := ρ) (b := b0) (as := as) (cy := cy) hr
          rw [zi_ce_int] at he
          rw [List.map_cons, zi_cv_iv hin.2]
          refine va_iast hx hb hK hP hD hS r 0 he rfl (zi_in_lt hin.1).1 hdg (fun H1 locs1 p1 p2 p3 => ?_)
          have ew : (zi_w ρ b0 as cy h).set r (as.getD r 0, .inl (cy 7, sl.length, .inl (upd (fun i => zi_iv ρ (sl.getD i (.int 0))) j.toNatClampNeg (zi_iv ρ x)))) = zi_w ρ b0 as cy (h.set r (7, sl.set j.toNatClampNeg x)) := by
            rw [zi_w_set, zi_ce_int, zi_upd (zi_in_lt hin.1).2, List.length_set]
          rw [ew] at p1 p2
          exact kk H1 locs1 ls p1 p2 p3 hl (List.length_set ..)
        · cases h1
      · cases h1
    · cases hst
  · -- bastore
    split at hst
    · rename_i x j r rest
      obtain ⟨hn, h1, h2⟩ := Option.map_eq_some_iff.mp hst
      simp only [Prod.mk.injEq] at h2
      obtain ⟨rfl, rfl, rfl⟩ := h2
      have e : ln = 1 := of_decide_eq_true hlen
      subst e
      unfold zi_bast at h1
      split at h1
      · rename_i sl hr
        split at h1
        · rename_i hin
          simp only [Bool.and_eq_true, Bool.or_eq_true, decide_eq_true_eq] at hin
          cases h1
          have he := zi_w_get (ρ := ρ) (b := b0) (as := as) (cy := cy) hr
          rw [zi_ce_boo] at he
          have hx1 : vp_nar .boolean x = x := by
            rcases hin.2 with rfl | rfl
            · decide
            · decide
          refine va_zast (x := x) hx hb hK hP hD hS r 1 he rfl (zi_in_lt hin.1).1 hdg (fun H1 locs1 p1 p2 p3 => ?_)
          have ew : (zi_w ρ b0 as cy h).set r (as.getD r 0, .inl (cy 8, sl.length, .inl (upd (fun i => zi_iv ρ (sl.getD i (.int 0))) j.toNatClampNeg (vp_nar .boolean x)))) = zi_w ρ b0 as cy (h.set r (8, sl.set j.toNatClampNeg (.int x))) := by
            rw [zi_w_set, zi_ce_boo, zi_upd (zi_in_lt hin.1).2, List.length_set, hx1]
            rfl
          rw [ew] at p1 p2
          exact kk H1 locs1 ls p1 p2 p3 hl (List.length_set ..)
        · cases h1
      · cases h1
    · cases hst
  · -- aastore
    split at hst
    · rename_i q j r rest
      obtain ⟨hn, h1, h2⟩ := Option.map_eq_some_iff.mp hst
      simp only [Prod.mk.injEq] at h2
      obtain ⟨rfl, rfl, rfl⟩ := h2
      have e : ln = 1 := of_decide_eq_true hlen
      subst e
      unfold zi_aast at h1
      split at h1
      · rename_i t' sl hr
        split at h1
        · rename_i hin
          simp only [Bool.and_eq_true, decide_eq_true_eq] at hin
          split at h1
          · rename_i ci vs hq
            split at h1
            · rename_i hci
              cases h1
              have h9 : 9 ≤ t' := by omega
              have he := zi_w_get (ρ := ρ) (b := b0) (as := as) (cy := cy) hr
              rw [zi_ce_ref h9] at he
              have hv := zi_w_get (ρ := ρ) (b := b0) (as := as) (cy := cy) hq
              have ew : (zi_w ρ b0 as cy h).set r (as.getD r 0, .inl (cy t', sl.length, .inr (.inr (.inr (.inr (va_up (fun i => zi_rv as (sl.getD i .null)) j.toNatClampNeg (some (as.getD q 0)))))))) = zi_w ρ b0 as cy (h.set r (t', sl.set j.toNatClampNeg (.ref (q + 1)))) := by
                rw [zi_w_set, zi_ce_ref h9, zi_updr (zi_in_lt hin.2).2, List.length_set]
              rcases hin.1 with rfl | rfl
              · have hci : ci = 2 := hci
                subst hci
                rw [zi_ce_obj (by omega)] at hv
                refine va_astq hx hb hK hP hD hS r 2 q 2 (r := (RX2, TX2, 4)) he rfl hv rfl (zi_in_lt hin.2).1 hdg (fun H1 locs1 p1 p2 p3 => ?_)
                rw [ew] at p1 p2
                exact kk H1 locs1 ls p1 p2 p3 hl (List.length_set ..)
              · have hci : ci = 4 := hci
                subst hci
                rw [zi_ce_obj (by omega)] at hv
                refine va_astq hx hb hK hP hD hS r 3 q 4 (r := (RX4, TX4, 6)) he rfl hv rfl (zi_in_lt hin.2).1 hdg (fun H1 locs1 p1 p2 p3 => ?_)
                rw [ew] at p1 p2
                exact kk H1 locs1 ls p1 p2 p3 hl (List.length_set ..)
            · cases h1
          · cases h1
        · cases h1
      · cases h1
    · cases hst
  · -- arraylength
    split at hst
    · rename_i r rest
      obtain ⟨x, h1, h2⟩ := Option.map_eq_some_iff.mp hst
      simp only [Prod.mk.injEq] at h2
      obtain ⟨rfl, rfl, rfl⟩ := h2
      have e : ln = 1 := of_decide_eq_true hlen
      subst e
      unfold zi_alen at h1
      split at h1
      · split at h1
        · rename_i sl hsl
          cases h1
          obtain ⟨x1, x2, x3⟩ := hX _ rfl
          exact va_slen hx hb x1 x2 x3 hS hdg (kk H locs ls hP hD hS hl rfl)
        · cases h1
      · rename_i r
        split at h1
        · rename_i t' sl hr
          split at h1
          · rename_i hc
            cases h1
            have he := zi_w_get (ρ := ρ) (b := b0) (as := as) (cy := cy) hr
            have h5 := kk H locs ls hP hD hS hl rfl
            by_cases h9 : 9 ≤ t'
            · rw [zi_ce_ref h9] at he
              exact va_alen hx hb hK hP r (t' - 7) he (zi_tys_at hc.1 hc.2) rfl hdg h5
            · have h78 : t' = 7 ∨ t' = 8 := by omega
              rcases h78 with rfl | rfl
              · rw [zi_ce_int] at he
                exact va_alen hx hb hK hP r 0 he rfl rfl hdg h5
              · rw [zi_ce_boo] at he
                exact va_alen hx hb hK hP r 1 he rfl rfl hdg h5
          · cases h1
        · cases h1
    · cases hst
  · -- pop
    split at hst
    · split at hst
      · rename_i hc
        simp only [Option.some.injEq, Prod.mk.injEq] at hst
        obtain ⟨rfl, rfl, rfl⟩ := hst
        have e : ln = 1 := of_decide_eq_true hlen
        subst e
        exact lv_pop hx hb hdg (by rw [zi_cv_cat]; exact hc) (kk H locs ls hP hD hS hl rfl)
      · cases hst
    · cases hst
  · -- ixor
    split at hst
    · simp only [Option.some.injEq, Prod.mk.injEq] at hst
      obtain ⟨rfl, rfl, rfl⟩ := hst
      have e : ln = 1 := of_decide_eq_true hlen
      subst e
      exact lv_ixor hx hb hdg (kk H locs ls hP hD hS hl rfl)
    · cases hst
  · -- lconst
    simp only [Option.some.injEq, Prod.mk.injEq] at hst
    obtain ⟨rfl, rfl, rfl⟩ := hst
    have e : ln = 1 := of_decide_eq_true hlen
    subst e
    exact lv_lconst hx hb hdg rfl (kk H locs ls hP hD hS hl rfl)
  · -- ldc2_w
    simp only [Option.some.injEq, Prod.mk.injEq] at hst
    obtain ⟨rfl, rfl, rfl⟩ := hst
    have e : ln = 3 := of_decide_eq_true hlen
    subst e
    exact lv_ldc2 hx hb hown (hts _ (zi_tb_in hok)) hdg (kk H locs ls hP hD hS hl rfl)
  · -- lload_n
    split at hst
    · rename_i x hg
      simp only [Option.some.injEq, Prod.mk.injEq] at hst
      obtain ⟨rfl, rfl, rfl⟩ := hst
      have e : ln = 1 := of_decide_eq_true hlen
      subst e
      exact lv_lload_n hx hb hdg rfl (zi_get_at hl hg) (kk H locs ls hP hD hS hl rfl)
    · cases hst
  · -- lstore_n
    split at hst
    · rename_i x rest
      split at hst
      · rename_i hc
        simp only [Option.some.injEq, Prod.mk.injEq] at hst
        obtain ⟨rfl, rfl, rfl⟩ := hst
        have e : ln = 1 := of_decide_eq_true hlen
        subst e
        exact lv_lstore_n hx hb hdg rfl hl hc (by rw [← zi_set2_lc]; rfl) (fun ls1 hl1 => kk H locs ls1 hP hD hS hl1 rfl)
      · cases hst
    · cases hst
  · -- i2l
    split at hst
    · simp only [Option.some.injEq, Prod.mk.injEq] at hst
      obtain ⟨rfl, rfl, rfl⟩ := hst
      have e : ln = 1 := of_decide_eq_true hlen
      subst e
      exact lv_i2l hx hb hdg rfl (kk H locs ls hP hD hS hl rfl)
    · cases hst
  · -- l2i
    split at hst
    · simp only [Option.some.injEq, Prod.mk.injEq] at hst
      obtain ⟨rfl, rfl, rfl⟩ := hst
      have e : ln = 1 := of_decide_eq_true hlen
      subst e
      exact lv_l2i hx hb hdg rfl (kk H locs ls hP hD hS hl rfl)
    · cases hst
  · -- lshl
    split at hst
    · simp only [Option.some.injEq, Prod.mk.injEq] at hst
      obtain ⟨rfl, rfl, rfl⟩ := hst
      have e : ln = 1 := of_decide_eq_true hlen
      subst e
      exact lv_lshl hx hb hdg rfl (kk H locs ls hP hD hS hl rfl)
    · cases hst
  · -- lshr
    split at hst
    · simp only [Option.some.injEq, Prod.mk.injEq] at hst
      obtain ⟨rfl, rfl, rfl⟩ := hst
      have e : ln = 1 := of_decide_eq_true hlen
      subst e
      exact lv_lshr hx hb hdg rfl (kk H locs ls hP hD hS hl rfl)
    · cases hst
  · -- lor
    split at hst
    · simp only [Option.some.injEq, Prod.mk.injEq] at hst
      obtain ⟨rfl, rfl, rfl⟩ := hst
      have e : ln = 1 := of_decide_eq_true hlen
      subst e
      exact lv_lor hx hb hdg (kk H locs ls hP hD hS hl rfl)
    · cases hst
  · -- land
    split at hst
    · simp only [Option.some.injEq, Prod.mk.injEq] at hst
      obtain ⟨rfl, rfl, rfl⟩ := hst
      have e : ln = 1 := of_decide_eq_true hlen
      subst e
      exact lv_land hx hb hdg (kk H locs ls hP hD hS hl rfl)
    · cases hst
  · cases hst
end ZW
end
section
section ZN
variable {p : Program} {l : Launch} {e : Env} {R : Room} {s : State} {m : MethodId} {args : Array Value} {below : List Frame} {meth : Method} {c : Code} {H : Heap} {locs : List Loc} {cells slots : Nat} {Q : State → Prop}
variable {cc : ByteArray} {ls : Array Slot} {D : va_G} {A : Nat → Prop} {H0 : Heap}
variable {ρ : Nat → Int32} {b0 : Nat} {as : List Nat} {cy : Nat → ClassId} {own : String} {ini : Bool} {ms : List zi_Me}
theorem zi_zero (n : Nat) : (fun i => zi_iv ρ ((List.replicate n (Value.int 0)).getD i (.int 0))) = fun _ => 0 := by
  funext i
  rw [List.getD_eq_getElem?_getD, List.getElem?_replicate]
  split <;> rfl
theorem zi_nulls (n : Nat) : (fun i => zi_rv as ((List.replicate n Value.null).getD i .null)) = fun _ => none := by
  funext i
  rw [List.getD_eq_getElem?_getD, List.getElem?_replicate]
  split <;> rfl
theorem zi_defs {a : Nat} (h : a < 7) : ((List.range (zi_fld a)).map (fun k => defaultValue (zi_ty a k))).map (zi_cv ρ b0 as) = (List.range (zi_fld a)).map (fun k => defaultValue (zi_ty a k)) := by
  match a, h with
  | 0, _ => rfl
  | 1, _ => rfl
  | 2, _ => rfl
  | 3, _ => rfl
  | 4, _ => rfl
  | 5, _ => rfl
  | 6, _ => rfl
theorem zi_top (q : Nat) (qs : List Nat) {h : zi_Hp} (hl : as.length = h.length) : zi_cv ρ b0 (as ++ q :: qs) (.ref (h.length + 1)) = .ref q := by
  show Value.ref ((as ++ q :: qs).getD h.length 0) = _
  rw [← hl]
  simp [List.getD_eq_getElem?_getD]
theorem zi_one_new {q : Nat} {h : zi_Hp} {c : Nat × List Value} (hl : as.length = h.length) (hw : zi_wfh h = true) : zi_w ρ b0 (as ++ [q]) cy (h ++ [c]) = zi_w ρ b0 as cy h ++ [(q, zi_ce ρ b0 (as ++ [q]) cy c)] := by
  rw [zi_w_grow hl hw]
  rfl
set_option maxHeartbeats 4000000 in
theorem zi_new_sound {r : zi_Row} {L : zi_Lc} {st st' : List Value} {h h' : zi_Hp} {k1 k2 nL : Nat}
    (hx : p.tables.exec = Jvm.exec) (hb : c.code = cc) (hown : s.vm.findClass own = some m.cls) (hts : ∀ w ∈ zi_Ts, w.before args s = true) (hcl : ∀ a q, vwCl[a]? = some q → zi_cok a q)
    (hAI : Cond.arrayClass .int ∈ zi_Ts) (hAZ : Cond.arrayClass .boolean ∈ zi_Ts) (hA2 : va_AO RX2 s) (hA4 : va_AO RX4 s) (hAA : va_AOA .int s)
    (hK : va_K D vwCl (zi_tys cy) s) (hA : ∀ q, H0.size ≤ q → A q)
    (hdg : decode cc r.1 = .ok (r.2.1, r.2.2.1)) (hlen : zi_lok r = true) (hok : zi_ok own ini ms r = true) (hst : zi_new r st h = some (st', h', k1, k2)) (hC : cells + k1 ≤ R.cells) (hSl : slots + k2 ≤ R.slots)
    (hwh : zi_wfh h = true) (hwc : zi_wfc h.length L = true) (hws : zi_wfl h.length st = true) (hln : as.length = h.length)
    (hl : lv_has ls nL (zi_lc ρ b0 as L)) (hP : va_P D vwCl (zi_w ρ b0 as cy h) H) (hD : va_D A (zi_w ρ b0 as cy h)) (hS : va_S A H0 H locs)
    (kk : ∀ (qs : List Nat) (H1 : Heap), va_P D vwCl (zi_w ρ b0 (as ++ qs) cy h') H1 → va_D A (zi_w ρ b0 (as ++ qs) cy h') → va_S A H0 H1 locs → lv_has ls nL (zi_lc ρ b0 (as ++ qs) L) → (as ++ qs).length = h'.length → qs.length ≤ k1 → W p l e R s m args below meth c H1 locs (cells + k1) (slots + k2) Q (F0 m (r.1 + r.2.2.1) ls (st'.map (zi_cv ρ b0 (as ++ qs))))) :
    W p l e R s m args below meth c H locs cells slots Q (F0 m r.1 ls (st.map (zi_cv ρ b0 as))) := by
  obtain ⟨pc, i, ln, a, b, t, v⟩ := r
  dsimp only at hdg hlen hok hst kk ⊢
  unfold zi_new at hst
  dsimp only at hst
  rw [← hln] at hwc hws
  have hlc : ∀ qs : List Nat, lv_has ls nL (zi_lc ρ b0 (as ++ qs) L) := fun qs => by rw [zi_lc_grow hwc]; exact hl
  split at hst
  · -- new
    rename_i j
    split at hst
    · rename_i h7
      simp only [Option.some.injEq, Prod.mk.injEq] at hst
      obtain ⟨rfl, rfl, rfl, rfl⟩ := hst
      have e : ln = 3 := of_decide_eq_true hlen
      subst e
      unfold zi_ok at hok
      dsimp only at hok
      split at hok
      · rename_i q hq
        obtain ⟨u1, u2, u3, u4, u5, u6⟩ := hcl _ _ hq
        obtain ⟨C, T, N⟩ := q
        dsimp only at u1 u2 u3 u4 u5 u6 hok
        subst u4
        refine va_new (C := C) (T := T) (N := zi_fld a) (ci := a) (fs := (List.range (zi_fld a)).map (fun k => defaultValue (zi_ty a k))) hx hb hts u1 (zi_ty a) u2 hown (hts _ (zi_tb_in hok)) (hts _ u5) (hts _ u6) hK hP hD hS hA hq (fun k hk => by simp [vp_V, List.getD_eq_getElem?_getD, hk]) hC hSl hdg (fun q H1 p1 p2 p3 => ?_)
        have ew := zi_one_new (ρ := ρ) (b0 := b0) (cy := cy) (q := q) (c := (a, (List.range (zi_fld a)).map (fun k => defaultValue (zi_ty a k)))) hln hwh
        rw [zi_ce_obj h7, zi_defs h7] at ew
        rw [← ew] at p1 p2
        have h5 := kk [q] H1 p1 p2 p3 (hlc _) (by simp [hln]) (Nat.le_refl _)
        rw [List.map_cons, zi_top q [] hln, zi_cvl_grow hws] at h5
        exact h5
      · cases hok
    · cases hst
  · -- newarray int
    split at hst
    · rename_i n rest
      split at hst
      · cases hst
      · rename_i hn
        simp only [Option.some.injEq, Prod.mk.injEq] at hst
        obtain ⟨rfl, rfl, rfl, rfl⟩ := hst
        have e : ln = 2 := of_decide_eq_true hlen
        subst e
        have hn0 : ¬ n < 0 := fun q => hn (Or.inl q)
        have hn1 : n.toNatClampNeg ≤ 100000 := Nat.not_lt.mp fun q => hn (Or.inr q)
        refine va_newa (atype := .int) (ty := .int) (a0 := (n.toNatClampNeg, .inl (fun _ => 0))) hx hb (hts _ hAI) rfl hK hP hD hS hA (fun cA => rfl) hn0 rfl (by show _ * 4 ≤ _; omega) hC hSl hdg (fun q cA H1 hK1 p1 p2 p3 => ?_)
        have e : cA = cy 7 := Option.some.inj ((hK1.2 5 _ rfl).2.symm.trans (hK.2 0 _ rfl).2)
        subst e
        have ew := zi_one_new (ρ := ρ) (b0 := b0) (cy := cy) (q := q) (c := (7, List.replicate n.toNatClampNeg (.int 0))) hln hwh
        rw [zi_ce_int, zi_zero, List.length_replicate] at ew
        rw [← ew] at p1 p2
        have h5 := kk [q] H1 p1 p2 p3 (hlc _) (by simp [hln]) (Nat.le_refl _)
        rw [List.map_cons, zi_top q [] hln, zi_cvl_grow (by simp only [zi_wfl, List.all_cons, Bool.and_eq_true] at hws ⊢; exact hws.2)] at h5
        exact h5
    · cases hst
  · -- newarray boolean
    split at hst
    · rename_i n rest
      split at hst
      · cases hst
      · rename_i hn
        simp only [Option.some.injEq, Prod.mk.injEq] at hst
        obtain ⟨rfl, rfl, rfl, rfl⟩ := hst
        have e : ln = 2 := of_decide_eq_true hlen
        subst e
        have hn0 : ¬ n < 0 := fun q => hn (Or.inl q)
        have hn1 : n.toNatClampNeg ≤ 100000 := Nat.not_lt.mp fun q => hn (Or.inr q)
        refine va_newa (atype := .boolean) (ty := .boolean) (a0 := (n.toNatClampNeg, .inl (fun _ => 0))) hx hb (hts _ hAZ) rfl hK hP hD hS hA (fun cA => rfl) hn0 rfl (by show _ * 1 ≤ _; omega) hC hSl hdg (fun q cA H1 hK1 p1 p2 p3 => ?_)
        have e : cA = cy 8 := Option.some.inj ((hK1.2 5 _ rfl).2.symm.trans (hK.2 1 _ rfl).2)
        subst e
        have ew := zi_one_new (ρ := ρ) (b0 := b0) (cy := cy) (q := q) (c := (8, List.replicate n.toNatClampNeg (.int 0))) hln hwh
        rw [zi_ce_boo, zi_zero, List.length_replicate] at ew
        rw [← ew] at p1 p2
        have h5 := kk [q] H1 p1 p2 p3 (hlc _) (by simp [hln]) (Nat.le_refl _)
        rw [List.map_cons, zi_top q [] hln, zi_cvl_grow (by simp only [zi_wfl, List.all_cons, Bool.and_eq_true] at hws ⊢; exact hws.2)] at h5
        exact h5
    · cases hst
  · -- anewarray
    rename_i j
    split at hst
    · rename_i n rest
      split at hst
      · cases hst
      · rename_i hn
        simp only [Option.some.injEq, Prod.mk.injEq] at hst
        obtain ⟨rfl, rfl, rfl, rfl⟩ := hst
        have e : ln = 3 := of_decide_eq_true hlen
        subst e
        have hn0 : ¬ n < 0 := fun q => hn (Or.inl q)
        have hn1 : n.toNatClampNeg ≤ 100000 := Nat.not_lt.mp fun q => hn (Or.inr (Or.inl q))
        have ha : a = 9 ∨ a = 10 := Classical.not_not.mp fun q => hn (Or.inr (Or.inr q))
        have hok : zi_tb t (.classLink own j (if a = 9 then RX2 else RX4)) = true := hok
        have h9 : 9 ≤ a := by omega
        have kq : ∀ (q : Nat) (H1 : Heap), va_P D vwCl (zi_w ρ b0 as cy h ++ [(q, .inl (cy a, n.toNatClampNeg, .inr (.inr (.inr (.inr (fun _ => none))))))]) H1 → va_D A (zi_w ρ b0 as cy h ++ [(q, .inl (cy a, n.toNatClampNeg, .inr (.inr (.inr (.inr (fun _ => none))))))]) → va_S A H0 H1 locs → W p l e R s m args below meth c H1 locs (cells + 1) (slots + n.toNatClampNeg) Q (F0 m (pc + 3) ls (.ref q :: rest.map (zi_cv ρ b0 as))) := by
          intro q H1 p1 p2 p3
          have ew := zi_one_new (ρ := ρ) (b0 := b0) (cy := cy) (q := q) (c := (a, List.replicate n.toNatClampNeg .null)) hln hwh
          rw [zi_ce_ref h9, zi_nulls, List.length_replicate] at ew
          rw [← ew] at p1 p2
          have h5 := kk [q] H1 p1 p2 p3 (hlc _) (by simp [hln]) (Nat.le_refl _)
          rw [List.map_cons, zi_top q [] hln, zi_cvl_grow (by simp only [zi_wfl, List.all_cons, Bool.and_eq_true] at hws ⊢; exact hws.2)] at h5
          exact h5
        rcases ha with rfl | rfl
        · refine va_newq (C := RX2) hx hb hown (hts _ (zi_tb_in hok)) hA2 hK hP hD hS hA hn0 rfl (by omega) hC hSl hdg (fun q cA H1 hK1 p1 p2 p3 => ?_)
          obtain ⟨-, -, -, -, -, f1⟩ := (hK1.2 5 _ rfl).2
          obtain ⟨-, -, -, -, -, f2⟩ := (hK.2 2 _ rfl).2
          have e : cA = cy 9 := Option.some.inj (f1.symm.trans f2)
          subst e
          exact kq q H1 p1 p2 p3
        · refine va_newq (C := RX4) hx hb hown (hts _ (zi_tb_in hok)) hA4 hK hP hD hS hA hn0 rfl (by omega) hC hSl hdg (fun q cA H1 hK1 p1 p2 p3 => ?_)
          obtain ⟨-, -, -, -, -, f1⟩ := (hK1.2 5 _ rfl).2
          obtain ⟨-, -, -, -, -, f2⟩ := (hK.2 3 _ rfl).2
          have e : cA = cy 10 := Option.some.inj (f1.symm.trans f2)
          subst e
          exact kq q H1 p1 p2 p3
    · cases hst
  · -- multianewarray
    rename_i j
    split at hst
    · rename_i k n rest
      split at hst
      · cases hst
      · rename_i hn
        simp only [Option.some.injEq, Prod.mk.injEq] at hst
        obtain ⟨rfl, rfl, rfl, rfl⟩ := hst
        have e : ln = 4 := of_decide_eq_true hlen
        subst e
        have hn0 : ¬ n < 0 := fun q => hn (Or.inl q)
        have hk0 : ¬ k < 0 := fun q => hn (Or.inr (Or.inl q))
        have hn1 : n.toNatClampNeg ≤ 100000 := Nat.not_lt.mp fun q => hn (Or.inr (Or.inr (Or.inl q)))
        have hk1 : k.toNatClampNeg ≤ 100000 := Nat.not_lt.mp fun q => hn (Or.inr (Or.inr (Or.inr q)))
        have hok : zi_tb t (.classLink own j ("[" ++ (FieldType.array .int).toString)) = true := hok
        have f7 : s.vm.findClass (FieldType.array .int).toString = some (cy 7) := (hK.2 0 _ rfl).2
        refine va_mna (X := zi_w ρ b0 as cy h) (L := []) (f := fun _ => .inr (0, [])) (ty := .int) (cy := cy 7) (z := (k.toNatClampNeg, .inl (fun _ => 0))) hx hb hown (hts _ (zi_tb_in hok)) hAA (hts _ hAI) f7 hK (by simpa [va_pl] using hP) (by simpa [va_pl] using hD) hS hA hn0 hk0 rfl rfl (by omega) (by show _ * 4 ≤ _; omega) (by omega) rfl rfl hC hSl (fun c0 => arrV_new c0 _ _) hdg (fun q r cA H1 hinj hnot hK1 p1 p2 p3 => ?_)
        have e : cA = cy 11 := Option.some.inj ((hK1.2 5 _ rfl).2.symm.trans (hK.2 4 _ rfl).2)
        subst e
        have ew : (zi_w ρ b0 as cy h ++ [(q, .inl (cy 11, n.toNatClampNeg, .inr (.inr (.inr (.inr (fun i => if i < n.toNatClampNeg then some (r i) else none))))))]) ++ va_pl ([] ++ (List.range n.toNatClampNeg).map r) (vr_up (fun _ => .inr (0, [])) ((List.range n.toNatClampNeg).map r) (.inl (cy 7, (k.toNatClampNeg, .inl (fun _ => 0))))) = zi_w ρ b0 (as ++ q :: (List.range n.toNatClampNeg).map r) cy (h ++ (11, (List.range n.toNatClampNeg).map (fun i => .ref (h.length + 2 + i))) :: List.replicate n.toNatClampNeg (7, List.replicate k.toNatClampNeg (.int 0))) := by
          rw [zi_w_grow hln hwh, List.append_assoc, List.mapIdx_cons]
          congr 1
          rw [List.singleton_append]
          congr 1
          · rw [zi_ce_ref (by omega)]
            have e1 : (fun i => zi_rv (as ++ q :: (List.range n.toNatClampNeg).map r) (((List.range n.toNatClampNeg).map (fun i => Value.ref (h.length + 2 + i))).getD i .null)) = (fun i => if i < n.toNatClampNeg then some (r i) else none) := by
              funext i
              by_cases hi : i < n.toNatClampNeg
              · rw [if_pos hi]
                have e2 : ((List.range n.toNatClampNeg).map (fun i => Value.ref (h.length + 2 + i))).getD i .null = .ref ((h.length + 1 + i) + 1) := by
                  rw [List.getD_eq_getElem?_getD, List.getElem?_map, List.getElem?_range hi]
                  have e9 : h.length + 2 + i = h.length + 1 + i + 1 := by omega
                  exact congrArg Value.ref e9
                rw [e2]
                show some ((as ++ q :: (List.range n.toNatClampNeg).map r).getD (h.length + 1 + i) 0) = _
                rw [← hln, List.getD_eq_getElem?_getD, List.getElem?_append_right (by omega)]
                have e3 : as.length + 1 + i - as.length = i + 1 := by omega
                rw [e3]
                simp [hi]
              · rw [if_neg hi]
                have e2 : ((List.range n.toNatClampNeg).map (fun i => Value.ref (h.length + 2 + i))).getD i .null = .null := by
                  simp [List.getD_eq_getElem?_getD, hi]
                rw [e2]
                rfl
            rw [e1]
            simp
          · apply List.ext_getElem?
            intro i
            unfold va_pl
            rw [List.getElem?_mapIdx]
            have e7 : ∀ xs : List Nat, zi_ce ρ b0 xs cy (7, List.replicate k.toNatClampNeg (.int 0)) = .inl (cy 7, k.toNatClampNeg, .inl (fun _ => 0)) := fun xs => by rw [zi_ce_int, zi_zero, List.length_replicate]
            by_cases hi : i < n.toNatClampNeg
            · simp only [List.nil_append, List.getElem?_map, List.getElem?_range hi, List.getElem?_replicate, if_pos hi, Option.map_some, e7, List.getD_eq_getElem?_getD, List.getElem?_cons_succ, Option.getD_some]
              rw [vr_up_in (List.mem_map.mpr ⟨i, List.mem_range.mpr hi, rfl⟩)]
            · simp [hi]
        rw [ew] at p1 p2
        have h5 := kk (q :: (List.range n.toNatClampNeg).map r) H1 p1 p2 p3 (hlc _) (by simp [hln]) (by simp; omega)
        rw [List.map_cons, zi_top q _ hln, zi_cvl_grow (by simp only [zi_wfl, List.all_cons, Bool.and_eq_true] at hws ⊢; exact hws.2.2), ← Nat.add_assoc, ← Nat.add_assoc] at h5
        exact h5
    · cases hst
  · cases hst
end ZN
end
section
/-! what the tables say beside the words -/
noncomputable def zi_Nst (U : State) : Prop := (∀ w ∈ zi_nest, va_Nw w U) ∧ va_AO RX2 U ∧ va_AO RX4 U ∧ va_AOA .int U
theorem zi_nest_k : ∀ w ∈ zi_nest, ∃ (a : String) (i : Nat) (x : MethodName) (h : String), w = Cond.methodLinkNest a i x h := by
  intro w hw
  simp only [zi_nest, List.mem_cons, List.not_mem_nil, or_false] at hw
  rcases hw with rfl | rfl | rfl | rfl | rfl | rfl | rfl | rfl | rfl <;> exact ⟨_, _, _, _, rfl⟩
theorem zi_Nst.warm {s U : State} (hW : s.WarmedH U.vm) (h : zi_Nst s) : zi_Nst U := by
  refine ⟨fun w hw => ?_, h.2.1.moved hW.alike, h.2.2.1.moved hW.alike, Jvm.Stand.arrayOver_alikeB hW.alike h.2.2.2⟩
  obtain ⟨a, i, x, g, rfl⟩ := zi_nest_k w hw
  exact va_Nw.warmM hW (h.1 _ hw)
theorem zi_Nst.same {u U : State} (e : u.vm = U.vm) (h : zi_Nst u) : zi_Nst U := by
  have ha : u.vm.Alike U.vm := by rw [← e]; exact Vm.Alike.refl u.vm
  refine ⟨fun w hw => ?_, h.2.1.moved ha, h.2.2.1.moved ha, Jvm.Stand.arrayOver_alikeB ha h.2.2.2⟩
  obtain ⟨a, i, x, g, rfl⟩ := zi_nest_k w hw
  exact va_Nw.same rfl e (h.1 _ hw)
/-! a method's contract -/
noncomputable def zi_Pc (ρ : Nat → Int32) (b0 : Nat) (as : List Nat) (cy : Nat → ClassId) (D : va_G) (sz : Nat) (h : zi_Hp) (vs : List Value) : Array Value → State → Prop :=
  va_Pc (vs.map (zi_cv ρ b0 as)) (fun U => U.heap.size = sz ∧ va_P D vwCl (zi_w ρ b0 as cy h) U.heap ∧ va_K D vwCl (zi_tys cy) U ∧ va_D (fun _ => True) (zi_w ρ b0 as cy h) ∧ zi_Nst U)
noncomputable def zi_Qc (ρ : Nat → Int32) (b0 : Nat) (as : List Nat) (cy : Nat → ClassId) (D : va_G) (sz : Nat) (h : zi_Hp) (mc : Nat) (os : List zi_Out) : Array Value → State → Outcome → State → Prop :=
  fun _ st oc t => ∃ o ∈ os, zi_rho ρ o.1 ∧ ∃ qs : List Nat, qs.length ≤ mc ∧ (as ++ qs).length = o.2.2.length ∧ oc = .returned (o.2.1.map (zi_cv ρ b0 (as ++ qs))) ∧ va_P D vwCl (zi_w ρ b0 (as ++ qs) cy o.2.2) t.heap ∧ va_D (va_A (zi_w ρ b0 as cy h) sz) (zi_w ρ b0 (as ++ qs) cy o.2.2) ∧ va_F (va_A (zi_w ρ b0 as cy h) sz) st t
noncomputable abbrev zi_wsM (mt : zi_Me) : List Cond := Cond.code mt.1 mt.2.1 mt.2.2.1 mt.2.2.2.1 :: zi_Ts
noncomputable abbrev zi_rm (mt : zi_Me) (dp : Nat) : Room := { frames := dp, cells := mt.2.2.2.2.2.1, slots := mt.2.2.2.2.2.2, locals := 40 * dp }
noncomputable def zi_callOk (l : Launch) (ms : List zi_Me) (call : Nat → List Value → zi_Hp → zi_Dm → Option (List zi_Out)) (dp : Nat) : Prop :=
  ∀ (a : Nat) (mt : zi_Me), ms[a]? = some mt → ∀ (vs : List Value) (h : zi_Hp) (d : zi_Dm) (os : List zi_Out), call a vs h d = some os → ∀ (ρ : Nat → Int32) (b0 : Nat) (as : List Nat) (cy : Nat → ClassId) (D : va_G) (sz : Nat), zi_rho ρ d → as.length = h.length →
    Met l mt.1 (zi_wsM mt) (zi_rm mt dp) (zi_Pc ρ b0 as cy D sz h vs) (zi_Qc ρ b0 as cy D sz h mt.2.2.2.2.2.1 os) mt.2.2.2.2.2.1 mt.2.2.2.2.2.2 (va_A (zi_w ρ b0 as cy h) sz)
/-- what is known of each method -/
noncomputable def zi_mOk (ms : List zi_Me) : Prop := ∀ (a : Nat) (mt : zi_Me), ms[a]? = some mt → Cond.code mt.1 mt.2.1 mt.2.2.1 mt.2.2.2.1 ∈ zi_Ts ∧ Cond.initialized mt.1.cls ∈ zi_Ts ∧ plainFor mt.1 = true ∧ (mt.1.cls ≠ "java/lang/invoke/MethodHandle" ∧ mt.1.cls ≠ "java/lang/invoke/VarHandle") ∧ mt.2.2.1 ≤ 21 ∧
  ∀ r ∈ mt.2.2.2.2.1, decode mt.2.1 r.1 = .ok (r.2.1, r.2.2.1) ∧ zi_lok r = true ∧ zi_ok mt.1.cls (decide (mt.1.name = "<init>")) ms r = true
theorem zi_goodM {ms : List zi_Me} (h : zi_mOk ms) {a : Nat} {mt : zi_Me} (e : ms[a]? = some mt) : GoodIn zi_Ts (zi_wsM mt) := by
  intro w hw
  rcases List.mem_cons.mp hw with rfl | hw
  · exact ⟨(h a mt e).1, zi_Ts_good (h a mt e).1⟩
  · exact ⟨hw, zi_Ts_good hw⟩
theorem zi_catsum (l : List Value) : (l.map fun v => v.category).sum ≤ 2 * l.length := by
  induction l with
  | nil => simp
  | cons v l ih =>
    have : v.category ≤ 2 := by rcases lv_cat v with h | h <;> omega
    simp only [List.map_cons, List.sum_cons, List.length_cons]
    omega
section ZB
variable {p : Program} {l : Launch} {e : Env} {R : Room} {s : State} {m : MethodId} {args : Array Value} {below : List Frame} {meth : Method} {c : Code} {H : Heap} {locs : List Loc} {cells slots : Nat} {Q : State → Prop}
variable {cc : ByteArray} {ls : Array Slot} {D : va_G} {A : Nat → Prop} {pc : Nat} {rest : List Value}
variable {ρ : Nat → Int32} {b0 : Nat} {as : List Nat} {cy : Nat → ClassId}
theorem zi_Wif {cnd : ClassFile.Cond} {x : Int32} {off : Int} {tgt : Nat} (hx : p.tables.exec = Jvm.exec) (hb : c.code = cc) (hdg : decode cc pc = .ok (.ifCond cnd off, 3)) (ht : (pc : Int) + off = (tgt : Int))
    (kt : zi_cmp cnd x 0 = true → W p l e R s m args below meth c H locs cells slots Q (F0 m tgt ls rest)) (kf : ¬ zi_cmp cnd x 0 = true → W p l e R s m args below meth c H locs cells slots Q (F0 m (pc + 3) ls rest)) : W p l e R s m args below meth c H locs cells slots Q (F0 m pc ls (.int x :: rest)) := by
  cases cnd <;> simp only [zi_cmp, decide_eq_true_eq] at kt kf
  · exact lv_if_eq hx hb hdg ht kt kf
  · exact lv_if_ne hx hb hdg ht kt (fun h => kf (fun n => n h))
  · exact lv_if_lt hx hb hdg ht kt kf
  · exact lv_if_ge hx hb hdg ht kt kf
  · exact lv_if_gt hx hb hdg ht kt kf
  · exact lv_if_le hx hb hdg ht kt kf
theorem zi_Wicmp {cnd : ClassFile.Cond} {x y : Int32} {off : Int} {tgt : Nat} (hx : p.tables.exec = Jvm.exec) (hb : c.code = cc) (hdg : decode cc pc = .ok (.if_icmp cnd off, 3)) (ht : (pc : Int) + off = (tgt : Int))
    (kt : zi_cmp cnd x y = true → W p l e R s m args below meth c H locs cells slots Q (F0 m tgt ls rest)) (kf : ¬ zi_cmp cnd x y = true → W p l e R s m args below meth c H locs cells slots Q (F0 m (pc + 3) ls rest)) : W p l e R s m args below meth c H locs cells slots Q (F0 m pc ls (.int y :: .int x :: rest)) := by
  cases cnd <;> simp only [zi_cmp, decide_eq_true_eq] at kt kf
  · exact lv_icmp_eq hx hb hdg ht kt kf
  · exact lv_icmp_ne hx hb hdg ht kt (fun h => kf (fun n => n h))
  · exact lv_icmp_lt hx hb hdg ht kt kf
  · exact lv_icmp_ge hx hb hdg ht kt kf
  · exact lv_icmp_gt hx hb hdg ht kt kf
  · exact lv_icmp_le hx hb hdg ht kt kf
/-- behind a call -/
theorem zi_Wcall {a : Array Value} {h : zi_Hp} {os : List zi_Out} {mc mS : Nat} {st0 : List Value}
    (hr : va_Run p l e R s m args below meth c H locs cells slots mc mS (F0 m pc ls st0) rest (zi_Qc ρ b0 as cy D H.size h mc os a) (va_A (zi_w ρ b0 as cy h) H.size))
    (hA : ∀ q, s.heap.size ≤ q → A q) (hD : va_D A (zi_w ρ b0 as cy h)) (hS : va_S A s.heap H locs)
    (kk : ∀ o ∈ os, zi_rho ρ o.1 → ∀ (qs : List Nat) (H1 : Heap) (locs1 : List Loc), qs.length ≤ mc → (as ++ qs).length = o.2.2.length → va_P D vwCl (zi_w ρ b0 (as ++ qs) cy o.2.2) H1 → va_D A (zi_w ρ b0 (as ++ qs) cy o.2.2) → va_S A s.heap H1 locs1 → W p l e R s m args below meth c H1 locs1 (cells + mc) (slots + mS) Q (F0 m (pc + 3) ls ((o.2.1.map (zi_cv ρ b0 (as ++ qs))).toList ++ rest))) :
    W p l e R s m args below meth c H locs cells slots Q (F0 m pc ls st0) := by
  have hF : ∀ q, va_A (zi_w ρ b0 as cy h) H.size q → A q := fun q hq => by
    rcases hq with ⟨k, x, hk⟩ | hq
    · exact hD.2 k (q, x) hk
    · exact hA q (Nat.le_trans hS.1 hq)
  intro T hT X
  obtain ⟨v, st₀, t, T', L, h0, X', hL, e1, e2, ⟨o, ho, hrho, qs, q1, q2, hv, hp, hd, hz, hk⟩, st⟩ := hr T hT X
  have hv : v = o.2.1.map (zi_cv ρ b0 (as ++ qs)) := by injection hv
  subst hv
  rw [h0] at hz hk
  obtain ⟨t2, a1, b1⟩ := kk o ho hrho qs T'.heap (locs ++ L) q1 q2 (by rw [e1]; exact hp) (hd.weaken (fun _ q _ h => hF q.1 h))
    ⟨Nat.le_trans hS.1 (by rw [e1]; exact hz), fun q h1 h2 => by rw [e1, hk q (Nat.lt_of_lt_of_le h1 hS.1) (fun z => h2 (hF q z))]; exact hS.2.1 q h1 h2, fun q hq => by
      rcases List.mem_append.mp hq with h | h
      · exact hS.2.2 q h
      · exact hF _ (hL q h)⟩ T' rfl X'
  exact ⟨t2, st t2 a1, b1⟩
theorem zi_blind {sz : Nat} {h : zi_Hp} {vs : List Value} : FrameBlind (zi_Pc ρ b0 as cy D sz h vs) := by
  intro a U g mk q
  obtain ⟨q0, q1, qP, qK, qD, qN⟩ := q
  exact ⟨q0, q1, qP, va_K.moved (u := U) (U := U.calling g mk a) (Vm.Alike.refl U.vm) qK, qD, zi_Nst.same (u := U) (U := U.calling g mk a) rfl qN⟩
theorem zi_pre {h : zi_Hp} {vs : List Value} (hP : va_P D vwCl (zi_w ρ b0 as cy h) H) (hK : va_K D vwCl (zi_tys cy) s) (hD : va_D A (zi_w ρ b0 as cy h)) (hN : zi_Nst s) :
    ∀ U : State, U.heap = H → s.WarmedH U.vm → zi_Pc ρ b0 as cy D H.size h vs (vs.map (zi_cv ρ b0 as)).toArray U := fun U hU hW =>
  ⟨rfl, by rw [hU], by rw [hU]; exact hP, va_K.moved hW.alike hK, hD.weaken (fun _ _ _ _ => trivial), hN.warm hW⟩
end ZB
theorem zi_ask_st {ρ : Nat → Int32} {b0 : Nat} {as : List Nat} {i : Instr} {st : List Value} {k : UInt32} {f : Int32 → List Value} (h : zi_ask i st = some (k, f)) : (f (ρ k.toNat)).map (zi_cv ρ b0 as) = st.map (zi_cv ρ b0 as) := by
  unfold zi_ask at h
  split at h
  all_goals first
    | cases h; done
    | (split at h
       · cases h; rfl
       · cases h)
theorem zi_cpyl {l0 l1 : List Value} {sp dp n : Nat} (h4 : sp + n ≤ l0.length) (h5 : dp + n ≤ l1.length) : (l1.take dp ++ ((l0.drop sp).take n ++ l1.drop (dp + n))).length = l1.length := by
  simp only [List.length_append, List.length_take, List.length_drop]
  omega
theorem zi_cpyf {ρ : Nat → Int32} {l0 l1 : List Value} {sp dp n : Nat} (h4 : sp + n ≤ l0.length) (h5 : dp + n ≤ l1.length) : (fun i => zi_iv ρ ((l1.take dp ++ ((l0.drop sp).take n ++ l1.drop (dp + n))).getD i (.int 0))) = va_cpy (fun i => zi_iv ρ (l0.getD i (.int 0))) (fun i => zi_iv ρ (l1.getD i (.int 0))) sp dp n := by
  funext i
  unfold va_cpy
  have e1 : (l1.take dp).length = dp := by rw [List.length_take]; omega
  have e2 : ((l0.drop sp).take n).length = n := by rw [List.length_take, List.length_drop]; omega
  simp only [List.getD_eq_getElem?_getD]
  by_cases c1 : i < dp
  · rw [if_neg (by omega), List.getElem?_append_left (by omega), List.getElem?_take, if_pos c1]
  · by_cases c2 : i < dp + n
    · rw [if_pos ⟨by omega, c2⟩, List.getElem?_append_right (by omega), List.getElem?_append_left (by omega), List.getElem?_take, if_pos (by omega), List.getElem?_drop, e1]
    · rw [if_neg (by omega), List.getElem?_append_right (by omega), List.getElem?_append_right (by omega), List.getElem?_drop, e1, e2]
      congr 3
      omega
theorem zi_lc_call {ρ : Nat → Int32} {b0 : Nat} {as qs : List Nat} {h : zi_Hp} {L : zi_Lc} {st : List Value} {mc : Nat} (c : mc = 0 ∨ (zi_wfc h.length L = true ∧ zi_wfl h.length st = true)) (hln : as.length = h.length) (hq : qs.length ≤ mc) : zi_lc ρ b0 (as ++ qs) L = zi_lc ρ b0 as L := by
  rcases c with rfl | c
  · rw [List.eq_nil_of_length_eq_zero (Nat.le_zero.mp hq), List.append_nil]
  · rw [← hln] at c
    exact zi_lc_grow c.1
theorem zi_cvl_call {ρ : Nat → Int32} {b0 : Nat} {as qs : List Nat} {h : zi_Hp} {L : zi_Lc} {st : List Value} {mc : Nat} (c : mc = 0 ∨ (zi_wfc h.length L = true ∧ zi_wfl h.length st = true)) (hln : as.length = h.length) (hq : qs.length ≤ mc) : st.map (zi_cv ρ b0 (as ++ qs)) = st.map (zi_cv ρ b0 as) := by
  rcases c with rfl | c
  · rw [List.eq_nil_of_length_eq_zero (Nat.le_zero.mp hq), List.append_nil]
  · rw [← hln] at c
    exact zi_cvl_grow c.2
end
section
section ZA
variable {p : Program} {l : Launch} {e : Env} {R : Room} {s : State} {m : MethodId} {args : Array Value} {below : List Frame} {meth : Method} {c : Code} {Q : State → Prop}
variable {cc : ByteArray} {D : va_G} {A : Nat → Prop} {ρ : Nat → Int32} {b0 : Nat} {as0 : List Nat} {cy : Nat → ClassId} {own : String} {ini : Bool} {ms : List zi_Me} {scr : Option (List Value)} {nL mc mS dp : Nat} {ret : Option FieldType} {code0 : List zi_Row}
variable {call : Nat → List Value → zi_Hp → zi_Dm → Option (List zi_Out)} {OUT : List zi_Out}
set_option maxHeartbeats 8000000 in
theorem zi_go_sound
    (hx : p.tables.exec = Jvm.exec) (hb : c.code = cc) (hml : c.maxLocals = nL) (hown : s.vm.findClass own = some m.cls) (hts : ∀ w ∈ zi_Ts, w.before args s = true) (hcl : ∀ a q, vwCl[a]? = some q → zi_cok a q) (hini : ini = true → meth.name = "<init>")
    (hX : ∀ sl, scr = some sl → va_X b0 sl.length (fun j => zi_iv ρ (sl.getD j (.int 0))) s s.heap ∧ b0 < s.heap.size ∧ ¬ A b0)
    (hN : zi_Nst s) (hAI : Cond.arrayClass .int ∈ zi_Ts) (hAZ : Cond.arrayClass .boolean ∈ zi_Ts) (hoI : Cond.instanceMethod objectInit ∈ zi_Ts) (hoC : Cond.code objectInit ⟨#[0xb1]⟩ 1 none ∈ zi_Ts) (hcN : Cond.native arraycopyName ∈ zi_Ts) (hcS : Cond.static arraycopyName ∈ zi_Ts) (hcI : Cond.initialized "java/lang/System" ∈ zi_Ts)
    (hK : va_K D vwCl (zi_tys cy) s) (hA : ∀ q, s.heap.size ≤ q → A q)
    (hRf : dp + 1 ≤ R.frames) (hRl : 40 * (dp + 1) ≤ R.locals) (hRc : mc ≤ R.cells) (hRs : mS ≤ R.slots)
    (hcode : ∀ r ∈ code0, decode cc r.1 = .ok (r.2.1, r.2.2.1) ∧ zi_lok r = true ∧ zi_ok own ini ms r = true)
    (hms : zi_mOk ms) (hcall : zi_callOk l ms call dp)
    (hleaf : ∀ (pc : Nat) (ls : Array Slot) (st : List Value) (o : zi_Out) (H : Heap) (locs : List Loc) (kc ks : Nat) (as : List Nat), o ∈ OUT → zi_rho ρ o.1 → (∃ qs, as = as0 ++ qs ∧ qs.length ≤ kc) → as.length = o.2.2.length → kc ≤ mc → ks ≤ mS →
      va_P D vwCl (zi_w ρ b0 as cy o.2.2) H → va_D A (zi_w ρ b0 as cy o.2.2) → va_S A s.heap H locs →
      ((decode cc pc = .ok (.ireturn, 1) ∧ ∃ v, o.2.1 = some v ∧ zi_retOk ret v = true ∧ st = [v]) ∨ (decode cc pc = .ok (.areturn, 1) ∧ ∃ x, o.2.1 = some (.ref x) ∧ zi_retA ret = true ∧ st = [.ref x]) ∨ (decode cc pc = .ok (.return_, 1) ∧ o.2.1 = none ∧ ret = none ∧ st = [])) →
      W p l e R s m args below meth c H locs kc ks Q (F0 m pc ls (st.map (zi_cv ρ b0 as)))) :
    ∀ (n pc : Nat) (L : zi_Lc) (st : List Value) (h : zi_Hp) (d : zi_Dm) (kc ks : Nat) (os : List zi_Out), zi_go ms scr nL ret code0 mc mS call n pc L st h d kc ks = some os → (∀ o ∈ os, o ∈ OUT) → zi_rho ρ d → kc ≤ mc → ks ≤ mS →
      ∀ (as : List Nat) (H : Heap) (locs : List Loc) (ls : Array Slot), (∃ qs, as = as0 ++ qs ∧ qs.length ≤ kc) → as.length = h.length → lv_has ls nL (zi_lc ρ b0 as L) → va_P D vwCl (zi_w ρ b0 as cy h) H → va_D A (zi_w ρ b0 as cy h) → va_S A s.heap H locs →
      W p l e R s m args below meth c H locs kc ks Q (F0 m pc ls (st.map (zi_cv ρ b0 as))) := by
  intro n
  induction n with
  | zero =>
    intro pc L st h d kc ks os hgo
    simp only [zi_go] at hgo
    cases hgo
  | succ n ih =>
    intro pc L st h d kc ks os hgo hos hrho hkc hks as H locs ls has hln hl hP hD hS
    unfold zi_go at hgo
    split at hgo
    · cases hgo
    rename_i r hfind
    have hrm : r ∈ code0 := List.mem_of_find?_eq_some hfind
    have hpc : r.1 = pc := by simpa using List.find?_some hfind
    obtain ⟨hdg, hlen, hok⟩ := hcode r hrm
    subst hpc
    split at hgo
    · -- an unknown index
      rename_i k f hask
      split at hgo
      · cases hgo
      rename_i dl hdl
      split at hgo
      · have hm := hrho.1 _ _ hdl
        obtain ⟨o, h1, h2⟩ := zi_bind_some hgo _ (zi_vals_mem hm)
        have h3 := ih _ _ _ _ _ _ _ _ h1 (fun y hy => hos y (h2 y hy)) (zi_rho_set hrho ⟨_, List.mem_singleton.mpr rfl, Int.le_refl _, Int.le_refl _⟩) hkc hks as H locs ls has hln hl hP hD hS
        rw [Int32.ofInt_toInt, zi_ask_st hask] at h3
        exact h3
      · cases hgo
    rename_i hask
    split at hgo
    · -- ireturn
      rename_i hi
      have hdg' : decode cc r.1 = .ok (.ireturn, 1) := by
        have e1 : r.2.2.1 = 1 := by
          have h := hlen
          unfold zi_lok at h
          rw [hi] at h
          exact of_decide_eq_true h
        rw [hdg, hi, e1]
      split at hgo
      · rename_i v
        split at hgo
        · rename_i hr
          cases hgo
          exact hleaf _ ls [v] _ H locs kc ks as (hos _ (List.mem_singleton.mpr rfl)) hrho has hln hkc hks hP hD hS (Or.inl ⟨hdg', v, rfl, hr, rfl⟩)
        · cases hgo
      · cases hgo
    · -- areturn
      rename_i hi
      have hdg' : decode cc r.1 = .ok (.areturn, 1) := by
        have e1 : r.2.2.1 = 1 := by
          have h := hlen
          unfold zi_lok at h
          rw [hi] at h
          exact of_decide_eq_true h
        rw [hdg, hi, e1]
      split at hgo
      · rename_i x
        split at hgo
        · rename_i hr
          cases hgo
          exact hleaf _ ls [.ref x] _ H locs kc ks as (hos _ (List.mem_singleton.mpr rfl)) hrho has hln hkc hks hP hD hS (Or.inr (Or.inl ⟨hdg', x, rfl, hr, rfl⟩))
        · cases hgo
      · cases hgo
    · -- return
      rename_i hi
      have hdg' : decode cc r.1 = .ok (.return_, 1) := by
        have e1 : r.2.2.1 = 1 := by
          have h := hlen
          unfold zi_lok at h
          rw [hi] at h
          exact of_decide_eq_true h
        rw [hdg, hi, e1]
      split at hgo
      · split at hgo
        · rename_i hr
          cases hgo
          exact hleaf _ ls [] _ H locs kc ks as (hos _ (List.mem_singleton.mpr rfl)) hrho has hln hkc hks hP hD hS (Or.inr (Or.inr ⟨hdg', rfl, hr, rfl⟩))
        · cases hgo
      · cases hgo
    · -- goto
      rename_i off hi
      obtain ⟨pc, i, ln, a, b, t, v⟩ := r
      dsimp only at hi hgo hdg hlen hok hask hfind hrm ⊢
      subst hi
      have e1 : ln = 3 := of_decide_eq_true hlen
      subst e1
      have e2 : (pc : Int) + off = (a : Int) := of_decide_eq_true hok
      exact lv_goto hx hb hdg e2 (ih _ _ _ _ _ _ _ _ hgo hos hrho hkc hks as H locs ls has hln hl hP hD hS)
    · -- if
      rename_i cnd off hi
      obtain ⟨pc, i, ln, a, b, t, v⟩ := r
      dsimp only at hi hgo hdg hlen hok hask hfind hrm ⊢
      subst hi
      have e1 : ln = 3 := of_decide_eq_true hlen
      subst e1
      have e2 : (pc : Int) + off = (a : Int) := of_decide_eq_true hok
      split at hgo
      · rename_i x rest
        refine zi_Wif hx hb hdg e2 (fun hc => ?_) (fun hc => ?_)
        · rw [if_pos hc] at hgo
          exact ih _ _ _ _ _ _ _ _ hgo hos hrho hkc hks as H locs ls has hln hl hP hD hS
        · rw [if_neg hc] at hgo
          exact ih _ _ _ _ _ _ _ _ hgo hos hrho hkc hks as H locs ls has hln hl hP hD hS
      · rename_i k rest
        split at hgo
        · cases hgo
        rename_i dl hdl
        have hm := hrho.1 _ _ hdl
        have key : ∀ (q : zi_Iv × Nat), q ∈ [(zi_T cnd 0 dl, a), (zi_T (zi_neg cnd) 0 dl, pc + 3)] → zi_mem (ρ k.toNat).toInt q.1 → W p l e R s m args below meth c H locs kc ks Q (F0 m q.2 ls (rest.map (zi_cv ρ b0 as))) := by
          intro q hq hqm
          obtain ⟨o, h1, h2⟩ := zi_bind_some hgo q hq
          have hne : q.1.isEmpty = false := by
            obtain ⟨y, hy, -⟩ := hqm
            cases hq1 : q.1 with
            | nil => rw [hq1] at hy; cases hy
            | cons _ _ => rfl
          rw [hne] at h1
          exact ih _ _ _ _ _ _ _ _ h1 (fun y hy => hos y (h2 y hy)) (zi_rho_set hrho hqm) hkc hks as H locs ls has hln hl hP hD hS
        refine zi_Wif (x := ρ k.toNat) hx hb hdg e2 (fun hc => ?_) (fun hc => ?_)
        · exact key (_, _) List.mem_cons_self (zi_T_mem hm (zi_lo _) (zi_hi _) (zi_cmp_hold.mp hc))
        · refine key (_, _) (List.mem_cons_of_mem _ List.mem_cons_self) (zi_T_mem hm (zi_lo _) (zi_hi _) ?_)
          rcases zi_hold_neg cnd (ρ k.toNat).toInt 0 with h1 | h1
          · exact absurd (zi_cmp_hold.mpr h1) hc
          · exact h1
      · cases hgo
    · -- if_icmp
      rename_i cnd off hi
      obtain ⟨pc, i, ln, a, b, t, v⟩ := r
      dsimp only at hi hgo hdg hlen hok hask hfind hrm ⊢
      subst hi
      have e1 : ln = 3 := of_decide_eq_true hlen
      subst e1
      have e2 : (pc : Int) + off = (a : Int) := of_decide_eq_true hok
      split at hgo
      · rename_i y x rest
        refine zi_Wicmp hx hb hdg e2 (fun hc => ?_) (fun hc => ?_)
        · rw [if_pos hc] at hgo
          exact ih _ _ _ _ _ _ _ _ hgo hos hrho hkc hks as H locs ls has hln hl hP hD hS
        · rw [if_neg hc] at hgo
          exact ih _ _ _ _ _ _ _ _ hgo hos hrho hkc hks as H locs ls has hln hl hP hD hS
      · rename_i y k rest
        split at hgo
        · cases hgo
        rename_i dl hdl
        have hm := hrho.1 _ _ hdl
        have key : ∀ (q : zi_Iv × Nat), q ∈ [(zi_T cnd y.toInt dl, a), (zi_T (zi_neg cnd) y.toInt dl, pc + 3)] → zi_mem (ρ k.toNat).toInt q.1 → W p l e R s m args below meth c H locs kc ks Q (F0 m q.2 ls (rest.map (zi_cv ρ b0 as))) := by
          intro q hq hqm
          obtain ⟨o, h1, h2⟩ := zi_bind_some hgo q hq
          have hne : q.1.isEmpty = false := by
            obtain ⟨y, hy, -⟩ := hqm
            cases hq1 : q.1 with
            | nil => rw [hq1] at hy; cases hy
            | cons _ _ => rfl
          rw [hne] at h1
          exact ih _ _ _ _ _ _ _ _ h1 (fun y hy => hos y (h2 y hy)) (zi_rho_set hrho hqm) hkc hks as H locs ls has hln hl hP hD hS
        refine zi_Wicmp (x := ρ k.toNat) (y := y) hx hb hdg e2 (fun hc => ?_) (fun hc => ?_)
        · exact key (_, _) List.mem_cons_self (zi_T_mem hm (zi_lo _) (zi_hi _) (zi_cmp_hold.mp hc))
        · refine key (_, _) (List.mem_cons_of_mem _ List.mem_cons_self) (zi_T_mem hm (zi_lo _) (zi_hi _) ?_)
          rcases zi_hold_neg cnd (ρ k.toNat).toInt y.toInt with h1 | h1
          · exact absurd (zi_cmp_hold.mpr h1) hc
          · exact h1
      · rename_i k x rest
        split at hgo
        · cases hgo
        rename_i dl hdl
        have hm := hrho.1 _ _ hdl
        have key : ∀ (q : zi_Iv × Nat), q ∈ [(zi_T (zi_swap cnd) x.toInt dl, a), (zi_T (zi_neg (zi_swap cnd)) x.toInt dl, pc + 3)] → zi_mem (ρ k.toNat).toInt q.1 → W p l e R s m args below meth c H locs kc ks Q (F0 m q.2 ls (rest.map (zi_cv ρ b0 as))) := by
          intro q hq hqm
          obtain ⟨o, h1, h2⟩ := zi_bind_some hgo q hq
          have hne : q.1.isEmpty = false := by
            obtain ⟨y, hy, -⟩ := hqm
            cases hq1 : q.1 with
            | nil => rw [hq1] at hy; cases hy
            | cons _ _ => rfl
          rw [hne] at h1
          exact ih _ _ _ _ _ _ _ _ h1 (fun y hy => hos y (h2 y hy)) (zi_rho_set hrho hqm) hkc hks as H locs ls has hln hl hP hD hS
        refine zi_Wicmp (x := x) (y := ρ k.toNat) hx hb hdg e2 (fun hc => ?_) (fun hc => ?_)
        · exact key (_, _) List.mem_cons_self (zi_T_mem hm (zi_lo _) (zi_hi _) (zi_hold_swap.mpr (zi_cmp_hold.mp hc)))
        · refine key (_, _) (List.mem_cons_of_mem _ List.mem_cons_self) (zi_T_mem hm (zi_lo _) (zi_hi _) ?_)
          rcases zi_hold_neg (zi_swap cnd) (ρ k.toNat).toInt x.toInt with h1 | h1
          · exact absurd (zi_cmp_hold.mpr (zi_hold_swap.mp h1)) hc
          · exact h1
      · cases hgo
    · -- tableswitch
      rename_i dflt lo hi' offs hi
      obtain ⟨pc, i, ln, a, b, t, v⟩ := r
      dsimp only at hi hgo hdg hlen hok hask hfind hrm ⊢
      subst hi
      have e2 : offs.size = (hi' - lo + 1).toNat := of_decide_eq_true hok
      split at hgo
      · rename_i x rest
        split at hgo
        · rename_i hc
          split at hgo
          · rename_i ht
            exact lv_tableOut hx hb hdg hc ht (ih _ _ _ _ _ _ _ _ hgo hos hrho hkc hks as H locs ls has hln hl hP hD hS)
          · cases hgo
        · rename_i hc
          split at hgo
          · rename_i off hoff
            split at hgo
            · rename_i ht
              exact lv_tableIn hx hb hdg (fun q => hc (Or.inl q)) (fun q => hc (Or.inr q)) hoff ht (ih _ _ _ _ _ _ _ _ hgo hos hrho hkc hks as H locs ls has hln hl hP hD hS)
            · cases hgo
          · cases hgo
      · rename_i k rest
        split at hgo
        · cases hgo
        rename_i dl hdl
        have hm := hrho.1 _ _ hdl
        have key : ∀ (q : zi_Iv × Int), q ∈ ((zi_T .lt lo dl, dflt) :: (zi_T .gt hi' dl, dflt) :: (List.range (hi' - lo + 1).toNat).map (fun (j : Nat) => (zi_T .eq (lo + (j : Int)) dl, offs[j]?.getD 0))) → zi_mem (ρ k.toNat).toInt q.1 → ∃ tg : Nat, (pc : Int) + q.2 = (tg : Int) ∧ W p l e R s m args below meth c H locs kc ks Q (F0 m tg ls (rest.map (zi_cv ρ b0 as))) := by
          intro q hq hqm
          obtain ⟨o, h1, h2⟩ := zi_bind_some hgo q hq
          have hne : q.1.isEmpty = false := by
            obtain ⟨y, hy, -⟩ := hqm
            cases hq1 : q.1 with
            | nil => rw [hq1] at hy; cases hy
            | cons _ _ => rfl
          rw [hne] at h1
          simp only [Bool.false_eq_true, if_false] at h1
          split at h1
          · rename_i ht
            exact ⟨_, ht, ih _ _ _ _ _ _ _ _ h1 (fun y hy => hos y (h2 y hy)) (zi_rho_set hrho hqm) hkc hks as H locs ls has hln hl hP hD hS⟩
          · cases h1
        by_cases c1 : (ρ k.toNat).toInt < lo
        · obtain ⟨tg, g1, g2⟩ := key (_, _) List.mem_cons_self (zi_T_mem (c := .lt) hm (zi_lo _) (zi_hi _) c1)
          exact lv_tableOut (x := ρ k.toNat) hx hb hdg (Or.inl c1) g1 g2
        · by_cases c2 : hi' < (ρ k.toNat).toInt
          · obtain ⟨tg, g1, g2⟩ := key (_, _) (List.mem_cons_of_mem _ List.mem_cons_self) (zi_T_mem (c := .gt) hm (zi_lo _) (zi_hi _) c2)
            exact lv_tableOut (x := ρ k.toNat) hx hb hdg (Or.inr c2) g1 g2
          · have hj : ((ρ k.toNat).toInt - lo).toNat < (hi' - lo + 1).toNat := by omega
            obtain ⟨tg, g1, g2⟩ := key (_, _) (List.mem_cons_of_mem _ (List.mem_cons_of_mem _ (List.mem_map.mpr ⟨((ρ k.toNat).toInt - lo).toNat, List.mem_range.mpr hj, rfl⟩))) (zi_T_mem (c := .eq) hm (zi_lo _) (zi_hi _) (show (ρ k.toNat).toInt = lo + (((ρ k.toNat).toInt - lo).toNat : Int) by omega))
            have hs : offs[((ρ k.toNat).toInt - lo).toNat]? = some (offs[((ρ k.toNat).toInt - lo).toNat]?.getD 0) := by
              rw [← e2] at hj
              simp [hj]
            exact lv_tableIn (x := ρ k.toNat) hx hb hdg c1 c2 hs g1 g2
      · cases hgo
    · -- invokespecial
      rename_i j hi
      obtain ⟨pc, i, ln, a, b, t, v⟩ := r
      dsimp only at hi hgo hdg hlen hok hask hfind hrm ⊢
      subst hi
      have e1 : ln = 3 := of_decide_eq_true hlen
      subst e1
      split at hgo
      · rename_i ha
        subst ha
        split at hgo
        · rename_i x rest
          split at hgo
          · rename_i hr4
            have hok : zi_tb t (.methodLink own j objectInit) = true := hok
            have hcs := zi_catsum (rest.map (zi_cv ρ b0 as))
            rw [List.length_map] at hcs
            refine W.objInit (a := as.getD x 0) (rest := rest.map (zi_cv ρ b0 as)) hx hb hown (hts _ (zi_tb_in hok)) (hts _ hoI) (hts _ hoC) rfl (by rw [hml]; exact hl.1) rfl hdg (by omega) (by show 2 * 0 + _ + 12 ≤ _; omega) ?_
            exact ih _ _ _ _ _ _ _ _ hgo hos hrho hkc hks as H locs ls has hln hl hP hD hS
          · cases hgo
        · cases hgo
      · rename_i ha
        split at hgo
        · cases hgo
        rename_i mt hmt
        split at hgo
        · rename_i hc
          obtain ⟨c1, c2, c3, c4, c56⟩ := hc
          split at hgo
          · rename_i x tl hvs
            have key : ∀ os1, call a (.ref (x + 1) :: tl) h d = some os1 → zi_bind os1 (fun o => zi_go ms scr nL ret code0 mc mS call n (pc + 3) L (o.2.1.toList ++ st.drop b) o.2.2 o.1 (kc + mt.2.2.2.2.2.1) (ks + mt.2.2.2.2.2.2)) = some os → W p l e R s m args below meth c H locs kc ks Q (F0 m pc ls (st.map (zi_cv ρ b0 as))) := by
              intro os1 hcl1 hgo
              obtain ⟨m1, m2, m3, m4, m5, -⟩ := hms a mt hmt
              unfold zi_ok at hok
              dsimp only at hok
              rw [if_neg ha, hmt] at hok
              have hst : st = st.take b ++ st.drop b := (List.take_append_drop b st).symm
              have hcs := zi_catsum ((st.drop b).map (zi_cv ρ b0 as))
              rw [List.length_map] at hcs
              have hM := hcall a mt hmt (.ref (x + 1) :: tl) h d os1 hcl1 ρ b0 as cy D H.size hrho hln
              have hblind := zi_blind (ρ := ρ) (b0 := b0) (as := as) (cy := cy) (D := D) (sz := H.size) (h := h) (vs := .ref (x + 1) :: tl)
              have hpre := zi_pre (vs := .ref (x + 1) :: tl) hP hK hD hN
              have hgood := zi_goodM hms hmt
              have hR : (zi_rm mt dp).frames + 1 ≤ R.frames ∧ 8 + (mt.2.2.1 + 11) + (zi_rm mt dp).locals ≤ R.locals := ⟨hRf, by show 8 + (mt.2.2.1 + 11) + 40 * dp ≤ R.locals; omega⟩
              have hvl : (st.take b).reverse.length = b := by simp [c4]
              have htk : st.take b = tl.reverse ++ [.ref (x + 1)] := by
                have := congrArg List.reverse hvs
                simpa using this
              have hstk : (st.map (zi_cv ρ b0 as)) = (tl.map (zi_cv ρ b0 as)).reverse ++ .ref (as.getD x 0) :: (st.drop b).map (zi_cv ρ b0 as) := by
                conv => lhs; rw [hst, htk]
                simp [zi_cv]
              have hnl : (tl.map (zi_cv ρ b0 as)).length = b - 1 := by
                rw [hvs] at hvl
                simp only [List.length_cons] at hvl
                rw [List.length_map]
                omega
              cases hmt2 : zi_mt[a]? with
              | none => rw [hmt2] at hok; cases hok
              | some g =>
                rw [hmt2] at hok
                simp only [Bool.and_eq_true, decide_eq_true_eq] at hok
                obtain ⟨⟨⟨⟨⟨k1, k2⟩, k3⟩, k4⟩, k5⟩, k6⟩ := hok
                have kfin : ∀ (hr : va_Run p l e R s m args below meth c H locs kc ks mt.2.2.2.2.2.1 mt.2.2.2.2.2.2 (F0 m pc ls (st.map (zi_cv ρ b0 as))) ((st.drop b).map (zi_cv ρ b0 as)) (zi_Qc ρ b0 as cy D H.size h mt.2.2.2.2.2.1 os1 ((Value.ref (x + 1) :: tl).map (zi_cv ρ b0 as)).toArray) (va_A (zi_w ρ b0 as cy h) H.size)), W p l e R s m args below meth c H locs kc ks Q (F0 m pc ls (st.map (zi_cv ρ b0 as))) := by
                  intro hr
                  refine zi_Wcall hr hA hD hS (fun o ho ro qs H1 locs1 q1 q2 p1 p2 p3 => ?_)
                  obtain ⟨o1, g1, g2⟩ := zi_bind_some hgo o ho
                  obtain ⟨q0, e0, l0⟩ := has
                  have h3 := ih _ _ _ _ _ _ _ _ g1 (fun y hy => hos y (g2 y hy)) ro c2 c3 (as ++ qs) H1 locs1 ls ⟨q0 ++ qs, by rw [e0, List.append_assoc], by rw [List.length_append]; omega⟩ q2 (by rw [zi_lc_call c56 hln q1]; exact hl) p1 p2 p3
                  rw [List.map_append] at h3
                  rw [zi_cvl_call c56 hln q1] at h3
                  have e9 : (o.2.1.map (zi_cv ρ b0 (as ++ qs))).toList = o.2.1.toList.map (zi_cv ρ b0 (as ++ qs)) := by
                    cases o.2.1 <;> rfl
                  rw [e9]
                  exact h3
                apply kfin
                have hn : mt.2.2.2.1 = none := k5
                have hws : zi_wsM mt = Cond.code mt.1 mt.2.1 mt.2.2.1 none :: zi_Ts := by rw [← hn]
                unfold zi_lk at k1
                split at k1
                · exact va_runI (As := tl.map (zi_cv ρ b0 as)) (b := as.getD x 0) ⟨hx, hb, hml, hown, hts⟩ hM ⟨callB_of (b - 1) hts hgood hws rfl rfl (hts _ m2) (hts _ (zi_tb_in k1)) ⟨m4.1, m4.2, k3⟩ hR, k2, hts _ (zi_tb_in k6)⟩ ⟨hblind, hpre⟩ rfl hnl hl.1 hstk (lv_room (by omega)) hdg ⟨by omega, by omega⟩
                · have k1 := of_decide_eq_true k1
                  exact va_runIN (As := tl.map (zi_cv ρ b0 as)) (b := as.getD x 0) (host := RX5) ⟨hx, hb, hml, hown, hts⟩ hM ⟨va_cnB (b - 1) hts hgood hws rfl rfl (hN.1 _ (List.mem_of_getElem? k1)) (hts _ m2) ⟨m4.1, m4.2, k3⟩ hR, k2, hts _ (zi_tb_in k6)⟩ ⟨hblind, hpre⟩ rfl hnl hl.1 hstk (lv_room (by omega)) hdg ⟨by omega, by omega⟩
            split at hgo
            · cases hgo
            · rename_i o1 hcl1
              exact key [o1] hcl1 (by rw [zi_bind_one]; exact hgo)
            · rename_i os1 hnone hcl1
              exact key os1 (by assumption) hgo
          · cases hgo
        · cases hgo
    · -- lookupswitch
      rename_i dflt ps hi
      obtain ⟨pc, i, ln, a, b, t, v⟩ := r
      dsimp only at hi hgo hdg hlen hok hask hfind hrm ⊢
      subst hi
      split at hgo
      · rename_i x rest
        split at hgo
        · rename_i ht
          exact lv_lookup hx hb hdg hok rfl ht (ih _ _ _ _ _ _ _ _ hgo hos hrho hkc hks as H locs ls has hln hl hP hD hS)
        · cases hgo
      · cases hgo
    · -- invokestatic
      rename_i j hi
      obtain ⟨pc, i, ln, a, b, t, v⟩ := r
      dsimp only at hi hgo hdg hlen hok hask hfind hrm ⊢
      subst hi
      have e1 : ln = 3 := of_decide_eq_true hlen
      subst e1
      split at hgo
      · rename_i ha
        subst ha
        split at hgo
        · rename_i n0 dpp r1 sp r0 rest
          split at hgo
          · rename_i hr4
            split at hgo
            · rename_i h' hcp
              have hok : zi_tb t (.methodLink own j arraycopyName) = true := hok
              have hcs := zi_catsum (rest.map (zi_cv ρ b0 as))
              rw [List.length_map] at hcs
              unfold zi_cpy at hcp
              split at hcp
              · rename_i l0 l1 h0 h1
                split at hcp
                · cases hcp
                · rename_i hc
                  cases hcp
                  have he0 := zi_w_get (ρ := ρ) (b := b0) (as := as) (cy := cy) h0
                  have he1 := zi_w_get (ρ := ρ) (b := b0) (as := as) (cy := cy) h1
                  rw [zi_ce_int] at he0 he1
                  have hnf : nativeFrameWords "java/lang/System" "arraycopy" 5 ≤ 21 := by decide
                  refine va_copyi hx hb (by rw [hml]; exact hl.1.symm) hown (hts _ (zi_tb_in hok)) (hts _ hcN) (hts _ hcS) (hts _ hcI) hK hP hD hS r0 r1 0 0 he0 he1 rfl rfl rfl (fun q => hc (Or.inl q)) (fun q => hc (Or.inr (Or.inl q))) (fun q => hc (Or.inr (Or.inr (Or.inl q)))) (Nat.not_lt.mp fun q => hc (Or.inr (Or.inr (Or.inr (Or.inl q))))) (Nat.not_lt.mp fun q => hc (Or.inr (Or.inr (Or.inr (Or.inr q))))) (fun _ _ => rfl) (by omega) (by show ((rest.map (zi_cv ρ b0 as)).map fun v => v.category).sum + _ ≤ _; omega) hdg (fun H1 locs1 p1 p2 p3 => ?_)
                  have h4 : sp.toNatClampNeg + n0.toNatClampNeg ≤ l0.length := Nat.not_lt.mp fun q => hc (Or.inr (Or.inr (Or.inr (Or.inl q))))
                  have h5 : dpp.toNatClampNeg + n0.toNatClampNeg ≤ l1.length := Nat.not_lt.mp fun q => hc (Or.inr (Or.inr (Or.inr (Or.inr q))))
                  have ew : (zi_w ρ b0 as cy h).set r1 (as.getD r1 0, .inl (cy 7, l1.length, .inl (va_cpy (fun i => zi_iv ρ (l0.getD i (.int 0))) (fun i => zi_iv ρ (l1.getD i (.int 0))) sp.toNatClampNeg dpp.toNatClampNeg n0.toNatClampNeg))) = zi_w ρ b0 as cy (h.set r1 (7, l1.take dpp.toNatClampNeg ++ ((l0.drop sp.toNatClampNeg).take n0.toNatClampNeg ++ l1.drop (dpp.toNatClampNeg + n0.toNatClampNeg)))) := by
                    rw [zi_w_set, zi_ce_int, zi_cpyf h4 h5, zi_cpyl h4 h5]
                  rw [ew] at p1 p2
                  exact ih _ _ _ _ _ _ _ _ hgo hos hrho hkc hks as H1 locs1 ls has (by rw [List.length_set]; exact hln) hl p1 p2 p3
              · cases hcp
            · cases hgo
          · cases hgo
        · cases hgo
      · rename_i ha
        split at hgo
        · cases hgo
        rename_i mt hmt
        split at hgo
        · rename_i hc
          obtain ⟨c1, c2, c3, c4, c56⟩ := hc
          have key : ∀ os1, call a ((st.take b).reverse) h d = some os1 → zi_bind os1 (fun o => zi_go ms scr nL ret code0 mc mS call n (pc + 3) L (o.2.1.toList ++ st.drop b) o.2.2 o.1 (kc + mt.2.2.2.2.2.1) (ks + mt.2.2.2.2.2.2)) = some os → W p l e R s m args below meth c H locs kc ks Q (F0 m pc ls (st.map (zi_cv ρ b0 as))) := by
            intro os1 hcl1 hgo
            obtain ⟨m1, m2, m3, m4, m5, -⟩ := hms a mt hmt
            unfold zi_ok at hok
            dsimp only at hok
            rw [if_neg ha, hmt] at hok
            have hvl : (st.take b).reverse.length = b := by simp [c4]
            have hst : st = st.take b ++ st.drop b := (List.take_append_drop b st).symm
            have hcs := zi_catsum ((st.drop b).map (zi_cv ρ b0 as))
            rw [List.length_map] at hcs
            have hM := hcall a mt hmt ((st.take b).reverse) h d os1 hcl1 ρ b0 as cy D H.size hrho hln
            have hblind := zi_blind (ρ := ρ) (b0 := b0) (as := as) (cy := cy) (D := D) (sz := H.size) (h := h) (vs := (st.take b).reverse)
            have hpre := zi_pre (vs := (st.take b).reverse) hP hK hD hN
            have hgood := zi_goodM hms hmt
            have hR : (zi_rm mt dp).frames + 1 ≤ R.frames ∧ 8 + (mt.2.2.1 + 11) + (zi_rm mt dp).locals ≤ R.locals := ⟨hRf, by show 8 + (mt.2.2.1 + 11) + 40 * dp ≤ R.locals; omega⟩
            have hstk : (st.map (zi_cv ρ b0 as)) = ((st.take b).reverse.map (zi_cv ρ b0 as)).reverse ++ (st.drop b).map (zi_cv ρ b0 as) := by
              conv => lhs; rw [hst]
              rw [List.map_append]
              congr 1
              rw [← List.map_reverse, List.reverse_reverse]
            have hnl : ((st.take b).reverse.map (zi_cv ρ b0 as)).length = b := by rw [List.length_map]; exact hvl
            cases hmt2 : zi_mt[a]? with
            | none => rw [hmt2] at hok; cases hok
            | some g =>
              rw [hmt2] at hok
              simp only [Bool.and_eq_true, decide_eq_true_eq] at hok
              obtain ⟨⟨k1, k3⟩, k6⟩ := hok
              have kfin : ∀ (hr : va_Run p l e R s m args below meth c H locs kc ks mt.2.2.2.2.2.1 mt.2.2.2.2.2.2 (F0 m pc ls (st.map (zi_cv ρ b0 as))) ((st.drop b).map (zi_cv ρ b0 as)) (zi_Qc ρ b0 as cy D H.size h mt.2.2.2.2.2.1 os1 ((st.take b).reverse.map (zi_cv ρ b0 as)).toArray) (va_A (zi_w ρ b0 as cy h) H.size)), W p l e R s m args below meth c H locs kc ks Q (F0 m pc ls (st.map (zi_cv ρ b0 as))) := by
                intro hr
                refine zi_Wcall hr hA hD hS (fun o ho ro qs H1 locs1 q1 q2 p1 p2 p3 => ?_)
                obtain ⟨o1, g1, g2⟩ := zi_bind_some hgo o ho
                obtain ⟨q0, e0, l0⟩ := has
                have h3 := ih _ _ _ _ _ _ _ _ g1 (fun y hy => hos y (g2 y hy)) ro c2 c3 (as ++ qs) H1 locs1 ls ⟨q0 ++ qs, by rw [e0, List.append_assoc], by rw [List.length_append]; omega⟩ q2 (by rw [zi_lc_call c56 hln q1]; exact hl) p1 p2 p3
                rw [List.map_append] at h3
                rw [zi_cvl_call c56 hln q1] at h3
                have e9 : (o.2.1.map (zi_cv ρ b0 (as ++ qs))).toList = o.2.1.toList.map (zi_cv ρ b0 (as ++ qs)) := by
                  cases o.2.1 <;> rfl
                rw [e9]
                exact h3
              apply kfin
              unfold zi_lk at k1
              split at k1
              · exact va_runS (As := (st.take b).reverse.map (zi_cv ρ b0 as)) ⟨hx, hb, hml, hown, hts⟩ hM ⟨callB_of b hts hgood rfl rfl rfl (hts _ m2) (hts _ (zi_tb_in k1)) ⟨m4.1, m4.2, k3⟩ hR, hts _ (zi_tb_in k6)⟩ ⟨hblind, hpre⟩ rfl hnl hl.1 hstk (lv_room (by omega)) hdg ⟨by omega, by omega⟩
              · have k1 := of_decide_eq_true k1
                exact va_runSN (As := (st.take b).reverse.map (zi_cv ρ b0 as)) (host := RX5) ⟨hx, hb, hml, hown, hts⟩ hM ⟨va_cnB b hts hgood rfl rfl rfl (hN.1 _ (List.mem_of_getElem? k1)) (hts _ m2) ⟨m4.1, m4.2, k3⟩ hR, hts _ (zi_tb_in k6), trivial⟩ ⟨hblind, hpre⟩ rfl hnl hl.1 hstk (lv_room (by omega)) hdg ⟨by omega, by omega⟩
          split at hgo
          · cases hgo
          · rename_i o1 hcl1
            exact key [o1] hcl1 (by rw [zi_bind_one]; exact hgo)
          · rename_i os1 hnone hcl1
            exact key os1 (by assumption) hgo
        · cases hgo
    · -- invokevirtual
      rename_i j hi
      obtain ⟨pc, i, ln, a, b, t, v⟩ := r
      dsimp only at hi hgo hdg hlen hok hask hfind hrm ⊢
      subst hi
      have e1 : ln = 3 := of_decide_eq_true hlen
      subst e1
      split at hgo
      · cases hgo
      rename_i mt hmt
      split at hgo
      · rename_i hc
        obtain ⟨c1, c2, c3, c4, c56⟩ := hc
        split at hgo
        · rename_i x tl hvs
          split at hgo
          · rename_i t' fs hxc
            split at hgo
            · rename_i hcx
              have key : ∀ os1, call a (.ref (x + 1) :: tl) h d = some os1 → zi_bind os1 (fun o => zi_go ms scr nL ret code0 mc mS call n (pc + 3) L (o.2.1.toList ++ st.drop b) o.2.2 o.1 (kc + mt.2.2.2.2.2.1) (ks + mt.2.2.2.2.2.2)) = some os → W p l e R s m args below meth c H locs kc ks Q (F0 m pc ls (st.map (zi_cv ρ b0 as))) := by
                intro os1 hcl1 hgo
                obtain ⟨m1, m2, m3, m4, m5, -⟩ := hms a mt hmt
                unfold zi_ok at hok
                dsimp only at hok
                rw [hmt] at hok
                have hst : st = st.take b ++ st.drop b := (List.take_append_drop b st).symm
                have hcs := zi_catsum ((st.drop b).map (zi_cv ρ b0 as))
                rw [List.length_map] at hcs
                have hM := hcall a mt hmt (.ref (x + 1) :: tl) h d os1 hcl1 ρ b0 as cy D H.size hrho hln
                have hblind := zi_blind (ρ := ρ) (b0 := b0) (as := as) (cy := cy) (D := D) (sz := H.size) (h := h) (vs := .ref (x + 1) :: tl)
                have hpre := zi_pre (vs := .ref (x + 1) :: tl) hP hK hD hN
                have hgood := zi_goodM hms hmt
                have hR : (zi_rm mt dp).frames + 1 ≤ R.frames ∧ 8 + (mt.2.2.1 + 11) + (zi_rm mt dp).locals ≤ R.locals := ⟨hRf, by show 8 + (mt.2.2.1 + 11) + 40 * dp ≤ R.locals; omega⟩
                have hvl : (st.take b).reverse.length = b := by simp [c4]
                have htk : st.take b = tl.reverse ++ [.ref (x + 1)] := by
                  have := congrArg List.reverse hvs
                  simpa using this
                have hstk : (st.map (zi_cv ρ b0 as)) = (tl.map (zi_cv ρ b0 as)).reverse ++ .ref (as.getD x 0) :: (st.drop b).map (zi_cv ρ b0 as) := by
                  conv => lhs; rw [hst, htk]
                  simp [zi_cv]
                have hnl : (tl.map (zi_cv ρ b0 as)).length = b - 1 := by
                  rw [hvs] at hvl
                  simp only [List.length_cons] at hvl
                  rw [List.length_map]
                  omega
                cases hmt2 : zi_mt[a]? with
                | none => rw [hmt2] at hok; cases hok
                | some g =>
                  rw [hmt2] at hok
                  simp only [Bool.and_eq_true, decide_eq_true_eq] at hok
                  obtain ⟨⟨⟨⟨⟨⟨k1, k3⟩, k4⟩, k5⟩, k7⟩, k6⟩, k8⟩ := hok
                  split at k5
                  · rename_i q hq
                    have k5 : q.1 = mt.1.cls := of_decide_eq_true k5
                    have e7 : v.toNat = t' := by omega
                    rw [e7] at hq
                    have he := zi_w_get (ρ := ρ) (b := b0) (as := as) (cy := cy) hxc
                    rw [zi_ce_obj hcx.2] at he
                    have hrv := va_recv hK hP hq he
                    rw [k5] at hrv
                    have kfin : ∀ (hr : va_Run p l e R s m args below meth c H locs kc ks mt.2.2.2.2.2.1 mt.2.2.2.2.2.2 (F0 m pc ls (st.map (zi_cv ρ b0 as))) ((st.drop b).map (zi_cv ρ b0 as)) (zi_Qc ρ b0 as cy D H.size h mt.2.2.2.2.2.1 os1 ((Value.ref (x + 1) :: tl).map (zi_cv ρ b0 as)).toArray) (va_A (zi_w ρ b0 as cy h) H.size)), W p l e R s m args below meth c H locs kc ks Q (F0 m pc ls (st.map (zi_cv ρ b0 as))) := by
                      intro hr
                      refine zi_Wcall hr hA hD hS (fun o ho ro qs H1 locs1 q1 q2 p1 p2 p3 => ?_)
                      obtain ⟨o1, g1, g2⟩ := zi_bind_some hgo o ho
                      obtain ⟨q0, e0, l0⟩ := has
                      have h3 := ih _ _ _ _ _ _ _ _ g1 (fun y hy => hos y (g2 y hy)) ro c2 c3 (as ++ qs) H1 locs1 ls ⟨q0 ++ qs, by rw [e0, List.append_assoc], by rw [List.length_append]; omega⟩ q2 (by rw [zi_lc_call c56 hln q1]; exact hl) p1 p2 p3
                      rw [List.map_append] at h3
                      rw [zi_cvl_call c56 hln q1] at h3
                      have e9 : (o.2.1.map (zi_cv ρ b0 (as ++ qs))).toList = o.2.1.toList.map (zi_cv ρ b0 (as ++ qs)) := by
                        cases o.2.1 <;> rfl
                      rw [e9]
                      exact h3
                    apply kfin
                    exact va_runV (As := tl.map (zi_cv ρ b0 as)) (b := as.getD x 0) (C := mt.1.cls) ⟨hx, hb, hml, hown, hts⟩ hM ⟨callB_of (b - 1) hts hgood rfl rfl rfl (hts _ m2) (hts _ (zi_tb_in k1)) ⟨m4.1, m4.2, k3⟩ hR, hts _ (zi_tb_in k6), hts _ (zi_tb_in k8)⟩ ⟨hblind, hrv, hpre⟩ rfl hnl hl.1 hstk (lv_room (by omega)) hdg ⟨by omega, by omega⟩
                  · cases k5
              split at hgo
              · cases hgo
              · rename_i o1 hcl1
                exact key [o1] hcl1 (by rw [zi_bind_one]; exact hgo)
              · rename_i os1 hnone hcl1
                exact key os1 (by assumption) hgo
            · cases hgo
          · cases hgo
        · cases hgo
      · cases hgo
    · -- the rest
      split at hgo
      · rename_i st' h' k1 k2 hnew
        split at hgo
        · rename_i hc
          obtain ⟨c1, c2, c3, c4, c5⟩ := hc
          refine zi_new_sound hx hb hown hts hcl hAI hAZ hN.2.1 hN.2.2.1 hN.2.2.2 hK hA hdg hlen hok hnew (by omega) (by omega) c3 c4 c5 hln hl hP hD hS (fun qs H1 p1 p2 p3 p4 p5 p6 => ?_)
          obtain ⟨q0, e0, l0⟩ := has
          exact ih _ _ _ _ _ _ _ _ hgo hos hrho c1 c2 (as ++ qs) H1 locs ls ⟨q0 ++ qs, by rw [e0, List.append_assoc], by rw [List.length_append]; omega⟩ p5 p4 p1 p2 p3
        · cases hgo
      · split at hgo
        · rename_i L' st' h' hstep
          exact zi_step_sound hx hb hown hts hcl hini hX hK hrho hdg hlen hok hstep hl hP hD hS (fun H1 locs1 ls1 p1 p2 p3 p4 p5 => ih _ _ _ _ _ _ _ _ hgo hos hrho hkc hks as H1 locs1 ls1 has (by rw [p5]; exact hln) p4 p1 p2 p3)
        · cases hgo
end ZA
end
