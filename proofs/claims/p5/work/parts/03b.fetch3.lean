section
set_option maxRecDepth 100000 in
theorem zf_X5_isAfter : zi_F zc_X5_isAfter 0 (.iload_n 0) 1 0 0 0 0 ∧ zi_F zc_X5_isAfter 1 (.iconst 2) 1 0 0 0 0 ∧ zi_F zc_X5_isAfter 2 .irem 1 0 0 0 0 ∧ zi_F zc_X5_isAfter 3 (.iconst 1) 1 0 0 0 0 ∧ zi_F zc_X5_isAfter 4 (.if_icmp .ne 7) 3 11 0 0 0 ∧ zi_F zc_X5_isAfter 7 (.iconst 1) 1 0 0 0 0 ∧ zi_F zc_X5_isAfter 8 (.goto 4) 3 12 0 0 0 ∧ zi_F zc_X5_isAfter 11 (.iconst 0) 1 0 0 0 0 ∧ zi_F zc_X5_isAfter 12 .ireturn 1 0 0 0 0 := zi_fdF (zc := zc_X5_isAfter) (by decide +kernel)
set_option maxRecDepth 100000 in
theorem zf_X5_gatherWithDialogs : zi_F zc_X5_gatherWithDialogs 0 (.iconst 0) 1 0 0 0 0 ∧ zi_F zc_X5_gatherWithDialogs 1 (.istore_n 2) 1 0 0 0 0 ∧ zi_F zc_X5_gatherWithDialogs 2 (.iload_n 2) 1 0 0 0 0 ∧ zi_F zc_X5_gatherWithDialogs 3 (.bipush 10) 2 0 0 0 0 ∧ zi_F zc_X5_gatherWithDialogs 5 (.if_icmp .ge 25) 3 30 0 0 0 ∧ zi_F zc_X5_gatherWithDialogs 8 (.aload_n 0) 1 0 0 0 0 ∧ zi_F zc_X5_gatherWithDialogs 9 (.getfield 38) 3 5 5 287 0 ∧ zi_F zc_X5_gatherWithDialogs 12 (.iload_n 2) 1 0 0 0 0 ∧ zi_F zc_X5_gatherWithDialogs 13 (.iload_n 2) 1 0 0 0 0 ∧ zi_F zc_X5_gatherWithDialogs 14 (.iload_n 1) 1 0 0 0 0 ∧ zi_F zc_X5_gatherWithDialogs 15 (.if_icmp .ne 7) 3 22 0 0 0 ∧ zi_F zc_X5_gatherWithDialogs 18 (.iconst 1) 1 0 0 0 0 ∧ zi_F zc_X5_gatherWithDialogs 19 (.goto 4) 3 23 0 0 0 ∧ zi_F zc_X5_gatherWithDialogs 22 (.iconst 0) 1 0 0 0 0 ∧ zi_F zc_X5_gatherWithDialogs 23 .bastore 1 0 0 0 0 ∧ zi_F zc_X5_gatherWithDialogs 24 (.iinc 2 1) 3 0 0 0 0 ∧ zi_F zc_X5_gatherWithDialogs 27 (.goto (-25)) 3 2 0 0 0 ∧ zi_F zc_X5_gatherWithDialogs 30 (.aload_n 0) 1 0 0 0 0 ∧ zi_F zc_X5_gatherWithDialogs 31 (.invokevirtual 395) 3 158 1 345 5 ∧ zi_F zc_X5_gatherWithDialogs 34 .return_ 1 0 0 0 0 := zi_fdF (zc := zc_X5_gatherWithDialogs) (by decide +kernel)
set_option maxRecDepth 100000 in
theorem zf_X5_gatherDialogs : zi_F zc_X5_gatherDialogs 0 (.iconst 0) 1 0 0 0 0 ∧ zi_F zc_X5_gatherDialogs 1 (.istore_n 1) 1 0 0 0 0 ∧ zi_F zc_X5_gatherDialogs 2 (.iload_n 1) 1 0 0 0 0 ∧ zi_F zc_X5_gatherDialogs 3 (.bipush 10) 2 0 0 0 0 ∧ zi_F zc_X5_gatherDialogs 5 (.if_icmp .ge 71) 3 76 0 0 0 ∧ zi_F zc_X5_gatherDialogs 8 (.iconst 0) 1 0 0 0 0 ∧ zi_F zc_X5_gatherDialogs 9 (.istore_n 2) 1 0 0 0 0 ∧ zi_F zc_X5_gatherDialogs 10 (.iload_n 2) 1 0 0 0 0 ∧ zi_F zc_X5_gatherDialogs 11 (.bipush 10) 2 0 0 0 0 ∧ zi_F zc_X5_gatherDialogs 13 (.if_icmp .ge 57) 3 70 0 0 0 ∧ zi_F zc_X5_gatherDialogs 16 (.aload_n 0) 1 0 0 0 0 ∧ zi_F zc_X5_gatherDialogs 17 (.iload_n 2) 1 0 0 0 0 ∧ zi_F zc_X5_gatherDialogs 18 (.invokevirtual 122) 3 35 2 349 5 ∧ zi_F zc_X5_gatherDialogs 21 (.ifCond .eq 43) 3 64 0 0 0 ∧ zi_F zc_X5_gatherDialogs 24 (.aload_n 0) 1 0 0 0 0 ∧ zi_F zc_X5_gatherDialogs 25 (.aload_n 0) 1 0 0 0 0 ∧ zi_F zc_X5_gatherDialogs 26 (.getfield 11) 3 5 0 282 0 ∧ zi_F zc_X5_gatherDialogs 29 (.iload_n 2) 1 0 0 0 0 ∧ zi_F zc_X5_gatherDialogs 30 .aaload 1 0 0 0 0 ∧ zi_F zc_X5_gatherDialogs 31 (.getfield 255) 3 4 4 216 0 ∧ zi_F zc_X5_gatherDialogs 34 (.invokevirtual 122) 3 35 2 349 5 ∧ zi_F zc_X5_gatherDialogs 37 (.ifCond .eq 27) 3 64 0 0 0 ∧ zi_F zc_X5_gatherDialogs 40 (.aload_n 0) 1 0 0 0 0 ∧ zi_F zc_X5_gatherDialogs 41 (.getfield 38) 3 5 5 287 0 ∧ zi_F zc_X5_gatherDialogs 44 (.aload_n 0) 1 0 0 0 0 ∧ zi_F zc_X5_gatherDialogs 45 (.getfield 11) 3 5 0 282 0 ∧ zi_F zc_X5_gatherDialogs 48 (.iload_n 2) 1 0 0 0 0 ∧ zi_F zc_X5_gatherDialogs 49 .aaload 1 0 0 0 0 ∧ zi_F zc_X5_gatherDialogs 50 (.getfield 255) 3 4 4 216 0 ∧ zi_F zc_X5_gatherDialogs 53 .baload 1 0 0 0 0 ∧ zi_F zc_X5_gatherDialogs 54 (.ifCond .eq 10) 3 64 0 0 0 ∧ zi_F zc_X5_gatherDialogs 57 (.aload_n 0) 1 0 0 0 0 ∧ zi_F zc_X5_gatherDialogs 58 (.getfield 38) 3 5 5 287 0 ∧ zi_F zc_X5_gatherDialogs 61 (.iload_n 2) 1 0 0 0 0 ∧ zi_F zc_X5_gatherDialogs 62 (.iconst 1) 1 0 0 0 0 ∧ zi_F zc_X5_gatherDialogs 63 .bastore 1 0 0 0 0 ∧ zi_F zc_X5_gatherDialogs 64 (.iinc 2 1) 3 0 0 0 0 ∧ zi_F zc_X5_gatherDialogs 67 (.goto (-57)) 3 10 0 0 0 ∧ zi_F zc_X5_gatherDialogs 70 (.iinc 1 1) 3 0 0 0 0 ∧ zi_F zc_X5_gatherDialogs 73 (.goto (-71)) 3 2 0 0 0 ∧ zi_F zc_X5_gatherDialogs 76 .return_ 1 0 0 0 0 := zi_fdF (zc := zc_X5_gatherDialogs) (by decide +kernel)
set_option maxRecDepth 100000 in
theorem zf_X5_groupCanBeWhole : zi_F zc_X5_groupCanBeWhole 0 (.iconst 0) 1 0 0 0 0 ∧ zi_F zc_X5_groupCanBeWhole 1 (.istore_n 2) 1 0 0 0 0 ∧ zi_F zc_X5_groupCanBeWhole 2 (.iload_n 2) 1 0 0 0 0 ∧ zi_F zc_X5_groupCanBeWhole 3 (.bipush 10) 2 0 0 0 0 ∧ zi_F zc_X5_groupCanBeWhole 5 (.if_icmp .ge 53) 3 58 0 0 0 ∧ zi_F zc_X5_groupCanBeWhole 8 (.aload_n 0) 1 0 0 0 0 ∧ zi_F zc_X5_groupCanBeWhole 9 (.getfield 38) 3 5 5 287 0 ∧ zi_F zc_X5_groupCanBeWhole 12 (.iload_n 2) 1 0 0 0 0 ∧ zi_F zc_X5_groupCanBeWhole 13 .baload 1 0 0 0 0 ∧ zi_F zc_X5_groupCanBeWhole 14 (.ifCond .eq 38) 3 52 0 0 0 ∧ zi_F zc_X5_groupCanBeWhole 17 (.aload_n 0) 1 0 0 0 0 ∧ zi_F zc_X5_groupCanBeWhole 18 (.getfield 11) 3 5 0 282 0 ∧ zi_F zc_X5_groupCanBeWhole 21 (.iload_n 2) 1 0 0 0 0 ∧ zi_F zc_X5_groupCanBeWhole 22 .aaload 1 0 0 0 0 ∧ zi_F zc_X5_groupCanBeWhole 23 (.invokevirtual 220) 3 123 1 357 4 ∧ zi_F zc_X5_groupCanBeWhole 26 (.ifCond .eq 26) 3 52 0 0 0 ∧ zi_F zc_X5_groupCanBeWhole 29 (.aload_n 0) 1 0 0 0 0 ∧ zi_F zc_X5_groupCanBeWhole 30 (.getfield 11) 3 5 0 282 0 ∧ zi_F zc_X5_groupCanBeWhole 33 (.iload_n 2) 1 0 0 0 0 ∧ zi_F zc_X5_groupCanBeWhole 34 .aaload 1 0 0 0 0 ∧ zi_F zc_X5_groupCanBeWhole 35 (.aload_n 0) 1 0 0 0 0 ∧ zi_F zc_X5_groupCanBeWhole 36 (.getfield 17) 3 5 1 283 0 ∧ zi_F zc_X5_groupCanBeWhole 39 (.iload_n 1) 1 0 0 0 0 ∧ zi_F zc_X5_groupCanBeWhole 40 .aaload 1 0 0 0 0 ∧ zi_F zc_X5_groupCanBeWhole 41 (.getfield 109) 3 2 0 266 0 ∧ zi_F zc_X5_groupCanBeWhole 44 (.invokevirtual 322) 3 127 2 361 4 ∧ zi_F zc_X5_groupCanBeWhole 47 (.ifCond .ne 5) 3 52 0 0 0 ∧ zi_F zc_X5_groupCanBeWhole 50 (.iconst 0) 1 0 0 0 0 ∧ zi_F zc_X5_groupCanBeWhole 51 .ireturn 1 0 0 0 0 ∧ zi_F zc_X5_groupCanBeWhole 52 (.iinc 2 1) 3 0 0 0 0 ∧ zi_F zc_X5_groupCanBeWhole 55 (.goto (-53)) 3 2 0 0 0 ∧ zi_F zc_X5_groupCanBeWhole 58 (.iconst 1) 1 0 0 0 0 ∧ zi_F zc_X5_groupCanBeWhole 59 .ireturn 1 0 0 0 0 := zi_fdF (zc := zc_X5_groupCanBeWhole) (by decide +kernel)
set_option maxRecDepth 100000 in
theorem zf_X5_sendGroup : zi_F zc_X5_sendGroup 0 (.iconst 0) 1 0 0 0 0 ∧ zi_F zc_X5_sendGroup 1 (.istore_n 2) 1 0 0 0 0 ∧ zi_F zc_X5_sendGroup 2 (.iload_n 2) 1 0 0 0 0 ∧ zi_F zc_X5_sendGroup 3 (.bipush 10) 2 0 0 0 0 ∧ zi_F zc_X5_sendGroup 5 (.if_icmp .ge 37) 3 42 0 0 0 ∧ zi_F zc_X5_sendGroup 8 (.aload_n 0) 1 0 0 0 0 ∧ zi_F zc_X5_sendGroup 9 (.getfield 38) 3 5 5 287 0 ∧ zi_F zc_X5_sendGroup 12 (.iload_n 2) 1 0 0 0 0 ∧ zi_F zc_X5_sendGroup 13 .baload 1 0 0 0 0 ∧ zi_F zc_X5_sendGroup 14 (.ifCond .eq 22) 3 36 0 0 0 ∧ zi_F zc_X5_sendGroup 17 (.aload_n 0) 1 0 0 0 0 ∧ zi_F zc_X5_sendGroup 18 (.getfield 11) 3 5 0 282 0 ∧ zi_F zc_X5_sendGroup 21 (.iload_n 2) 1 0 0 0 0 ∧ zi_F zc_X5_sendGroup 22 .aaload 1 0 0 0 0 ∧ zi_F zc_X5_sendGroup 23 (.iload_n 1) 1 0 0 0 0 ∧ zi_F zc_X5_sendGroup 24 (.aload_n 0) 1 0 0 0 0 ∧ zi_F zc_X5_sendGroup 25 (.getfield 17) 3 5 1 283 0 ∧ zi_F zc_X5_sendGroup 28 (.iload_n 1) 1 0 0 0 0 ∧ zi_F zc_X5_sendGroup 29 .aaload 1 0 0 0 0 ∧ zi_F zc_X5_sendGroup 30 (.getfield 109) 3 2 0 266 0 ∧ zi_F zc_X5_sendGroup 33 (.invokevirtual 325) 3 130 3 433 4 ∧ zi_F zc_X5_sendGroup 36 (.iinc 2 1) 3 0 0 0 0 ∧ zi_F zc_X5_sendGroup 39 (.goto (-37)) 3 2 0 0 0 ∧ zi_F zc_X5_sendGroup 42 .return_ 1 0 0 0 0 := zi_fdF (zc := zc_X5_sendGroup) (by decide +kernel)
set_option maxRecDepth 100000 in
theorem zf_X5_keepAll : zi_F zc_X5_keepAll 0 (.aload_n 0) 1 0 0 0 0 ∧ zi_F zc_X5_keepAll 1 (.getfield 17) 3 5 1 283 0 ∧ zi_F zc_X5_keepAll 4 (.iload_n 1) 1 0 0 0 0 ∧ zi_F zc_X5_keepAll 5 .aaload 1 0 0 0 0 ∧ zi_F zc_X5_keepAll 6 (.getfield 74) 3 2 2 270 0 ∧ zi_F zc_X5_keepAll 9 (.astore_n 2) 1 0 0 0 0 ∧ zi_F zc_X5_keepAll 10 (.aload_n 2) 1 0 0 0 0 ∧ zi_F zc_X5_keepAll 11 (.aload_n 0) 1 0 0 0 0 ∧ zi_F zc_X5_keepAll 12 (.iload_n 1) 1 0 0 0 0 ∧ zi_F zc_X5_keepAll 13 (.invokevirtual 112) 3 135 2 540 5 ∧ zi_F zc_X5_keepAll 16 (.ifCond .le 7) 3 23 0 0 0 ∧ zi_F zc_X5_keepAll 19 (.iconst 1) 1 0 0 0 0 ∧ zi_F zc_X5_keepAll 20 (.goto 4) 3 24 0 0 0 ∧ zi_F zc_X5_keepAll 23 (.iconst 0) 1 0 0 0 0 ∧ zi_F zc_X5_keepAll 24 (.putfield 315) 3 0 3 255 0 ∧ zi_F zc_X5_keepAll 27 (.aload_n 2) 1 0 0 0 0 ∧ zi_F zc_X5_keepAll 28 (.getfield 398) 3 0 0 250 0 ∧ zi_F zc_X5_keepAll 31 (.aload_n 0) 1 0 0 0 0 ∧ zi_F zc_X5_keepAll 32 (.getfield 17) 3 5 1 283 0 ∧ zi_F zc_X5_keepAll 35 (.iload_n 1) 1 0 0 0 0 ∧ zi_F zc_X5_keepAll 36 .aaload 1 0 0 0 0 ∧ zi_F zc_X5_keepAll 37 (.getfield 83) 3 2 1 268 0 ∧ zi_F zc_X5_keepAll 40 (.invokevirtual 102) 3 82 2 453 3 ∧ zi_F zc_X5_keepAll 43 (.iconst 0) 1 0 0 0 0 ∧ zi_F zc_X5_keepAll 44 (.istore_n 3) 1 0 0 0 0 ∧ zi_F zc_X5_keepAll 45 (.iload_n 3) 1 0 0 0 0 ∧ zi_F zc_X5_keepAll 46 (.bipush 10) 2 0 0 0 0 ∧ zi_F zc_X5_keepAll 48 (.if_icmp .ge 33) 3 81 0 0 0 ∧ zi_F zc_X5_keepAll 51 (.aload_n 2) 1 0 0 0 0 ∧ zi_F zc_X5_keepAll 52 (.iload_n 3) 1 0 0 0 0 ∧ zi_F zc_X5_keepAll 53 (.aload_n 0) 1 0 0 0 0 ∧ zi_F zc_X5_keepAll 54 (.getfield 11) 3 5 0 282 0 ∧ zi_F zc_X5_keepAll 57 (.iload_n 3) 1 0 0 0 0 ∧ zi_F zc_X5_keepAll 58 .aaload 1 0 0 0 0 ∧ zi_F zc_X5_keepAll 59 (.iload_n 1) 1 0 0 0 0 ∧ zi_F zc_X5_keepAll 60 (.invokevirtual 316) 3 126 2 481 4 ∧ zi_F zc_X5_keepAll 63 (.aload_n 0) 1 0 0 0 0 ∧ zi_F zc_X5_keepAll 64 (.getfield 11) 3 5 0 282 0 ∧ zi_F zc_X5_keepAll 67 (.iload_n 3) 1 0 0 0 0 ∧ zi_F zc_X5_keepAll 68 .aaload 1 0 0 0 0 ∧ zi_F zc_X5_keepAll 69 (.getfield 223) 3 4 1 210 0 ∧ zi_F zc_X5_keepAll 72 (.invokevirtual 399) 3 75 4 548 0 ∧ zi_F zc_X5_keepAll 75 (.iinc 3 1) 3 0 0 0 0 ∧ zi_F zc_X5_keepAll 78 (.goto (-33)) 3 45 0 0 0 ∧ zi_F zc_X5_keepAll 81 .return_ 1 0 0 0 0 := zi_fdF (zc := zc_X5_keepAll) (by decide +kernel)
set_option maxRecDepth 100000 in
theorem zf_X5_forgetKeptWith : zi_F zc_X5_forgetKeptWith 0 (.iconst 0) 1 0 0 0 0 ∧ zi_F zc_X5_forgetKeptWith 1 (.istore_n 2) 1 0 0 0 0 ∧ zi_F zc_X5_forgetKeptWith 2 (.iload_n 2) 1 0 0 0 0 ∧ zi_F zc_X5_forgetKeptWith 3 (.iconst 3) 1 0 0 0 0 ∧ zi_F zc_X5_forgetKeptWith 4 (.if_icmp .ge 37) 3 41 0 0 0 ∧ zi_F zc_X5_forgetKeptWith 7 (.aload_n 0) 1 0 0 0 0 ∧ zi_F zc_X5_forgetKeptWith 8 (.getfield 17) 3 5 1 283 0 ∧ zi_F zc_X5_forgetKeptWith 11 (.iload_n 2) 1 0 0 0 0 ∧ zi_F zc_X5_forgetKeptWith 12 .aaload 1 0 0 0 0 ∧ zi_F zc_X5_forgetKeptWith 13 (.getfield 74) 3 2 2 270 0 ∧ zi_F zc_X5_forgetKeptWith 16 (.iload_n 1) 1 0 0 0 0 ∧ zi_F zc_X5_forgetKeptWith 17 (.invokevirtual 403) 3 74 2 337 0 ∧ zi_F zc_X5_forgetKeptWith 20 (.ifCond .eq 15) 3 35 0 0 0 ∧ zi_F zc_X5_forgetKeptWith 23 (.aload_n 0) 1 0 0 0 0 ∧ zi_F zc_X5_forgetKeptWith 24 (.getfield 17) 3 5 1 283 0 ∧ zi_F zc_X5_forgetKeptWith 27 (.iload_n 2) 1 0 0 0 0 ∧ zi_F zc_X5_forgetKeptWith 28 .aaload 1 0 0 0 0 ∧ zi_F zc_X5_forgetKeptWith 29 (.getfield 74) 3 2 2 270 0 ∧ zi_F zc_X5_forgetKeptWith 32 (.invokevirtual 78) 3 47 1 473 0 ∧ zi_F zc_X5_forgetKeptWith 35 (.iinc 2 1) 3 0 0 0 0 ∧ zi_F zc_X5_forgetKeptWith 38 (.goto (-36)) 3 2 0 0 0 ∧ zi_F zc_X5_forgetKeptWith 41 .return_ 1 0 0 0 0 := zi_fdF (zc := zc_X5_forgetKeptWith) (by decide +kernel)
set_option maxRecDepth 100000 in
theorem zf_X5_takeBack : zi_F zc_X5_takeBack 0 (.aload_n 0) 1 0 0 0 0 ∧ zi_F zc_X5_takeBack 1 (.getfield 11) 3 5 0 282 0 ∧ zi_F zc_X5_takeBack 4 (.iload_n 1) 1 0 0 0 0 ∧ zi_F zc_X5_takeBack 5 .aaload 1 0 0 0 0 ∧ zi_F zc_X5_takeBack 6 (.invokevirtual 198) 3 122 1 369 4 ∧ zi_F zc_X5_takeBack 9 (.ifCond .eq 15) 3 24 0 0 0 ∧ zi_F zc_X5_takeBack 12 (.aload_n 0) 1 0 0 0 0 ∧ zi_F zc_X5_takeBack 13 (.iload_n 1) 1 0 0 0 0 ∧ zi_F zc_X5_takeBack 14 (.invokevirtual 176) 3 138 2 373 5 ∧ zi_F zc_X5_takeBack 17 (.iload_n 1) 1 0 0 0 0 ∧ zi_F zc_X5_takeBack 18 (.invokevirtual 211) 3 99 2 377 3 ∧ zi_F zc_X5_takeBack 21 (.goto 41) 3 62 0 0 0 ∧ zi_F zc_X5_takeBack 24 (.aload_n 0) 1 0 0 0 0 ∧ zi_F zc_X5_takeBack 25 (.getfield 11) 3 5 0 282 0 ∧ zi_F zc_X5_takeBack 28 (.iload_n 1) 1 0 0 0 0 ∧ zi_F zc_X5_takeBack 29 .aaload 1 0 0 0 0 ∧ zi_F zc_X5_takeBack 30 (.getfield 223) 3 4 1 210 0 ∧ zi_F zc_X5_takeBack 33 (.iconst 0) 1 0 0 0 0 ∧ zi_F zc_X5_takeBack 34 (.aload_n 2) 1 0 0 0 0 ∧ zi_F zc_X5_takeBack 35 (.getfield 413) 3 0 1 252 0 ∧ zi_F zc_X5_takeBack 38 (.iconst 0) 1 0 0 0 0 ∧ zi_F zc_X5_takeBack 39 .aaload 1 0 0 0 0 ∧ zi_F zc_X5_takeBack 40 (.iload_n 1) 1 0 0 0 0 ∧ zi_F zc_X5_takeBack 41 .iaload 1 0 0 0 0 ∧ zi_F zc_X5_takeBack 42 .iastore 1 0 0 0 0 ∧ zi_F zc_X5_takeBack 43 (.aload_n 0) 1 0 0 0 0 ∧ zi_F zc_X5_takeBack 44 (.getfield 11) 3 5 0 282 0 ∧ zi_F zc_X5_takeBack 47 (.iload_n 1) 1 0 0 0 0 ∧ zi_F zc_X5_takeBack 48 .aaload 1 0 0 0 0 ∧ zi_F zc_X5_takeBack 49 (.getfield 223) 3 4 1 210 0 ∧ zi_F zc_X5_takeBack 52 (.iconst 1) 1 0 0 0 0 ∧ zi_F zc_X5_takeBack 53 (.aload_n 2) 1 0 0 0 0 ∧ zi_F zc_X5_takeBack 54 (.getfield 413) 3 0 1 252 0 ∧ zi_F zc_X5_takeBack 57 (.iconst 1) 1 0 0 0 0 ∧ zi_F zc_X5_takeBack 58 .aaload 1 0 0 0 0 ∧ zi_F zc_X5_takeBack 59 (.iload_n 1) 1 0 0 0 0 ∧ zi_F zc_X5_takeBack 60 .iaload 1 0 0 0 0 ∧ zi_F zc_X5_takeBack 61 .iastore 1 0 0 0 0 ∧ zi_F zc_X5_takeBack 62 .return_ 1 0 0 0 0 := zi_fdF (zc := zc_X5_takeBack) (by decide +kernel)
set_option maxRecDepth 100000 in
theorem zf_X5_forgetKeptWithGroup : zi_F zc_X5_forgetKeptWithGroup 0 (.iconst 0) 1 0 0 0 0 ∧ zi_F zc_X5_forgetKeptWithGroup 1 (.istore_n 1) 1 0 0 0 0 ∧ zi_F zc_X5_forgetKeptWithGroup 2 (.iload_n 1) 1 0 0 0 0 ∧ zi_F zc_X5_forgetKeptWithGroup 3 (.bipush 10) 2 0 0 0 0 ∧ zi_F zc_X5_forgetKeptWithGroup 5 (.if_icmp .ge 23) 3 28 0 0 0 ∧ zi_F zc_X5_forgetKeptWithGroup 8 (.aload_n 0) 1 0 0 0 0 ∧ zi_F zc_X5_forgetKeptWithGroup 9 (.getfield 38) 3 5 5 287 0 ∧ zi_F zc_X5_forgetKeptWithGroup 12 (.iload_n 1) 1 0 0 0 0 ∧ zi_F zc_X5_forgetKeptWithGroup 13 .baload 1 0 0 0 0 ∧ zi_F zc_X5_forgetKeptWithGroup 14 (.ifCond .eq 8) 3 22 0 0 0 ∧ zi_F zc_X5_forgetKeptWithGroup 17 (.aload_n 0) 1 0 0 0 0 ∧ zi_F zc_X5_forgetKeptWithGroup 18 (.iload_n 1) 1 0 0 0 0 ∧ zi_F zc_X5_forgetKeptWithGroup 19 (.invokevirtual 208) 3 162 2 469 5 ∧ zi_F zc_X5_forgetKeptWithGroup 22 (.iinc 1 1) 3 0 0 0 0 ∧ zi_F zc_X5_forgetKeptWithGroup 25 (.goto (-23)) 3 2 0 0 0 ∧ zi_F zc_X5_forgetKeptWithGroup 28 .return_ 1 0 0 0 0 := zi_fdF (zc := zc_X5_forgetKeptWithGroup) (by decide +kernel)
set_option maxRecDepth 100000 in
theorem zf_X6_half : zi_F zc_X6_half 0 (.iload_n 0) 1 0 0 0 0 ∧ zi_F zc_X6_half 1 (.ifCond .ge 17) 3 18 0 0 0 ∧ zi_F zc_X6_half 4 (.iload_n 0) 1 0 0 0 0 ∧ zi_F zc_X6_half 5 (.iconst 2) 1 0 0 0 0 ∧ zi_F zc_X6_half 6 .irem 1 0 0 0 0 ∧ zi_F zc_X6_half 7 (.ifCond .eq 11) 3 18 0 0 0 ∧ zi_F zc_X6_half 10 (.iload_n 0) 1 0 0 0 0 ∧ zi_F zc_X6_half 11 (.iconst 2) 1 0 0 0 0 ∧ zi_F zc_X6_half 12 .idiv 1 0 0 0 0 ∧ zi_F zc_X6_half 13 (.iconst 1) 1 0 0 0 0 ∧ zi_F zc_X6_half 14 .isub 1 0 0 0 0 ∧ zi_F zc_X6_half 15 (.goto 6) 3 21 0 0 0 ∧ zi_F zc_X6_half 18 (.iload_n 0) 1 0 0 0 0 ∧ zi_F zc_X6_half 19 (.iconst 2) 1 0 0 0 0 ∧ zi_F zc_X6_half 20 .idiv 1 0 0 0 0 ∧ zi_F zc_X6_half 21 .ireturn 1 0 0 0 0 := zi_fdF (zc := zc_X6_half) (by decide +kernel)
set_option maxRecDepth 100000 in
theorem zf_X6_nearest : zi_F zc_X6_nearest 0 (.iload_n 0) 1 0 0 0 0 ∧ zi_F zc_X6_nearest 1 (.ifCond .ge 7) 3 8 0 0 0 ∧ zi_F zc_X6_nearest 4 (.iconst 0) 1 0 0 0 0 ∧ zi_F zc_X6_nearest 5 (.goto 13) 3 18 0 0 0 ∧ zi_F zc_X6_nearest 8 (.iload_n 0) 1 0 0 0 0 ∧ zi_F zc_X6_nearest 9 (.iload_n 1) 1 0 0 0 0 ∧ zi_F zc_X6_nearest 10 (.if_icmp .le 7) 3 17 0 0 0 ∧ zi_F zc_X6_nearest 13 (.iload_n 1) 1 0 0 0 0 ∧ zi_F zc_X6_nearest 14 (.goto 4) 3 18 0 0 0 ∧ zi_F zc_X6_nearest 17 (.iload_n 0) 1 0 0 0 0 ∧ zi_F zc_X6_nearest 18 .ireturn 1 0 0 0 0 := zi_fdF (zc := zc_X6_nearest) (by decide +kernel)
set_option maxRecDepth 100000 in
theorem zf_X6_isFloating : zi_F zc_X6_isFloating 0 (.aload_n 0) 1 0 0 0 0 ∧ zi_F zc_X6_isFloating 1 (.getfield 16) 3 6 2 881 0 ∧ zi_F zc_X6_isFloating 4 (.iload_n 1) 1 0 0 0 0 ∧ zi_F zc_X6_isFloating 5 .iaload 1 0 0 0 0 ∧ zi_F zc_X6_isFloating 6 (.iconst 2) 1 0 0 0 0 ∧ zi_F zc_X6_isFloating 7 (.if_icmp .lt 7) 3 14 0 0 0 ∧ zi_F zc_X6_isFloating 10 (.iconst 1) 1 0 0 0 0 ∧ zi_F zc_X6_isFloating 11 (.goto 4) 3 15 0 0 0 ∧ zi_F zc_X6_isFloating 14 (.iconst 0) 1 0 0 0 0 ∧ zi_F zc_X6_isFloating 15 .ireturn 1 0 0 0 0 := zi_fdF (zc := zc_X6_isFloating) (by decide +kernel)
set_option maxRecDepth 100000 in
theorem zf_X6_copyTree : zi_F zc_X6_copyTree 0 (.aload_n 0) 1 0 0 0 0 ∧ zi_F zc_X6_copyTree 1 (.getfield 43) 3 6 13 892 0 ∧ zi_F zc_X6_copyTree 4 (.iload_n 2) 1 0 0 0 0 ∧ zi_F zc_X6_copyTree 5 (.aload_n 0) 1 0 0 0 0 ∧ zi_F zc_X6_copyTree 6 (.getfield 43) 3 6 13 892 0 ∧ zi_F zc_X6_copyTree 9 (.iload_n 1) 1 0 0 0 0 ∧ zi_F zc_X6_copyTree 10 .iaload 1 0 0 0 0 ∧ zi_F zc_X6_copyTree 11 .iastore 1 0 0 0 0 ∧ zi_F zc_X6_copyTree 12 (.iconst 0) 1 0 0 0 0 ∧ zi_F zc_X6_copyTree 13 (.istore_n 3) 1 0 0 0 0 ∧ zi_F zc_X6_copyTree 14 (.iload_n 3) 1 0 0 0 0 ∧ zi_F zc_X6_copyTree 15 (.bipush 24) 2 0 0 0 0 ∧ zi_F zc_X6_copyTree 17 (.if_icmp .ge 149) 3 166 0 0 0 ∧ zi_F zc_X6_copyTree 20 (.iload_n 1) 1 0 0 0 0 ∧ zi_F zc_X6_copyTree 21 (.iload_n 3) 1 0 0 0 0 ∧ zi_F zc_X6_copyTree 22 (.invokestatic 105) 3 70 2 991 0 ∧ zi_F zc_X6_copyTree 25 (.istore 4) 2 0 0 0 0 ∧ zi_F zc_X6_copyTree 27 (.iload_n 2) 1 0 0 0 0 ∧ zi_F zc_X6_copyTree 28 (.iload_n 3) 1 0 0 0 0 ∧ zi_F zc_X6_copyTree 29 (.invokestatic 105) 3 70 2 991 0 ∧ zi_F zc_X6_copyTree 32 (.istore 5) 2 0 0 0 0 ∧ zi_F zc_X6_copyTree 34 (.aload_n 0) 1 0 0 0 0 ∧ zi_F zc_X6_copyTree 35 (.getfield 46) 3 6 14 893 0 ∧ zi_F zc_X6_copyTree 38 (.iload 5) 2 0 0 0 0 ∧ zi_F zc_X6_copyTree 40 (.aload_n 0) 1 0 0 0 0 ∧ zi_F zc_X6_copyTree 41 (.getfield 46) 3 6 14 893 0 ∧ zi_F zc_X6_copyTree 44 (.iload 4) 2 0 0 0 0 ∧ zi_F zc_X6_copyTree 46 .iaload 1 0 0 0 0 ∧ zi_F zc_X6_copyTree 47 .iastore 1 0 0 0 0 ∧ zi_F zc_X6_copyTree 48 (.aload_n 0) 1 0 0 0 0 ∧ zi_F zc_X6_copyTree 49 (.getfield 49) 3 6 15 894 0 ∧ zi_F zc_X6_copyTree 52 (.iload 5) 2 0 0 0 0 ∧ zi_F zc_X6_copyTree 54 (.aload_n 0) 1 0 0 0 0 ∧ zi_F zc_X6_copyTree 55 (.getfield 49) 3 6 15 894 0 ∧ zi_F zc_X6_copyTree 58 (.iload 4) 2 0 0 0 0 ∧ zi_F zc_X6_copyTree 60 .iaload 1 0 0 0 0 ∧ zi_F zc_X6_copyTree 61 .iastore 1 0 0 0 0 ∧ zi_F zc_X6_copyTree 62 (.aload_n 0) 1 0 0 0 0 ∧ zi_F zc_X6_copyTree 63 (.getfield 52) 3 6 16 895 0 ∧ zi_F zc_X6_copyTree 66 (.iload 5) 2 0 0 0 0 ∧ zi_F zc_X6_copyTree 68 (.aload_n 0) 1 0 0 0 0 ∧ zi_F zc_X6_copyTree 69 (.getfield 52) 3 6 16 895 0 ∧ zi_F zc_X6_copyTree 72 (.iload 4) 2 0 0 0 0 ∧ zi_F zc_X6_copyTree 74 .iaload 1 0 0 0 0 ∧ zi_F zc_X6_copyTree 75 .iastore 1 0 0 0 0 ∧ zi_F zc_X6_copyTree 76 (.aload_n 0) 1 0 0 0 0 ∧ zi_F zc_X6_copyTree 77 (.getfield 55) 3 6 17 896 0 ∧ zi_F zc_X6_copyTree 80 (.iload 5) 2 0 0 0 0 ∧ zi_F zc_X6_copyTree 82 (.aload_n 0) 1 0 0 0 0 ∧ zi_F zc_X6_copyTree 83 (.getfield 55) 3 6 17 896 0 ∧ zi_F zc_X6_copyTree 86 (.iload 4) 2 0 0 0 0 ∧ zi_F zc_X6_copyTree 88 .iaload 1 0 0 0 0 ∧ zi_F zc_X6_copyTree 89 .iastore 1 0 0 0 0 ∧ zi_F zc_X6_copyTree 90 (.aload_n 0) 1 0 0 0 0 ∧ zi_F zc_X6_copyTree 91 (.getfield 61) 3 6 19 898 0 ∧ zi_F zc_X6_copyTree 94 (.iload 5) 2 0 0 0 0 ∧ zi_F zc_X6_copyTree 96 (.aload_n 0) 1 0 0 0 0 ∧ zi_F zc_X6_copyTree 97 (.getfield 61) 3 6 19 898 0 ∧ zi_F zc_X6_copyTree 100 (.iload 4) 2 0 0 0 0 ∧ zi_F zc_X6_copyTree 102 .iaload 1 0 0 0 0 ∧ zi_F zc_X6_copyTree 103 .iastore 1 0 0 0 0 ∧ zi_F zc_X6_copyTree 104 (.aload_n 0) 1 0 0 0 0 ∧ zi_F zc_X6_copyTree 105 (.getfield 64) 3 6 20 899 0 ∧ zi_F zc_X6_copyTree 108 (.iload 5) 2 0 0 0 0 ∧ zi_F zc_X6_copyTree 110 (.aload_n 0) 1 0 0 0 0 ∧ zi_F zc_X6_copyTree 111 (.getfield 64) 3 6 20 899 0 ∧ zi_F zc_X6_copyTree 114 (.iload 4) 2 0 0 0 0 ∧ zi_F zc_X6_copyTree 116 .iaload 1 0 0 0 0 ∧ zi_F zc_X6_copyTree 117 .iastore 1 0 0 0 0 ∧ zi_F zc_X6_copyTree 118 (.iconst 0) 1 0 0 0 0 ∧ zi_F zc_X6_copyTree 119 (.istore 6) 2 0 0 0 0 ∧ zi_F zc_X6_copyTree 121 (.iload 6) 2 0 0 0 0 ∧ zi_F zc_X6_copyTree 123 (.bipush 10) 2 0 0 0 0 ∧ zi_F zc_X6_copyTree 125 (.if_icmp .ge 35) 3 160 0 0 0 ∧ zi_F zc_X6_copyTree 128 (.aload_n 0) 1 0 0 0 0 ∧ zi_F zc_X6_copyTree 129 (.getfield 58) 3 6 18 897 0 ∧ zi_F zc_X6_copyTree 132 (.bipush 10) 2 0 0 0 0 ∧ zi_F zc_X6_copyTree 134 (.iload 5) 2 0 0 0 0 ∧ zi_F zc_X6_copyTree 136 .imul 1 0 0 0 0 ∧ zi_F zc_X6_copyTree 137 (.iload 6) 2 0 0 0 0 ∧ zi_F zc_X6_copyTree 139 .iadd 1 0 0 0 0 ∧ zi_F zc_X6_copyTree 140 (.aload_n 0) 1 0 0 0 0 ∧ zi_F zc_X6_copyTree 141 (.getfield 58) 3 6 18 897 0 ∧ zi_F zc_X6_copyTree 144 (.bipush 10) 2 0 0 0 0 ∧ zi_F zc_X6_copyTree 146 (.iload 4) 2 0 0 0 0 ∧ zi_F zc_X6_copyTree 148 .imul 1 0 0 0 0 ∧ zi_F zc_X6_copyTree 149 (.iload 6) 2 0 0 0 0 ∧ zi_F zc_X6_copyTree 151 .iadd 1 0 0 0 0 ∧ zi_F zc_X6_copyTree 152 .iaload 1 0 0 0 0 ∧ zi_F zc_X6_copyTree 153 .iastore 1 0 0 0 0 ∧ zi_F zc_X6_copyTree 154 (.iinc 6 1) 3 0 0 0 0 ∧ zi_F zc_X6_copyTree 157 (.goto (-36)) 3 121 0 0 0 ∧ zi_F zc_X6_copyTree 160 (.iinc 3 1) 3 0 0 0 0 ∧ zi_F zc_X6_copyTree 163 (.goto (-149)) 3 14 0 0 0 ∧ zi_F zc_X6_copyTree 166 .return_ 1 0 0 0 0 := zi_fdF (zc := zc_X6_copyTree) (by decide +kernel)
set_option maxRecDepth 100000 in
theorem zf_X6_newNode : zi_F zc_X6_newNode 0 (.iconst 0) 1 0 0 0 0 ∧ zi_F zc_X6_newNode 1 (.istore_n 3) 1 0 0 0 0 ∧ zi_F zc_X6_newNode 2 (.aload_n 0) 1 0 0 0 0 ∧ zi_F zc_X6_newNode 3 (.getfield 46) 3 6 14 893 0 ∧ zi_F zc_X6_newNode 6 (.iload_n 1) 1 0 0 0 0 ∧ zi_F zc_X6_newNode 7 (.iload_n 3) 1 0 0 0 0 ∧ zi_F zc_X6_newNode 8 (.invokestatic 105) 3 70 2 991 0 ∧ zi_F zc_X6_newNode 11 .iaload 1 0 0 0 0 ∧ zi_F zc_X6_newNode 12 (.ifCond .eq 9) 3 21 0 0 0 ∧ zi_F zc_X6_newNode 15 (.iinc 3 1) 3 0 0 0 0 ∧ zi_F zc_X6_newNode 18 (.goto (-16)) 3 2 0 0 0 ∧ zi_F zc_X6_newNode 21 (.aload_n 0) 1 0 0 0 0 ∧ zi_F zc_X6_newNode 22 (.getfield 46) 3 6 14 893 0 ∧ zi_F zc_X6_newNode 25 (.iload_n 1) 1 0 0 0 0 ∧ zi_F zc_X6_newNode 26 (.iload_n 3) 1 0 0 0 0 ∧ zi_F zc_X6_newNode 27 (.invokestatic 105) 3 70 2 991 0 ∧ zi_F zc_X6_newNode 30 (.iload_n 2) 1 0 0 0 0 ∧ zi_F zc_X6_newNode 31 .iastore 1 0 0 0 0 ∧ zi_F zc_X6_newNode 32 (.aload_n 0) 1 0 0 0 0 ∧ zi_F zc_X6_newNode 33 (.getfield 61) 3 6 19 898 0 ∧ zi_F zc_X6_newNode 36 (.iload_n 1) 1 0 0 0 0 ∧ zi_F zc_X6_newNode 37 (.iload_n 3) 1 0 0 0 0 ∧ zi_F zc_X6_newNode 38 (.invokestatic 105) 3 70 2 991 0 ∧ zi_F zc_X6_newNode 41 (.iconst 0) 1 0 0 0 0 ∧ zi_F zc_X6_newNode 42 .iastore 1 0 0 0 0 ∧ zi_F zc_X6_newNode 43 (.iload_n 3) 1 0 0 0 0 ∧ zi_F zc_X6_newNode 44 .ireturn 1 0 0 0 0 := zi_fdF (zc := zc_X6_newNode) (by decide +kernel)
set_option maxRecDepth 100000 in
theorem zf_X6_newLeaf : zi_F zc_X6_newLeaf 0 (.aload_n 0) 1 0 0 0 0 ∧ zi_F zc_X6_newLeaf 1 (.iload_n 1) 1 0 0 0 0 ∧ zi_F zc_X6_newLeaf 2 (.iconst 1) 1 0 0 0 0 ∧ zi_F zc_X6_newLeaf 3 (.invokevirtual 109) 3 169 3 1074 6 ∧ zi_F zc_X6_newLeaf 6 (.istore_n 3) 1 0 0 0 0 ∧ zi_F zc_X6_newLeaf 7 (.aload_n 0) 1 0 0 0 0 ∧ zi_F zc_X6_newLeaf 8 (.getfield 58) 3 6 18 897 0 ∧ zi_F zc_X6_newLeaf 11 (.bipush 10) 2 0 0 0 0 ∧ zi_F zc_X6_newLeaf 13 (.iload_n 1) 1 0 0 0 0 ∧ zi_F zc_X6_newLeaf 14 (.iload_n 3) 1 0 0 0 0 ∧ zi_F zc_X6_newLeaf 15 (.invokestatic 105) 3 70 2 991 0 ∧ zi_F zc_X6_newLeaf 18 .imul 1 0 0 0 0 ∧ zi_F zc_X6_newLeaf 19 (.iload_n 2) 1 0 0 0 0 ∧ zi_F zc_X6_newLeaf 20 .iastore 1 0 0 0 0 ∧ zi_F zc_X6_newLeaf 21 (.aload_n 0) 1 0 0 0 0 ∧ zi_F zc_X6_newLeaf 22 (.getfield 61) 3 6 19 898 0 ∧ zi_F zc_X6_newLeaf 25 (.iload_n 1) 1 0 0 0 0 ∧ zi_F zc_X6_newLeaf 26 (.iload_n 3) 1 0 0 0 0 ∧ zi_F zc_X6_newLeaf 27 (.invokestatic 105) 3 70 2 991 0 ∧ zi_F zc_X6_newLeaf 30 (.iconst 1) 1 0 0 0 0 ∧ zi_F zc_X6_newLeaf 31 .iastore 1 0 0 0 0 ∧ zi_F zc_X6_newLeaf 32 (.aload_n 0) 1 0 0 0 0 ∧ zi_F zc_X6_newLeaf 33 (.getfield 64) 3 6 20 899 0 ∧ zi_F zc_X6_newLeaf 36 (.iload_n 1) 1 0 0 0 0 ∧ zi_F zc_X6_newLeaf 37 (.iload_n 3) 1 0 0 0 0 ∧ zi_F zc_X6_newLeaf 38 (.invokestatic 105) 3 70 2 991 0 ∧ zi_F zc_X6_newLeaf 41 (.iload_n 2) 1 0 0 0 0 ∧ zi_F zc_X6_newLeaf 42 .iastore 1 0 0 0 0 ∧ zi_F zc_X6_newLeaf 43 (.iload_n 3) 1 0 0 0 0 ∧ zi_F zc_X6_newLeaf 44 .ireturn 1 0 0 0 0 := zi_fdF (zc := zc_X6_newLeaf) (by decide +kernel)
set_option maxRecDepth 100000 in
theorem zf_X6_addTab : zi_F zc_X6_addTab 0 (.aload_n 0) 1 0 0 0 0 ∧ zi_F zc_X6_addTab 1 (.getfield 58) 3 6 18 897 0 ∧ zi_F zc_X6_addTab 4 (.bipush 10) 2 0 0 0 0 ∧ zi_F zc_X6_addTab 6 (.iload_n 1) 1 0 0 0 0 ∧ zi_F zc_X6_addTab 7 (.iload_n 2) 1 0 0 0 0 ∧ zi_F zc_X6_addTab 8 (.invokestatic 105) 3 70 2 991 0 ∧ zi_F zc_X6_addTab 11 .imul 1 0 0 0 0 ∧ zi_F zc_X6_addTab 12 (.aload_n 0) 1 0 0 0 0 ∧ zi_F zc_X6_addTab 13 (.getfield 61) 3 6 19 898 0 ∧ zi_F zc_X6_addTab 16 (.iload_n 1) 1 0 0 0 0 ∧ zi_F zc_X6_addTab 17 (.iload_n 2) 1 0 0 0 0 ∧ zi_F zc_X6_addTab 18 (.invokestatic 105) 3 70 2 991 0 ∧ zi_F zc_X6_addTab 21 .iaload 1 0 0 0 0 ∧ zi_F zc_X6_addTab 22 .iadd 1 0 0 0 0 ∧ zi_F zc_X6_addTab 23 (.iload_n 3) 1 0 0 0 0 ∧ zi_F zc_X6_addTab 24 .iastore 1 0 0 0 0 ∧ zi_F zc_X6_addTab 25 (.aload_n 0) 1 0 0 0 0 ∧ zi_F zc_X6_addTab 26 (.getfield 61) 3 6 19 898 0 ∧ zi_F zc_X6_addTab 29 (.iload_n 1) 1 0 0 0 0 ∧ zi_F zc_X6_addTab 30 (.iload_n 2) 1 0 0 0 0 ∧ zi_F zc_X6_addTab 31 (.invokestatic 105) 3 70 2 991 0 ∧ zi_F zc_X6_addTab 34 .dup2 1 0 0 0 0 ∧ zi_F zc_X6_addTab 35 .iaload 1 0 0 0 0 ∧ zi_F zc_X6_addTab 36 (.iconst 1) 1 0 0 0 0 ∧ zi_F zc_X6_addTab 37 .iadd 1 0 0 0 0 ∧ zi_F zc_X6_addTab 38 .iastore 1 0 0 0 0 ∧ zi_F zc_X6_addTab 39 .return_ 1 0 0 0 0 := zi_fdF (zc := zc_X6_addTab) (by decide +kernel)
set_option maxRecDepth 100000 in
theorem zf_X6_placeOfTab : zi_F zc_X6_placeOfTab 0 (.iconst 0) 1 0 0 0 0 ∧ zi_F zc_X6_placeOfTab 1 (.istore 4) 2 0 0 0 0 ∧ zi_F zc_X6_placeOfTab 3 (.iload 4) 2 0 0 0 0 ∧ zi_F zc_X6_placeOfTab 5 (.aload_n 0) 1 0 0 0 0 ∧ zi_F zc_X6_placeOfTab 6 (.getfield 61) 3 6 19 898 0 ∧ zi_F zc_X6_placeOfTab 9 (.iload_n 1) 1 0 0 0 0 ∧ zi_F zc_X6_placeOfTab 10 (.iload_n 2) 1 0 0 0 0 ∧ zi_F zc_X6_placeOfTab 11 (.invokestatic 105) 3 70 2 991 0 ∧ zi_F zc_X6_placeOfTab 14 .iaload 1 0 0 0 0 ∧ zi_F zc_X6_placeOfTab 15 (.if_icmp .ge 32) 3 47 0 0 0 ∧ zi_F zc_X6_placeOfTab 18 (.aload_n 0) 1 0 0 0 0 ∧ zi_F zc_X6_placeOfTab 19 (.getfield 58) 3 6 18 897 0 ∧ zi_F zc_X6_placeOfTab 22 (.bipush 10) 2 0 0 0 0 ∧ zi_F zc_X6_placeOfTab 24 (.iload_n 1) 1 0 0 0 0 ∧ zi_F zc_X6_placeOfTab 25 (.iload_n 2) 1 0 0 0 0 ∧ zi_F zc_X6_placeOfTab 26 (.invokestatic 105) 3 70 2 991 0 ∧ zi_F zc_X6_placeOfTab 29 .imul 1 0 0 0 0 ∧ zi_F zc_X6_placeOfTab 30 (.iload 4) 2 0 0 0 0 ∧ zi_F zc_X6_placeOfTab 32 .iadd 1 0 0 0 0 ∧ zi_F zc_X6_placeOfTab 33 .iaload 1 0 0 0 0 ∧ zi_F zc_X6_placeOfTab 34 (.iload_n 3) 1 0 0 0 0 ∧ zi_F zc_X6_placeOfTab 35 (.if_icmp .ne 6) 3 41 0 0 0 ∧ zi_F zc_X6_placeOfTab 38 (.iload 4) 2 0 0 0 0 ∧ zi_F zc_X6_placeOfTab 40 .ireturn 1 0 0 0 0 ∧ zi_F zc_X6_placeOfTab 41 (.iinc 4 1) 3 0 0 0 0 ∧ zi_F zc_X6_placeOfTab 44 (.goto (-41)) 3 3 0 0 0 ∧ zi_F zc_X6_placeOfTab 47 (.iconst (-1)) 1 0 0 0 0 ∧ zi_F zc_X6_placeOfTab 48 .ireturn 1 0 0 0 0 := zi_fdF (zc := zc_X6_placeOfTab) (by decide +kernel)
set_option maxRecDepth 100000 in
theorem zf_X6_leafOf : zi_F zc_X6_leafOf 0 (.iconst 0) 1 0 0 0 0 ∧ zi_F zc_X6_leafOf 1 (.istore_n 3) 1 0 0 0 0 ∧ zi_F zc_X6_leafOf 2 (.iload_n 3) 1 0 0 0 0 ∧ zi_F zc_X6_leafOf 3 (.bipush 24) 2 0 0 0 0 ∧ zi_F zc_X6_leafOf 5 (.if_icmp .ge 35) 3 40 0 0 0 ∧ zi_F zc_X6_leafOf 8 (.aload_n 0) 1 0 0 0 0 ∧ zi_F zc_X6_leafOf 9 (.getfield 46) 3 6 14 893 0 ∧ zi_F zc_X6_leafOf 12 (.iload_n 1) 1 0 0 0 0 ∧ zi_F zc_X6_leafOf 13 (.iload_n 3) 1 0 0 0 0 ∧ zi_F zc_X6_leafOf 14 (.invokestatic 105) 3 70 2 991 0 ∧ zi_F zc_X6_leafOf 17 .iaload 1 0 0 0 0 ∧ zi_F zc_X6_leafOf 18 (.iconst 1) 1 0 0 0 0 ∧ zi_F zc_X6_leafOf 19 (.if_icmp .ne 15) 3 34 0 0 0 ∧ zi_F zc_X6_leafOf 22 (.aload_n 0) 1 0 0 0 0 ∧ zi_F zc_X6_leafOf 23 (.iload_n 1) 1 0 0 0 0 ∧ zi_F zc_X6_leafOf 24 (.iload_n 3) 1 0 0 0 0 ∧ zi_F zc_X6_leafOf 25 (.iload_n 2) 1 0 0 0 0 ∧ zi_F zc_X6_leafOf 26 (.invokevirtual 112) 3 172 4 1034 6 ∧ zi_F zc_X6_leafOf 29 (.ifCond .lt 5) 3 34 0 0 0 ∧ zi_F zc_X6_leafOf 32 (.iload_n 3) 1 0 0 0 0 ∧ zi_F zc_X6_leafOf 33 .ireturn 1 0 0 0 0 ∧ zi_F zc_X6_leafOf 34 (.iinc 3 1) 3 0 0 0 0 ∧ zi_F zc_X6_leafOf 37 (.goto (-35)) 3 2 0 0 0 ∧ zi_F zc_X6_leafOf 40 (.iconst (-1)) 1 0 0 0 0 ∧ zi_F zc_X6_leafOf 41 .ireturn 1 0 0 0 0 := zi_fdF (zc := zc_X6_leafOf) (by decide +kernel)
set_option maxRecDepth 100000 in
theorem zf_X6_above : zi_F zc_X6_above 0 (.iconst 0) 1 0 0 0 0 ∧ zi_F zc_X6_above 1 (.istore_n 3) 1 0 0 0 0 ∧ zi_F zc_X6_above 2 (.iload_n 3) 1 0 0 0 0 ∧ zi_F zc_X6_above 3 (.bipush 24) 2 0 0 0 0 ∧ zi_F zc_X6_above 5 (.if_icmp .ge 53) 3 58 0 0 0 ∧ zi_F zc_X6_above 8 (.aload_n 0) 1 0 0 0 0 ∧ zi_F zc_X6_above 9 (.getfield 46) 3 6 14 893 0 ∧ zi_F zc_X6_above 12 (.iload_n 1) 1 0 0 0 0 ∧ zi_F zc_X6_above 13 (.iload_n 3) 1 0 0 0 0 ∧ zi_F zc_X6_above 14 (.invokestatic 105) 3 70 2 991 0 ∧ zi_F zc_X6_above 17 .iaload 1 0 0 0 0 ∧ zi_F zc_X6_above 18 (.iconst 1) 1 0 0 0 0 ∧ zi_F zc_X6_above 19 (.if_icmp .le 33) 3 52 0 0 0 ∧ zi_F zc_X6_above 22 (.aload_n 0) 1 0 0 0 0 ∧ zi_F zc_X6_above 23 (.getfield 49) 3 6 15 894 0 ∧ zi_F zc_X6_above 26 (.iload_n 1) 1 0 0 0 0 ∧ zi_F zc_X6_above 27 (.iload_n 3) 1 0 0 0 0 ∧ zi_F zc_X6_above 28 (.invokestatic 105) 3 70 2 991 0 ∧ zi_F zc_X6_above 31 .iaload 1 0 0 0 0 ∧ zi_F zc_X6_above 32 (.iload_n 2) 1 0 0 0 0 ∧ zi_F zc_X6_above 33 (.if_icmp .eq 17) 3 50 0 0 0 ∧ zi_F zc_X6_above 36 (.aload_n 0) 1 0 0 0 0 ∧ zi_F zc_X6_above 37 (.getfield 52) 3 6 16 895 0 ∧ zi_F zc_X6_above 40 (.iload_n 1) 1 0 0 0 0 ∧ zi_F zc_X6_above 41 (.iload_n 3) 1 0 0 0 0 ∧ zi_F zc_X6_above 42 (.invokestatic 105) 3 70 2 991 0 ∧ zi_F zc_X6_above 45 .iaload 1 0 0 0 0 ∧ zi_F zc_X6_above 46 (.iload_n 2) 1 0 0 0 0 ∧ zi_F zc_X6_above 47 (.if_icmp .ne 5) 3 52 0 0 0 ∧ zi_F zc_X6_above 50 (.iload_n 3) 1 0 0 0 0 ∧ zi_F zc_X6_above 51 .ireturn 1 0 0 0 0 ∧ zi_F zc_X6_above 52 (.iinc 3 1) 3 0 0 0 0 ∧ zi_F zc_X6_above 55 (.goto (-53)) 3 2 0 0 0 ∧ zi_F zc_X6_above 58 (.iconst (-1)) 1 0 0 0 0 ∧ zi_F zc_X6_above 59 .ireturn 1 0 0 0 0 := zi_fdF (zc := zc_X6_above) (by decide +kernel)
set_option maxRecDepth 100000 in
theorem zf_X6_stand : zi_F zc_X6_stand 0 (.iload_n 2) 1 0 0 0 0 ∧ zi_F zc_X6_stand 1 (.ifCond .ge 14) 3 15 0 0 0 ∧ zi_F zc_X6_stand 4 (.aload_n 0) 1 0 0 0 0 ∧ zi_F zc_X6_stand 5 (.getfield 43) 3 6 13 892 0 ∧ zi_F zc_X6_stand 8 (.iload_n 1) 1 0 0 0 0 ∧ zi_F zc_X6_stand 9 (.iload 4) 2 0 0 0 0 ∧ zi_F zc_X6_stand 11 .iastore 1 0 0 0 0 ∧ zi_F zc_X6_stand 12 (.goto 44) 3 56 0 0 0 ∧ zi_F zc_X6_stand 15 (.aload_n 0) 1 0 0 0 0 ∧ zi_F zc_X6_stand 16 (.getfield 49) 3 6 15 894 0 ∧ zi_F zc_X6_stand 19 (.iload_n 1) 1 0 0 0 0 ∧ zi_F zc_X6_stand 20 (.iload_n 2) 1 0 0 0 0 ∧ zi_F zc_X6_stand 21 (.invokestatic 105) 3 70 2 991 0 ∧ zi_F zc_X6_stand 24 .iaload 1 0 0 0 0 ∧ zi_F zc_X6_stand 25 (.iload_n 3) 1 0 0 0 0 ∧ zi_F zc_X6_stand 26 (.if_icmp .ne 18) 3 44 0 0 0 ∧ zi_F zc_X6_stand 29 (.aload_n 0) 1 0 0 0 0 ∧ zi_F zc_X6_stand 30 (.getfield 49) 3 6 15 894 0 ∧ zi_F zc_X6_stand 33 (.iload_n 1) 1 0 0 0 0 ∧ zi_F zc_X6_stand 34 (.iload_n 2) 1 0 0 0 0 ∧ zi_F zc_X6_stand 35 (.invokestatic 105) 3 70 2 991 0 ∧ zi_F zc_X6_stand 38 (.iload 4) 2 0 0 0 0 ∧ zi_F zc_X6_stand 40 .iastore 1 0 0 0 0 ∧ zi_F zc_X6_stand 41 (.goto 15) 3 56 0 0 0 ∧ zi_F zc_X6_stand 44 (.aload_n 0) 1 0 0 0 0 ∧ zi_F zc_X6_stand 45 (.getfield 52) 3 6 16 895 0 ∧ zi_F zc_X6_stand 48 (.iload_n 1) 1 0 0 0 0 ∧ zi_F zc_X6_stand 49 (.iload_n 2) 1 0 0 0 0 ∧ zi_F zc_X6_stand 50 (.invokestatic 105) 3 70 2 991 0 ∧ zi_F zc_X6_stand 53 (.iload 4) 2 0 0 0 0 ∧ zi_F zc_X6_stand 55 .iastore 1 0 0 0 0 ∧ zi_F zc_X6_stand 56 .return_ 1 0 0 0 0 := zi_fdF (zc := zc_X6_stand) (by decide +kernel)
set_option maxRecDepth 100000 in
theorem zf_X6_leave : zi_F zc_X6_leave 0 (.aload_n 0) 1 0 0 0 0 ∧ zi_F zc_X6_leave 1 (.iload_n 1) 1 0 0 0 0 ∧ zi_F zc_X6_leave 2 (.iload_n 2) 1 0 0 0 0 ∧ zi_F zc_X6_leave 3 (.invokevirtual 116) 3 173 3 1030 6 ∧ zi_F zc_X6_leave 6 (.istore_n 3) 1 0 0 0 0 ∧ zi_F zc_X6_leave 7 (.iload_n 1) 1 0 0 0 0 ∧ zi_F zc_X6_leave 8 (.iload_n 3) 1 0 0 0 0 ∧ zi_F zc_X6_leave 9 (.invokestatic 105) 3 70 2 991 0 ∧ zi_F zc_X6_leave 12 (.istore 4) 2 0 0 0 0 ∧ zi_F zc_X6_leave 14 (.aload_n 0) 1 0 0 0 0 ∧ zi_F zc_X6_leave 15 (.iload_n 1) 1 0 0 0 0 ∧ zi_F zc_X6_leave 16 (.iload_n 3) 1 0 0 0 0 ∧ zi_F zc_X6_leave 17 (.iload_n 2) 1 0 0 0 0 ∧ zi_F zc_X6_leave 18 (.invokevirtual 112) 3 172 4 1034 6 ∧ zi_F zc_X6_leave 21 (.istore 5) 2 0 0 0 0 ∧ zi_F zc_X6_leave 23 (.aload_n 0) 1 0 0 0 0 ∧ zi_F zc_X6_leave 24 (.getfield 61) 3 6 19 898 0 ∧ zi_F zc_X6_leave 27 (.iload 4) 2 0 0 0 0 ∧ zi_F zc_X6_leave 29 .dup2 1 0 0 0 0 ∧ zi_F zc_X6_leave 30 .iaload 1 0 0 0 0 ∧ zi_F zc_X6_leave 31 (.iconst 1) 1 0 0 0 0 ∧ zi_F zc_X6_leave 32 .isub 1 0 0 0 0 ∧ zi_F zc_X6_leave 33 .iastore 1 0 0 0 0 ∧ zi_F zc_X6_leave 34 (.iload 5) 2 0 0 0 0 ∧ zi_F zc_X6_leave 36 (.istore 6) 2 0 0 0 0 ∧ zi_F zc_X6_leave 38 (.iload 6) 2 0 0 0 0 ∧ zi_F zc_X6_leave 40 (.aload_n 0) 1 0 0 0 0 ∧ zi_F zc_X6_leave 41 (.getfield 61) 3 6 19 898 0 ∧ zi_F zc_X6_leave 44 (.iload 4) 2 0 0 0 0 ∧ zi_F zc_X6_leave 46 .iaload 1 0 0 0 0 ∧ zi_F zc_X6_leave 47 (.if_icmp .ge 37) 3 84 0 0 0 ∧ zi_F zc_X6_leave 50 (.aload_n 0) 1 0 0 0 0 ∧ zi_F zc_X6_leave 51 (.getfield 58) 3 6 18 897 0 ∧ zi_F zc_X6_leave 54 (.bipush 10) 2 0 0 0 0 ∧ zi_F zc_X6_leave 56 (.iload 4) 2 0 0 0 0 ∧ zi_F zc_X6_leave 58 .imul 1 0 0 0 0 ∧ zi_F zc_X6_leave 59 (.iload 6) 2 0 0 0 0 ∧ zi_F zc_X6_leave 61 .iadd 1 0 0 0 0 ∧ zi_F zc_X6_leave 62 (.aload_n 0) 1 0 0 0 0 ∧ zi_F zc_X6_leave 63 (.getfield 58) 3 6 18 897 0 ∧ zi_F zc_X6_leave 66 (.bipush 10) 2 0 0 0 0 ∧ zi_F zc_X6_leave 68 (.iload 4) 2 0 0 0 0 ∧ zi_F zc_X6_leave 70 .imul 1 0 0 0 0 ∧ zi_F zc_X6_leave 71 (.iload 6) 2 0 0 0 0 ∧ zi_F zc_X6_leave 73 .iadd 1 0 0 0 0 ∧ zi_F zc_X6_leave 74 (.iconst 1) 1 0 0 0 0 ∧ zi_F zc_X6_leave 75 .iadd 1 0 0 0 0 ∧ zi_F zc_X6_leave 76 .iaload 1 0 0 0 0 ∧ zi_F zc_X6_leave 77 .iastore 1 0 0 0 0 ∧ zi_F zc_X6_leave 78 (.iinc 6 1) 3 0 0 0 0 ∧ zi_F zc_X6_leave 81 (.goto (-43)) 3 38 0 0 0 ∧ zi_F zc_X6_leave 84 (.aload_n 0) 1 0 0 0 0 ∧ zi_F zc_X6_leave 85 (.getfield 61) 3 6 19 898 0 ∧ zi_F zc_X6_leave 88 (.iload 4) 2 0 0 0 0 ∧ zi_F zc_X6_leave 90 .iaload 1 0 0 0 0 ∧ zi_F zc_X6_leave 91 (.ifCond .le 73) 3 164 0 0 0 ∧ zi_F zc_X6_leave 94 (.iload 5) 2 0 0 0 0 ∧ zi_F zc_X6_leave 96 (.aload_n 0) 1 0 0 0 0 ∧ zi_F zc_X6_leave 97 (.getfield 61) 3 6 19 898 0 ∧ zi_F zc_X6_leave 100 (.iload 4) 2 0 0 0 0 ∧ zi_F zc_X6_leave 102 .iaload 1 0 0 0 0 ∧ zi_F zc_X6_leave 103 (.if_icmp .ge 8) 3 111 0 0 0 ∧ zi_F zc_X6_leave 106 (.iload 5) 2 0 0 0 0 ∧ zi_F zc_X6_leave 108 (.goto 12) 3 120 0 0 0 ∧ zi_F zc_X6_leave 111 (.aload_n 0) 1 0 0 0 0 ∧ zi_F zc_X6_leave 112 (.getfield 61) 3 6 19 898 0 ∧ zi_F zc_X6_leave 115 (.iload 4) 2 0 0 0 0 ∧ zi_F zc_X6_leave 117 .iaload 1 0 0 0 0 ∧ zi_F zc_X6_leave 118 (.iconst 1) 1 0 0 0 0 ∧ zi_F zc_X6_leave 119 .isub 1 0 0 0 0 ∧ zi_F zc_X6_leave 120 (.istore 6) 2 0 0 0 0 ∧ zi_F zc_X6_leave 122 (.aload_n 0) 1 0 0 0 0 ∧ zi_F zc_X6_leave 123 (.getfield 64) 3 6 20 899 0 ∧ zi_F zc_X6_leave 126 (.iload 4) 2 0 0 0 0 ∧ zi_F zc_X6_leave 128 (.aload_n 0) 1 0 0 0 0 ∧ zi_F zc_X6_leave 129 (.getfield 64) 3 6 20 899 0 ∧ zi_F zc_X6_leave 132 (.iload 4) 2 0 0 0 0 ∧ zi_F zc_X6_leave 134 .iaload 1 0 0 0 0 ∧ zi_F zc_X6_leave 135 (.iload_n 2) 1 0 0 0 0 ∧ zi_F zc_X6_leave 136 (.if_icmp .ne 19) 3 155 0 0 0 ∧ zi_F zc_X6_leave 139 (.aload_n 0) 1 0 0 0 0 ∧ zi_F zc_X6_leave 140 (.getfield 58) 3 6 18 897 0 ∧ zi_F zc_X6_leave 143 (.bipush 10) 2 0 0 0 0 ∧ zi_F zc_X6_leave 145 (.iload 4) 2 0 0 0 0 ∧ zi_F zc_X6_leave 147 .imul 1 0 0 0 0 ∧ zi_F zc_X6_leave 148 (.iload 6) 2 0 0 0 0 ∧ zi_F zc_X6_leave 150 .iadd 1 0 0 0 0 ∧ zi_F zc_X6_leave 151 .iaload 1 0 0 0 0 ∧ zi_F zc_X6_leave 152 (.goto 10) 3 162 0 0 0 ∧ zi_F zc_X6_leave 155 (.aload_n 0) 1 0 0 0 0 ∧ zi_F zc_X6_leave 156 (.getfield 64) 3 6 20 899 0 ∧ zi_F zc_X6_leave 159 (.iload 4) 2 0 0 0 0 ∧ zi_F zc_X6_leave 161 .iaload 1 0 0 0 0 ∧ zi_F zc_X6_leave 162 .iastore 1 0 0 0 0 ∧ zi_F zc_X6_leave 163 .return_ 1 0 0 0 0 ∧ zi_F zc_X6_leave 164 (.aload_n 0) 1 0 0 0 0 ∧ zi_F zc_X6_leave 165 (.iload_n 1) 1 0 0 0 0 ∧ zi_F zc_X6_leave 166 (.iload_n 3) 1 0 0 0 0 ∧ zi_F zc_X6_leave 167 (.invokevirtual 119) 3 174 3 1038 6 ∧ zi_F zc_X6_leave 170 (.istore 6) 2 0 0 0 0 ∧ zi_F zc_X6_leave 172 (.aload_n 0) 1 0 0 0 0 ∧ zi_F zc_X6_leave 173 (.getfield 46) 3 6 14 893 0 ∧ zi_F zc_X6_leave 176 (.iload 4) 2 0 0 0 0 ∧ zi_F zc_X6_leave 178 (.iconst 0) 1 0 0 0 0 ∧ zi_F zc_X6_leave 179 .iastore 1 0 0 0 0 ∧ zi_F zc_X6_leave 180 (.iload 6) 2 0 0 0 0 ∧ zi_F zc_X6_leave 182 (.ifCond .ge 11) 3 193 0 0 0 ∧ zi_F zc_X6_leave 185 (.aload_n 0) 1 0 0 0 0 ∧ zi_F zc_X6_leave 186 (.getfield 43) 3 6 13 892 0 ∧ zi_F zc_X6_leave 189 (.iload_n 1) 1 0 0 0 0 ∧ zi_F zc_X6_leave 190 (.iconst (-1)) 1 0 0 0 0 ∧ zi_F zc_X6_leave 191 .iastore 1 0 0 0 0 ∧ zi_F zc_X6_leave 192 .return_ 1 0 0 0 0 ∧ zi_F zc_X6_leave 193 (.aload_n 0) 1 0 0 0 0 ∧ zi_F zc_X6_leave 194 (.getfield 49) 3 6 15 894 0 ∧ zi_F zc_X6_leave 197 (.iload_n 1) 1 0 0 0 0 ∧ zi_F zc_X6_leave 198 (.iload 6) 2 0 0 0 0 ∧ zi_F zc_X6_leave 200 (.invokestatic 105) 3 70 2 991 0 ∧ zi_F zc_X6_leave 203 .iaload 1 0 0 0 0 ∧ zi_F zc_X6_leave 204 (.iload_n 3) 1 0 0 0 0 ∧ zi_F zc_X6_leave 205 (.if_icmp .ne 17) 3 222 0 0 0 ∧ zi_F zc_X6_leave 208 (.aload_n 0) 1 0 0 0 0 ∧ zi_F zc_X6_leave 209 (.getfield 52) 3 6 16 895 0 ∧ zi_F zc_X6_leave 212 (.iload_n 1) 1 0 0 0 0 ∧ zi_F zc_X6_leave 213 (.iload 6) 2 0 0 0 0 ∧ zi_F zc_X6_leave 215 (.invokestatic 105) 3 70 2 991 0 ∧ zi_F zc_X6_leave 218 .iaload 1 0 0 0 0 ∧ zi_F zc_X6_leave 219 (.goto 14) 3 233 0 0 0 ∧ zi_F zc_X6_leave 222 (.aload_n 0) 1 0 0 0 0 ∧ zi_F zc_X6_leave 223 (.getfield 49) 3 6 15 894 0 ∧ zi_F zc_X6_leave 226 (.iload_n 1) 1 0 0 0 0 ∧ zi_F zc_X6_leave 227 (.iload 6) 2 0 0 0 0 ∧ zi_F zc_X6_leave 229 (.invokestatic 105) 3 70 2 991 0 ∧ zi_F zc_X6_leave 232 .iaload 1 0 0 0 0 ∧ zi_F zc_X6_leave 233 (.istore 7) 2 0 0 0 0 ∧ zi_F zc_X6_leave 235 (.aload_n 0) 1 0 0 0 0 ∧ zi_F zc_X6_leave 236 (.iload_n 1) 1 0 0 0 0 ∧ zi_F zc_X6_leave 237 (.iload 6) 2 0 0 0 0 ∧ zi_F zc_X6_leave 239 (.invokevirtual 119) 3 174 3 1038 6 ∧ zi_F zc_X6_leave 242 (.istore 8) 2 0 0 0 0 ∧ zi_F zc_X6_leave 244 (.aload_n 0) 1 0 0 0 0 ∧ zi_F zc_X6_leave 245 (.getfield 46) 3 6 14 893 0 ∧ zi_F zc_X6_leave 248 (.iload_n 1) 1 0 0 0 0 ∧ zi_F zc_X6_leave 249 (.iload 6) 2 0 0 0 0 ∧ zi_F zc_X6_leave 251 (.invokestatic 105) 3 70 2 991 0 ∧ zi_F zc_X6_leave 254 (.iconst 0) 1 0 0 0 0 ∧ zi_F zc_X6_leave 255 .iastore 1 0 0 0 0 ∧ zi_F zc_X6_leave 256 (.aload_n 0) 1 0 0 0 0 ∧ zi_F zc_X6_leave 257 (.iload_n 1) 1 0 0 0 0 ∧ zi_F zc_X6_leave 258 (.iload 8) 2 0 0 0 0 ∧ zi_F zc_X6_leave 260 (.iload 6) 2 0 0 0 0 ∧ zi_F zc_X6_leave 262 (.iload 7) 2 0 0 0 0 ∧ zi_F zc_X6_leave 264 (.invokevirtual 122) 3 175 5 1042 6 ∧ zi_F zc_X6_leave 267 .return_ 1 0 0 0 0 := zi_fdF (zc := zc_X6_leave) (by decide +kernel)
set_option maxRecDepth 100000 in
theorem zf_X6_cutLeaf : zi_F zc_X6_cutLeaf 0 (.aload_n 0) 1 0 0 0 0 ∧ zi_F zc_X6_cutLeaf 1 (.iload_n 1) 1 0 0 0 0 ∧ zi_F zc_X6_cutLeaf 2 (.iload_n 2) 1 0 0 0 0 ∧ zi_F zc_X6_cutLeaf 3 (.invokevirtual 119) 3 174 3 1038 6 ∧ zi_F zc_X6_cutLeaf 6 (.istore 6) 2 0 0 0 0 ∧ zi_F zc_X6_cutLeaf 8 (.aload_n 0) 1 0 0 0 0 ∧ zi_F zc_X6_cutLeaf 9 (.iload_n 1) 1 0 0 0 0 ∧ zi_F zc_X6_cutLeaf 10 (.iload 4) 2 0 0 0 0 ∧ zi_F zc_X6_cutLeaf 12 (.invokevirtual 126) 3 170 3 1070 6 ∧ zi_F zc_X6_cutLeaf 15 (.istore 7) 2 0 0 0 0 ∧ zi_F zc_X6_cutLeaf 17 (.aload_n 0) 1 0 0 0 0 ∧ zi_F zc_X6_cutLeaf 18 (.iload_n 1) 1 0 0 0 0 ∧ zi_F zc_X6_cutLeaf 19 (.iload_n 3) 1 0 0 0 0 ∧ zi_F zc_X6_cutLeaf 20 (.invokevirtual 109) 3 169 3 1074 6 ∧ zi_F zc_X6_cutLeaf 23 (.istore 8) 2 0 0 0 0 ∧ zi_F zc_X6_cutLeaf 25 (.aload_n 0) 1 0 0 0 0 ∧ zi_F zc_X6_cutLeaf 26 (.getfield 49) 3 6 15 894 0 ∧ zi_F zc_X6_cutLeaf 29 (.iload_n 1) 1 0 0 0 0 ∧ zi_F zc_X6_cutLeaf 30 (.iload 8) 2 0 0 0 0 ∧ zi_F zc_X6_cutLeaf 32 (.invokestatic 105) 3 70 2 991 0 ∧ zi_F zc_X6_cutLeaf 35 (.iload 5) 2 0 0 0 0 ∧ zi_F zc_X6_cutLeaf 37 (.ifCond .eq 8) 3 45 0 0 0 ∧ zi_F zc_X6_cutLeaf 40 (.iload 7) 2 0 0 0 0 ∧ zi_F zc_X6_cutLeaf 42 (.goto 4) 3 46 0 0 0 ∧ zi_F zc_X6_cutLeaf 45 (.iload_n 2) 1 0 0 0 0 ∧ zi_F zc_X6_cutLeaf 46 .iastore 1 0 0 0 0 ∧ zi_F zc_X6_cutLeaf 47 (.aload_n 0) 1 0 0 0 0 ∧ zi_F zc_X6_cutLeaf 48 (.getfield 52) 3 6 16 895 0 ∧ zi_F zc_X6_cutLeaf 51 (.iload_n 1) 1 0 0 0 0 ∧ zi_F zc_X6_cutLeaf 52 (.iload 8) 2 0 0 0 0 ∧ zi_F zc_X6_cutLeaf 54 (.invokestatic 105) 3 70 2 991 0 ∧ zi_F zc_X6_cutLeaf 57 (.iload 5) 2 0 0 0 0 ∧ zi_F zc_X6_cutLeaf 59 (.ifCond .eq 7) 3 66 0 0 0 ∧ zi_F zc_X6_cutLeaf 62 (.iload_n 2) 1 0 0 0 0 ∧ zi_F zc_X6_cutLeaf 63 (.goto 5) 3 68 0 0 0 ∧ zi_F zc_X6_cutLeaf 66 (.iload 7) 2 0 0 0 0 ∧ zi_F zc_X6_cutLeaf 68 .iastore 1 0 0 0 0 ∧ zi_F zc_X6_cutLeaf 69 (.aload_n 0) 1 0 0 0 0 ∧ zi_F zc_X6_cutLeaf 70 (.getfield 55) 3 6 17 896 0 ∧ zi_F zc_X6_cutLeaf 73 (.iload_n 1) 1 0 0 0 0 ∧ zi_F zc_X6_cutLeaf 74 (.iload 8) 2 0 0 0 0 ∧ zi_F zc_X6_cutLeaf 76 (.invokestatic 105) 3 70 2 991 0 ∧ zi_F zc_X6_cutLeaf 79 (.bipush 50) 2 0 0 0 0 ∧ zi_F zc_X6_cutLeaf 81 .iastore 1 0 0 0 0 ∧ zi_F zc_X6_cutLeaf 82 (.aload_n 0) 1 0 0 0 0 ∧ zi_F zc_X6_cutLeaf 83 (.iload_n 1) 1 0 0 0 0 ∧ zi_F zc_X6_cutLeaf 84 (.iload 6) 2 0 0 0 0 ∧ zi_F zc_X6_cutLeaf 86 (.iload_n 2) 1 0 0 0 0 ∧ zi_F zc_X6_cutLeaf 87 (.iload 8) 2 0 0 0 0 ∧ zi_F zc_X6_cutLeaf 89 (.invokevirtual 122) 3 175 5 1042 6 ∧ zi_F zc_X6_cutLeaf 92 .return_ 1 0 0 0 0 := zi_fdF (zc := zc_X6_cutLeaf) (by decide +kernel)
set_option maxRecDepth 100000 in
theorem zf_X6_least : zi_F zc_X6_least 0 (.iload_n 1) 1 0 0 0 0 ∧ zi_F zc_X6_least 1 (.iload_n 2) 1 0 0 0 0 ∧ zi_F zc_X6_least 2 (.invokestatic 105) 3 70 2 991 0 ∧ zi_F zc_X6_least 5 (.istore 4) 2 0 0 0 0 ∧ zi_F zc_X6_least 7 (.aload_n 0) 1 0 0 0 0 ∧ zi_F zc_X6_least 8 (.getfield 46) 3 6 14 893 0 ∧ zi_F zc_X6_least 11 (.iload 4) 2 0 0 0 0 ∧ zi_F zc_X6_least 13 .iaload 1 0 0 0 0 ∧ zi_F zc_X6_least 14 (.iconst 1) 1 0 0 0 0 ∧ zi_F zc_X6_least 15 (.if_icmp .ne 91) 3 106 0 0 0 ∧ zi_F zc_X6_least 18 (.iconst 0) 1 0 0 0 0 ∧ zi_F zc_X6_least 19 (.istore 5) 2 0 0 0 0 ∧ zi_F zc_X6_least 21 (.iconst 0) 1 0 0 0 0 ∧ zi_F zc_X6_least 22 (.istore 6) 2 0 0 0 0 ∧ zi_F zc_X6_least 24 (.iload 6) 2 0 0 0 0 ∧ zi_F zc_X6_least 26 (.aload_n 0) 1 0 0 0 0 ∧ zi_F zc_X6_least 27 (.getfield 61) 3 6 19 898 0 ∧ zi_F zc_X6_least 30 (.iload 4) 2 0 0 0 0 ∧ zi_F zc_X6_least 32 .iaload 1 0 0 0 0 ∧ zi_F zc_X6_least 33 (.if_icmp .ge 70) 3 103 0 0 0 ∧ zi_F zc_X6_least 36 (.iload_n 3) 1 0 0 0 0 ∧ zi_F zc_X6_least 37 (.ifCond .eq 24) 3 61 0 0 0 ∧ zi_F zc_X6_least 40 (.aload_n 0) 1 0 0 0 0 ∧ zi_F zc_X6_least 41 (.getfield 19) 3 6 3 882 0 ∧ zi_F zc_X6_least 44 (.aload_n 0) 1 0 0 0 0 ∧ zi_F zc_X6_least 45 (.getfield 58) 3 6 18 897 0 ∧ zi_F zc_X6_least 48 (.bipush 10) 2 0 0 0 0 ∧ zi_F zc_X6_least 50 (.iload 4) 2 0 0 0 0 ∧ zi_F zc_X6_least 52 .imul 1 0 0 0 0 ∧ zi_F zc_X6_least 53 (.iload 6) 2 0 0 0 0 ∧ zi_F zc_X6_least 55 .iadd 1 0 0 0 0 ∧ zi_F zc_X6_least 56 .iaload 1 0 0 0 0 ∧ zi_F zc_X6_least 57 .iaload 1 0 0 0 0 ∧ zi_F zc_X6_least 58 (.goto 21) 3 79 0 0 0 ∧ zi_F zc_X6_least 61 (.aload_n 0) 1 0 0 0 0 ∧ zi_F zc_X6_least 62 (.getfield 22) 3 6 4 883 0 ∧ zi_F zc_X6_least 65 (.aload_n 0) 1 0 0 0 0 ∧ zi_F zc_X6_least 66 (.getfield 58) 3 6 18 897 0 ∧ zi_F zc_X6_least 69 (.bipush 10) 2 0 0 0 0 ∧ zi_F zc_X6_least 71 (.iload 4) 2 0 0 0 0 ∧ zi_F zc_X6_least 73 .imul 1 0 0 0 0 ∧ zi_F zc_X6_least 74 (.iload 6) 2 0 0 0 0 ∧ zi_F zc_X6_least 76 .iadd 1 0 0 0 0 ∧ zi_F zc_X6_least 77 .iaload 1 0 0 0 0 ∧ zi_F zc_X6_least 78 .iaload 1 0 0 0 0 ∧ zi_F zc_X6_least 79 (.istore 7) 2 0 0 0 0 ∧ zi_F zc_X6_least 81 (.iload 7) 2 0 0 0 0 ∧ zi_F zc_X6_least 83 (.iload 5) 2 0 0 0 0 ∧ zi_F zc_X6_least 85 (.if_icmp .le 8) 3 93 0 0 0 ∧ zi_F zc_X6_least 88 (.iload 7) 2 0 0 0 0 ∧ zi_F zc_X6_least 90 (.goto 5) 3 95 0 0 0 ∧ zi_F zc_X6_least 93 (.iload 5) 2 0 0 0 0 ∧ zi_F zc_X6_least 95 (.istore 5) 2 0 0 0 0 ∧ zi_F zc_X6_least 97 (.iinc 6 1) 3 0 0 0 0 ∧ zi_F zc_X6_least 100 (.goto (-76)) 3 24 0 0 0 ∧ zi_F zc_X6_least 103 (.iload 5) 2 0 0 0 0 ∧ zi_F zc_X6_least 105 .ireturn 1 0 0 0 0 ∧ zi_F zc_X6_least 106 (.aload_n 0) 1 0 0 0 0 ∧ zi_F zc_X6_least 107 (.iload_n 1) 1 0 0 0 0 ∧ zi_F zc_X6_least 108 (.aload_n 0) 1 0 0 0 0 ∧ zi_F zc_X6_least 109 (.getfield 49) 3 6 15 894 0 ∧ zi_F zc_X6_least 112 (.iload 4) 2 0 0 0 0 ∧ zi_F zc_X6_least 114 .iaload 1 0 0 0 0 ∧ zi_F zc_X6_least 115 (.iload_n 3) 1 0 0 0 0 ∧ zi_F zc_X6_least 116 (.invokevirtual 129) 3 178 4 1006 6 ∧ zi_F zc_X6_least 119 (.istore 5) 2 0 0 0 0 ∧ zi_F zc_X6_least 121 (.aload_n 0) 1 0 0 0 0 ∧ zi_F zc_X6_least 122 (.iload_n 1) 1 0 0 0 0 ∧ zi_F zc_X6_least 123 (.aload_n 0) 1 0 0 0 0 ∧ zi_F zc_X6_least 124 (.getfield 52) 3 6 16 895 0 ∧ zi_F zc_X6_least 127 (.iload 4) 2 0 0 0 0 ∧ zi_F zc_X6_least 129 .iaload 1 0 0 0 0 ∧ zi_F zc_X6_least 130 (.iload_n 3) 1 0 0 0 0 ∧ zi_F zc_X6_least 131 (.invokevirtual 129) 3 178 4 1006 6 ∧ zi_F zc_X6_least 134 (.istore 6) 2 0 0 0 0 ∧ zi_F zc_X6_least 136 (.aload_n 0) 1 0 0 0 0 ∧ zi_F zc_X6_least 137 (.getfield 46) 3 6 14 893 0 ∧ zi_F zc_X6_least 140 (.iload 4) 2 0 0 0 0 ∧ zi_F zc_X6_least 142 .iaload 1 0 0 0 0 ∧ zi_F zc_X6_least 143 (.iconst 2) 1 0 0 0 0 ∧ zi_F zc_X6_least 144 (.if_icmp .ne 7) 3 151 0 0 0 ∧ zi_F zc_X6_least 147 (.iconst 1) 1 0 0 0 0 ∧ zi_F zc_X6_least 148 (.goto 4) 3 152 0 0 0 ∧ zi_F zc_X6_least 151 (.iconst 0) 1 0 0 0 0 ∧ zi_F zc_X6_least 152 (.iload_n 3) 1 0 0 0 0 ∧ zi_F zc_X6_least 153 (.if_icmp .ne 11) 3 164 0 0 0 ∧ zi_F zc_X6_least 156 (.iload 5) 2 0 0 0 0 ∧ zi_F zc_X6_least 158 (.iload 6) 2 0 0 0 0 ∧ zi_F zc_X6_least 160 .iadd 1 0 0 0 0 ∧ zi_F zc_X6_least 161 (.goto 17) 3 178 0 0 0 ∧ zi_F zc_X6_least 164 (.iload 5) 2 0 0 0 0 ∧ zi_F zc_X6_least 166 (.iload 6) 2 0 0 0 0 ∧ zi_F zc_X6_least 168 (.if_icmp .le 8) 3 176 0 0 0 ∧ zi_F zc_X6_least 171 (.iload 5) 2 0 0 0 0 ∧ zi_F zc_X6_least 173 (.goto 5) 3 178 0 0 0 ∧ zi_F zc_X6_least 176 (.iload 6) 2 0 0 0 0 ∧ zi_F zc_X6_least 178 .ireturn 1 0 0 0 0 := zi_fdF (zc := zc_X6_least) (by decide +kernel)
set_option maxRecDepth 100000 in
theorem zf_X6_fits : zi_F zc_X6_fits 0 (.aload_n 0) 1 0 0 0 0 ∧ zi_F zc_X6_fits 1 (.getfield 43) 3 6 13 892 0 ∧ zi_F zc_X6_fits 4 (.iload_n 1) 1 0 0 0 0 ∧ zi_F zc_X6_fits 5 .iaload 1 0 0 0 0 ∧ zi_F zc_X6_fits 6 (.ifCond .lt 35) 3 41 0 0 0 ∧ zi_F zc_X6_fits 9 (.aload_n 0) 1 0 0 0 0 ∧ zi_F zc_X6_fits 10 (.iload_n 1) 1 0 0 0 0 ∧ zi_F zc_X6_fits 11 (.aload_n 0) 1 0 0 0 0 ∧ zi_F zc_X6_fits 12 (.getfield 43) 3 6 13 892 0 ∧ zi_F zc_X6_fits 15 (.iload_n 1) 1 0 0 0 0 ∧ zi_F zc_X6_fits 16 .iaload 1 0 0 0 0 ∧ zi_F zc_X6_fits 17 (.iconst 1) 1 0 0 0 0 ∧ zi_F zc_X6_fits 18 (.invokevirtual 129) 3 178 4 1006 6 ∧ zi_F zc_X6_fits 21 (.iload_n 2) 1 0 0 0 0 ∧ zi_F zc_X6_fits 22 (.if_icmp .gt 23) 3 45 0 0 0 ∧ zi_F zc_X6_fits 25 (.aload_n 0) 1 0 0 0 0 ∧ zi_F zc_X6_fits 26 (.iload_n 1) 1 0 0 0 0 ∧ zi_F zc_X6_fits 27 (.aload_n 0) 1 0 0 0 0 ∧ zi_F zc_X6_fits 28 (.getfield 43) 3 6 13 892 0 ∧ zi_F zc_X6_fits 31 (.iload_n 1) 1 0 0 0 0 ∧ zi_F zc_X6_fits 32 .iaload 1 0 0 0 0 ∧ zi_F zc_X6_fits 33 (.iconst 0) 1 0 0 0 0 ∧ zi_F zc_X6_fits 34 (.invokevirtual 129) 3 178 4 1006 6 ∧ zi_F zc_X6_fits 37 (.iload_n 3) 1 0 0 0 0 ∧ zi_F zc_X6_fits 38 (.if_icmp .gt 7) 3 45 0 0 0 ∧ zi_F zc_X6_fits 41 (.iconst 1) 1 0 0 0 0 ∧ zi_F zc_X6_fits 42 (.goto 4) 3 46 0 0 0 ∧ zi_F zc_X6_fits 45 (.iconst 0) 1 0 0 0 0 ∧ zi_F zc_X6_fits 46 .ireturn 1 0 0 0 0 := zi_fdF (zc := zc_X6_fits) (by decide +kernel)
set_option maxRecDepth 100000 in
theorem zf_X6_lay : zi_F zc_X6_lay 0 (.iload_n 1) 1 0 0 0 0 ∧ zi_F zc_X6_lay 1 (.iload_n 2) 1 0 0 0 0 ∧ zi_F zc_X6_lay 2 (.invokestatic 105) 3 70 2 991 0 ∧ zi_F zc_X6_lay 5 (.istore 7) 2 0 0 0 0 ∧ zi_F zc_X6_lay 7 (.aload_n 0) 1 0 0 0 0 ∧ zi_F zc_X6_lay 8 (.getfield 80) 3 6 25 904 0 ∧ zi_F zc_X6_lay 11 (.iload_n 2) 1 0 0 0 0 ∧ zi_F zc_X6_lay 12 (.iload_n 3) 1 0 0 0 0 ∧ zi_F zc_X6_lay 13 .iastore 1 0 0 0 0 ∧ zi_F zc_X6_lay 14 (.aload_n 0) 1 0 0 0 0 ∧ zi_F zc_X6_lay 15 (.getfield 83) 3 6 26 905 0 ∧ zi_F zc_X6_lay 18 (.iload_n 2) 1 0 0 0 0 ∧ zi_F zc_X6_lay 19 (.iload 4) 2 0 0 0 0 ∧ zi_F zc_X6_lay 21 .iastore 1 0 0 0 0 ∧ zi_F zc_X6_lay 22 (.aload_n 0) 1 0 0 0 0 ∧ zi_F zc_X6_lay 23 (.getfield 86) 3 6 27 906 0 ∧ zi_F zc_X6_lay 26 (.iload_n 2) 1 0 0 0 0 ∧ zi_F zc_X6_lay 27 (.iload 5) 2 0 0 0 0 ∧ zi_F zc_X6_lay 29 .iastore 1 0 0 0 0 ∧ zi_F zc_X6_lay 30 (.aload_n 0) 1 0 0 0 0 ∧ zi_F zc_X6_lay 31 (.getfield 89) 3 6 28 907 0 ∧ zi_F zc_X6_lay 34 (.iload_n 2) 1 0 0 0 0 ∧ zi_F zc_X6_lay 35 (.iload 6) 2 0 0 0 0 ∧ zi_F zc_X6_lay 37 .iastore 1 0 0 0 0 ∧ zi_F zc_X6_lay 38 (.aload_n 0) 1 0 0 0 0 ∧ zi_F zc_X6_lay 39 (.getfield 46) 3 6 14 893 0 ∧ zi_F zc_X6_lay 42 (.iload 7) 2 0 0 0 0 ∧ zi_F zc_X6_lay 44 .iaload 1 0 0 0 0 ∧ zi_F zc_X6_lay 45 (.iconst 1) 1 0 0 0 0 ∧ zi_F zc_X6_lay 46 (.if_icmp .ne 24) 3 70 0 0 0 ∧ zi_F zc_X6_lay 49 (.aload_n 0) 1 0 0 0 0 ∧ zi_F zc_X6_lay 50 (.getfield 92) 3 6 29 908 0 ∧ zi_F zc_X6_lay 53 (.aload_n 0) 1 0 0 0 0 ∧ zi_F zc_X6_lay 54 (.getfield 133) 3 6 30 909 0 ∧ zi_F zc_X6_lay 57 (.iload_n 2) 1 0 0 0 0 ∧ zi_F zc_X6_lay 58 .iastore 1 0 0 0 0 ∧ zi_F zc_X6_lay 59 (.aload_n 0) 1 0 0 0 0 ∧ zi_F zc_X6_lay 60 .dup 1 0 0 0 0 ∧ zi_F zc_X6_lay 61 (.getfield 133) 3 6 30 909 0 ∧ zi_F zc_X6_lay 64 (.iconst 1) 1 0 0 0 0 ∧ zi_F zc_X6_lay 65 .iadd 1 0 0 0 0 ∧ zi_F zc_X6_lay 66 (.putfield 133) 3 6 30 909 0 ∧ zi_F zc_X6_lay 69 .return_ 1 0 0 0 0 ∧ zi_F zc_X6_lay 70 (.aload_n 0) 1 0 0 0 0 ∧ zi_F zc_X6_lay 71 (.getfield 46) 3 6 14 893 0 ∧ zi_F zc_X6_lay 74 (.iload 7) 2 0 0 0 0 ∧ zi_F zc_X6_lay 76 .iaload 1 0 0 0 0 ∧ zi_F zc_X6_lay 77 (.iconst 2) 1 0 0 0 0 ∧ zi_F zc_X6_lay 78 (.if_icmp .ne 7) 3 85 0 0 0 ∧ zi_F zc_X6_lay 81 (.iconst 1) 1 0 0 0 0 ∧ zi_F zc_X6_lay 82 (.goto 4) 3 86 0 0 0 ∧ zi_F zc_X6_lay 85 (.iconst 0) 1 0 0 0 0 ∧ zi_F zc_X6_lay 86 (.istore 8) 2 0 0 0 0 ∧ zi_F zc_X6_lay 88 (.iload 8) 2 0 0 0 0 ∧ zi_F zc_X6_lay 90 (.ifCond .eq 8) 3 98 0 0 0 ∧ zi_F zc_X6_lay 93 (.iload 5) 2 0 0 0 0 ∧ zi_F zc_X6_lay 95 (.goto 5) 3 100 0 0 0 ∧ zi_F zc_X6_lay 98 (.iload 6) 2 0 0 0 0 ∧ zi_F zc_X6_lay 100 (.istore 9) 2 0 0 0 0 ∧ zi_F zc_X6_lay 102 (.iload 9) 2 0 0 0 0 ∧ zi_F zc_X6_lay 104 (.aload_n 0) 1 0 0 0 0 ∧ zi_F zc_X6_lay 105 (.getfield 55) 3 6 17 896 0 ∧ zi_F zc_X6_lay 108 (.iload 7) 2 0 0 0 0 ∧ zi_F zc_X6_lay 110 .iaload 1 0 0 0 0 ∧ zi_F zc_X6_lay 111 .imul 1 0 0 0 0 ∧ zi_F zc_X6_lay 112 (.bipush 100) 2 0 0 0 0 ∧ zi_F zc_X6_lay 114 .idiv 1 0 0 0 0 ∧ zi_F zc_X6_lay 115 (.istore 10) 2 0 0 0 0 ∧ zi_F zc_X6_lay 117 (.iload 9) 2 0 0 0 0 ∧ zi_F zc_X6_lay 119 (.aload_n 0) 1 0 0 0 0 ∧ zi_F zc_X6_lay 120 (.iload_n 1) 1 0 0 0 0 ∧ zi_F zc_X6_lay 121 (.aload_n 0) 1 0 0 0 0 ∧ zi_F zc_X6_lay 122 (.getfield 52) 3 6 16 895 0 ∧ zi_F zc_X6_lay 125 (.iload 7) 2 0 0 0 0 ∧ zi_F zc_X6_lay 127 .iaload 1 0 0 0 0 ∧ zi_F zc_X6_lay 128 (.iload 8) 2 0 0 0 0 ∧ zi_F zc_X6_lay 130 (.invokevirtual 129) 3 178 4 1006 6 ∧ zi_F zc_X6_lay 133 .isub 1 0 0 0 0 ∧ zi_F zc_X6_lay 134 (.istore 11) 2 0 0 0 0 ∧ zi_F zc_X6_lay 136 (.aload_n 0) 1 0 0 0 0 ∧ zi_F zc_X6_lay 137 (.iload_n 1) 1 0 0 0 0 ∧ zi_F zc_X6_lay 138 (.aload_n 0) 1 0 0 0 0 ∧ zi_F zc_X6_lay 139 (.getfield 49) 3 6 15 894 0 ∧ zi_F zc_X6_lay 142 (.iload 7) 2 0 0 0 0 ∧ zi_F zc_X6_lay 144 .iaload 1 0 0 0 0 ∧ zi_F zc_X6_lay 145 (.iload 8) 2 0 0 0 0 ∧ zi_F zc_X6_lay 147 (.invokevirtual 129) 3 178 4 1006 6 ∧ zi_F zc_X6_lay 150 (.istore 12) 2 0 0 0 0 ∧ zi_F zc_X6_lay 152 (.iload 10) 2 0 0 0 0 ∧ zi_F zc_X6_lay 154 (.iload 11) 2 0 0 0 0 ∧ zi_F zc_X6_lay 156 (.if_icmp .le 8) 3 164 0 0 0 ∧ zi_F zc_X6_lay 159 (.iload 11) 2 0 0 0 0 ∧ zi_F zc_X6_lay 161 (.goto 5) 3 166 0 0 0 ∧ zi_F zc_X6_lay 164 (.iload 10) 2 0 0 0 0 ∧ zi_F zc_X6_lay 166 (.istore 10) 2 0 0 0 0 ∧ zi_F zc_X6_lay 168 (.iload 10) 2 0 0 0 0 ∧ zi_F zc_X6_lay 170 (.iload 12) 2 0 0 0 0 ∧ zi_F zc_X6_lay 172 (.if_icmp .ge 8) 3 180 0 0 0 ∧ zi_F zc_X6_lay 175 (.iload 12) 2 0 0 0 0 ∧ zi_F zc_X6_lay 177 (.goto 5) 3 182 0 0 0 ∧ zi_F zc_X6_lay 180 (.iload 10) 2 0 0 0 0 ∧ zi_F zc_X6_lay 182 (.istore 10) 2 0 0 0 0 ∧ zi_F zc_X6_lay 184 (.iload 8) 2 0 0 0 0 ∧ zi_F zc_X6_lay 186 (.ifCond .eq 50) 3 236 0 0 0 ∧ zi_F zc_X6_lay 189 (.aload_n 0) 1 0 0 0 0 ∧ zi_F zc_X6_lay 190 (.iload_n 1) 1 0 0 0 0 ∧ zi_F zc_X6_lay 191 (.aload_n 0) 1 0 0 0 0 ∧ zi_F zc_X6_lay 192 (.getfield 49) 3 6 15 894 0 ∧ zi_F zc_X6_lay 195 (.iload 7) 2 0 0 0 0 ∧ zi_F zc_X6_lay 197 .iaload 1 0 0 0 0 ∧ zi_F zc_X6_lay 198 (.iload_n 3) 1 0 0 0 0 ∧ zi_F zc_X6_lay 199 (.iload 4) 2 0 0 0 0 ∧ zi_F zc_X6_lay 201 (.iload 10) 2 0 0 0 0 ∧ zi_F zc_X6_lay 203 (.iload 6) 2 0 0 0 0 ∧ zi_F zc_X6_lay 205 (.invokevirtual 137) 3 180 7 1111 6 ∧ zi_F zc_X6_lay 208 (.aload_n 0) 1 0 0 0 0 ∧ zi_F zc_X6_lay 209 (.iload_n 1) 1 0 0 0 0 ∧ zi_F zc_X6_lay 210 (.aload_n 0) 1 0 0 0 0 ∧ zi_F zc_X6_lay 211 (.getfield 52) 3 6 16 895 0 ∧ zi_F zc_X6_lay 214 (.iload 7) 2 0 0 0 0 ∧ zi_F zc_X6_lay 216 .iaload 1 0 0 0 0 ∧ zi_F zc_X6_lay 217 (.iload_n 3) 1 0 0 0 0 ∧ zi_F zc_X6_lay 218 (.iload 10) 2 0 0 0 0 ∧ zi_F zc_X6_lay 220 .iadd 1 0 0 0 0 ∧ zi_F zc_X6_lay 221 (.iload 4) 2 0 0 0 0 ∧ zi_F zc_X6_lay 223 (.iload 5) 2 0 0 0 0 ∧ zi_F zc_X6_lay 225 (.iload 10) 2 0 0 0 0 ∧ zi_F zc_X6_lay 227 .isub 1 0 0 0 0 ∧ zi_F zc_X6_lay 228 (.iload 6) 2 0 0 0 0 ∧ zi_F zc_X6_lay 230 (.invokevirtual 137) 3 180 7 1111 6 ∧ zi_F zc_X6_lay 233 (.goto 47) 3 280 0 0 0 ∧ zi_F zc_X6_lay 236 (.aload_n 0) 1 0 0 0 0 ∧ zi_F zc_X6_lay 237 (.iload_n 1) 1 0 0 0 0 ∧ zi_F zc_X6_lay 238 (.aload_n 0) 1 0 0 0 0 ∧ zi_F zc_X6_lay 239 (.getfield 49) 3 6 15 894 0 ∧ zi_F zc_X6_lay 242 (.iload 7) 2 0 0 0 0 ∧ zi_F zc_X6_lay 244 .iaload 1 0 0 0 0 ∧ zi_F zc_X6_lay 245 (.iload_n 3) 1 0 0 0 0 ∧ zi_F zc_X6_lay 246 (.iload 4) 2 0 0 0 0 ∧ zi_F zc_X6_lay 248 (.iload 5) 2 0 0 0 0 ∧ zi_F zc_X6_lay 250 (.iload 10) 2 0 0 0 0 ∧ zi_F zc_X6_lay 252 (.invokevirtual 137) 3 180 7 1111 6 ∧ zi_F zc_X6_lay 255 (.aload_n 0) 1 0 0 0 0 ∧ zi_F zc_X6_lay 256 (.iload_n 1) 1 0 0 0 0 ∧ zi_F zc_X6_lay 257 (.aload_n 0) 1 0 0 0 0 ∧ zi_F zc_X6_lay 258 (.getfield 52) 3 6 16 895 0 ∧ zi_F zc_X6_lay 261 (.iload 7) 2 0 0 0 0 ∧ zi_F zc_X6_lay 263 .iaload 1 0 0 0 0 ∧ zi_F zc_X6_lay 264 (.iload_n 3) 1 0 0 0 0 ∧ zi_F zc_X6_lay 265 (.iload 4) 2 0 0 0 0 ∧ zi_F zc_X6_lay 267 (.iload 10) 2 0 0 0 0 ∧ zi_F zc_X6_lay 269 .iadd 1 0 0 0 0 ∧ zi_F zc_X6_lay 270 (.iload 5) 2 0 0 0 0 ∧ zi_F zc_X6_lay 272 (.iload 6) 2 0 0 0 0 ∧ zi_F zc_X6_lay 274 (.iload 10) 2 0 0 0 0 ∧ zi_F zc_X6_lay 276 .isub 1 0 0 0 0 ∧ zi_F zc_X6_lay 277 (.invokevirtual 137) 3 180 7 1111 6 ∧ zi_F zc_X6_lay 280 .return_ 1 0 0 0 0 := zi_fdF (zc := zc_X6_lay) (by decide +kernel)
set_option maxRecDepth 100000 in
theorem zf_X6_layAll : zi_F zc_X6_layAll 0 (.aload_n 0) 1 0 0 0 0 ∧ zi_F zc_X6_layAll 1 (.iconst 0) 1 0 0 0 0 ∧ zi_F zc_X6_layAll 2 (.putfield 133) 3 6 30 909 0 ∧ zi_F zc_X6_layAll 5 (.aload_n 0) 1 0 0 0 0 ∧ zi_F zc_X6_layAll 6 (.getfield 43) 3 6 13 892 0 ∧ zi_F zc_X6_layAll 9 (.iload_n 1) 1 0 0 0 0 ∧ zi_F zc_X6_layAll 10 .iaload 1 0 0 0 0 ∧ zi_F zc_X6_layAll 11 (.ifCond .lt 28) 3 39 0 0 0 ∧ zi_F zc_X6_layAll 14 (.aload_n 0) 1 0 0 0 0 ∧ zi_F zc_X6_layAll 15 (.iload_n 1) 1 0 0 0 0 ∧ zi_F zc_X6_layAll 16 (.aload_n 0) 1 0 0 0 0 ∧ zi_F zc_X6_layAll 17 (.getfield 43) 3 6 13 892 0 ∧ zi_F zc_X6_layAll 20 (.iload_n 1) 1 0 0 0 0 ∧ zi_F zc_X6_layAll 21 .iaload 1 0 0 0 0 ∧ zi_F zc_X6_layAll 22 (.iconst 0) 1 0 0 0 0 ∧ zi_F zc_X6_layAll 23 (.iconst 0) 1 0 0 0 0 ∧ zi_F zc_X6_layAll 24 (.aload_n 0) 1 0 0 0 0 ∧ zi_F zc_X6_layAll 25 (.getfield 7) 3 6 0 879 0 ∧ zi_F zc_X6_layAll 28 (.iload_n 1) 1 0 0 0 0 ∧ zi_F zc_X6_layAll 29 .iaload 1 0 0 0 0 ∧ zi_F zc_X6_layAll 30 (.aload_n 0) 1 0 0 0 0 ∧ zi_F zc_X6_layAll 31 (.getfield 13) 3 6 1 880 0 ∧ zi_F zc_X6_layAll 34 (.iload_n 1) 1 0 0 0 0 ∧ zi_F zc_X6_layAll 35 .iaload 1 0 0 0 0 ∧ zi_F zc_X6_layAll 36 (.invokevirtual 137) 3 180 7 1111 6 ∧ zi_F zc_X6_layAll 39 .return_ 1 0 0 0 0 := zi_fdF (zc := zc_X6_layAll) (by decide +kernel)
set_option maxRecDepth 100000 in
theorem zf_X6_canBeWhole : zi_F zc_X6_canBeWhole 0 (.aload_n 0) 1 0 0 0 0 ∧ zi_F zc_X6_canBeWhole 1 (.getfield 19) 3 6 3 882 0 ∧ zi_F zc_X6_canBeWhole 4 (.iload_n 1) 1 0 0 0 0 ∧ zi_F zc_X6_canBeWhole 5 .iaload 1 0 0 0 0 ∧ zi_F zc_X6_canBeWhole 6 (.iload_n 2) 1 0 0 0 0 ∧ zi_F zc_X6_canBeWhole 7 (.if_icmp .gt 17) 3 24 0 0 0 ∧ zi_F zc_X6_canBeWhole 10 (.aload_n 0) 1 0 0 0 0 ∧ zi_F zc_X6_canBeWhole 11 (.getfield 22) 3 6 4 883 0 ∧ zi_F zc_X6_canBeWhole 14 (.iload_n 1) 1 0 0 0 0 ∧ zi_F zc_X6_canBeWhole 15 .iaload 1 0 0 0 0 ∧ zi_F zc_X6_canBeWhole 16 (.iload_n 3) 1 0 0 0 0 ∧ zi_F zc_X6_canBeWhole 17 (.if_icmp .gt 7) 3 24 0 0 0 ∧ zi_F zc_X6_canBeWhole 20 (.iconst 1) 1 0 0 0 0 ∧ zi_F zc_X6_canBeWhole 21 (.goto 4) 3 25 0 0 0 ∧ zi_F zc_X6_canBeWhole 24 (.iconst 0) 1 0 0 0 0 ∧ zi_F zc_X6_canBeWhole 25 .ireturn 1 0 0 0 0 := zi_fdF (zc := zc_X6_canBeWhole) (by decide +kernel)
set_option maxRecDepth 100000 in
theorem zf_X6_putAt : zi_F zc_X6_putAt 0 (.aload_n 0) 1 0 0 0 0 ∧ zi_F zc_X6_putAt 1 (.getfield 28) 3 6 6 885 0 ∧ zi_F zc_X6_putAt 4 (.iload_n 1) 1 0 0 0 0 ∧ zi_F zc_X6_putAt 5 (.iload_n 2) 1 0 0 0 0 ∧ zi_F zc_X6_putAt 6 .iastore 1 0 0 0 0 ∧ zi_F zc_X6_putAt 7 (.aload_n 0) 1 0 0 0 0 ∧ zi_F zc_X6_putAt 8 (.getfield 31) 3 6 7 886 0 ∧ zi_F zc_X6_putAt 11 (.iload_n 1) 1 0 0 0 0 ∧ zi_F zc_X6_putAt 12 (.iload_n 3) 1 0 0 0 0 ∧ zi_F zc_X6_putAt 13 (.aload_n 0) 1 0 0 0 0 ∧ zi_F zc_X6_putAt 14 (.getfield 7) 3 6 0 879 0 ∧ zi_F zc_X6_putAt 17 (.iload_n 2) 1 0 0 0 0 ∧ zi_F zc_X6_putAt 18 .iaload 1 0 0 0 0 ∧ zi_F zc_X6_putAt 19 (.aload_n 0) 1 0 0 0 0 ∧ zi_F zc_X6_putAt 20 (.getfield 19) 3 6 3 882 0 ∧ zi_F zc_X6_putAt 23 (.iload_n 1) 1 0 0 0 0 ∧ zi_F zc_X6_putAt 24 .iaload 1 0 0 0 0 ∧ zi_F zc_X6_putAt 25 .isub 1 0 0 0 0 ∧ zi_F zc_X6_putAt 26 (.invokestatic 141) 3 166 2 1054 0 ∧ zi_F zc_X6_putAt 29 .iastore 1 0 0 0 0 ∧ zi_F zc_X6_putAt 30 (.aload_n 0) 1 0 0 0 0 ∧ zi_F zc_X6_putAt 31 (.getfield 34) 3 6 8 887 0 ∧ zi_F zc_X6_putAt 34 (.iload_n 1) 1 0 0 0 0 ∧ zi_F zc_X6_putAt 35 (.iload 4) 2 0 0 0 0 ∧ zi_F zc_X6_putAt 37 (.aload_n 0) 1 0 0 0 0 ∧ zi_F zc_X6_putAt 38 (.getfield 13) 3 6 1 880 0 ∧ zi_F zc_X6_putAt 41 (.iload_n 2) 1 0 0 0 0 ∧ zi_F zc_X6_putAt 42 .iaload 1 0 0 0 0 ∧ zi_F zc_X6_putAt 43 (.aload_n 0) 1 0 0 0 0 ∧ zi_F zc_X6_putAt 44 (.getfield 22) 3 6 4 883 0 ∧ zi_F zc_X6_putAt 47 (.iload_n 1) 1 0 0 0 0 ∧ zi_F zc_X6_putAt 48 .iaload 1 0 0 0 0 ∧ zi_F zc_X6_putAt 49 .isub 1 0 0 0 0 ∧ zi_F zc_X6_putAt 50 (.invokestatic 141) 3 166 2 1054 0 ∧ zi_F zc_X6_putAt 53 .iastore 1 0 0 0 0 ∧ zi_F zc_X6_putAt 54 .return_ 1 0 0 0 0 := zi_fdF (zc := zc_X6_putAt) (by decide +kernel)
set_option maxRecDepth 100000 in
theorem zf_X6_isOnScreen : zi_F zc_X6_isOnScreen 0 (.aload_n 0) 1 0 0 0 0 ∧ zi_F zc_X6_isOnScreen 1 (.getfield 16) 3 6 2 881 0 ∧ zi_F zc_X6_isOnScreen 4 (.iload_n 1) 1 0 0 0 0 ∧ zi_F zc_X6_isOnScreen 5 .iaload 1 0 0 0 0 ∧ zi_F zc_X6_isOnScreen 6 (.iconst 1) 1 0 0 0 0 ∧ zi_F zc_X6_isOnScreen 7 (.if_icmp .le 27) 3 34 0 0 0 ∧ zi_F zc_X6_isOnScreen 10 (.aload_n 0) 1 0 0 0 0 ∧ zi_F zc_X6_isOnScreen 11 (.getfield 16) 3 6 2 881 0 ∧ zi_F zc_X6_isOnScreen 14 (.iload_n 1) 1 0 0 0 0 ∧ zi_F zc_X6_isOnScreen 15 .iaload 1 0 0 0 0 ∧ zi_F zc_X6_isOnScreen 16 (.iconst 4) 1 0 0 0 0 ∧ zi_F zc_X6_isOnScreen 17 (.if_icmp .eq 17) 3 34 0 0 0 ∧ zi_F zc_X6_isOnScreen 20 (.aload_n 0) 1 0 0 0 0 ∧ zi_F zc_X6_isOnScreen 21 (.getfield 28) 3 6 6 885 0 ∧ zi_F zc_X6_isOnScreen 24 (.iload_n 1) 1 0 0 0 0 ∧ zi_F zc_X6_isOnScreen 25 .iaload 1 0 0 0 0 ∧ zi_F zc_X6_isOnScreen 26 (.iload_n 2) 1 0 0 0 0 ∧ zi_F zc_X6_isOnScreen 27 (.if_icmp .ne 7) 3 34 0 0 0 ∧ zi_F zc_X6_isOnScreen 30 (.iconst 1) 1 0 0 0 0 ∧ zi_F zc_X6_isOnScreen 31 (.goto 4) 3 35 0 0 0 ∧ zi_F zc_X6_isOnScreen 34 (.iconst 0) 1 0 0 0 0 ∧ zi_F zc_X6_isOnScreen 35 .ireturn 1 0 0 0 0 := zi_fdF (zc := zc_X6_isOnScreen) (by decide +kernel)
set_option maxRecDepth 100000 in
theorem zf_X6_unstack : zi_F zc_X6_unstack 0 (.iconst 0) 1 0 0 0 0 ∧ zi_F zc_X6_unstack 1 (.istore_n 2) 1 0 0 0 0 ∧ zi_F zc_X6_unstack 2 (.iconst 0) 1 0 0 0 0 ∧ zi_F zc_X6_unstack 3 (.istore_n 3) 1 0 0 0 0 ∧ zi_F zc_X6_unstack 4 (.iload_n 3) 1 0 0 0 0 ∧ zi_F zc_X6_unstack 5 (.aload_n 0) 1 0 0 0 0 ∧ zi_F zc_X6_unstack 6 (.getfield 144) 3 6 10 889 0 ∧ zi_F zc_X6_unstack 9 (.if_icmp .ge 34) 3 43 0 0 0 ∧ zi_F zc_X6_unstack 12 (.aload_n 0) 1 0 0 0 0 ∧ zi_F zc_X6_unstack 13 (.getfield 37) 3 6 9 888 0 ∧ zi_F zc_X6_unstack 16 (.iload_n 3) 1 0 0 0 0 ∧ zi_F zc_X6_unstack 17 .iaload 1 0 0 0 0 ∧ zi_F zc_X6_unstack 18 (.iload_n 1) 1 0 0 0 0 ∧ zi_F zc_X6_unstack 19 (.if_icmp .eq 18) 3 37 0 0 0 ∧ zi_F zc_X6_unstack 22 (.aload_n 0) 1 0 0 0 0 ∧ zi_F zc_X6_unstack 23 (.getfield 37) 3 6 9 888 0 ∧ zi_F zc_X6_unstack 26 (.iload_n 2) 1 0 0 0 0 ∧ zi_F zc_X6_unstack 27 (.aload_n 0) 1 0 0 0 0 ∧ zi_F zc_X6_unstack 28 (.getfield 37) 3 6 9 888 0 ∧ zi_F zc_X6_unstack 31 (.iload_n 3) 1 0 0 0 0 ∧ zi_F zc_X6_unstack 32 .iaload 1 0 0 0 0 ∧ zi_F zc_X6_unstack 33 .iastore 1 0 0 0 0 ∧ zi_F zc_X6_unstack 34 (.iinc 2 1) 3 0 0 0 0 ∧ zi_F zc_X6_unstack 37 (.iinc 3 1) 3 0 0 0 0 ∧ zi_F zc_X6_unstack 40 (.goto (-36)) 3 4 0 0 0 ∧ zi_F zc_X6_unstack 43 (.aload_n 0) 1 0 0 0 0 ∧ zi_F zc_X6_unstack 44 (.iload_n 2) 1 0 0 0 0 ∧ zi_F zc_X6_unstack 45 (.putfield 144) 3 6 10 889 0 ∧ zi_F zc_X6_unstack 48 .return_ 1 0 0 0 0 := zi_fdF (zc := zc_X6_unstack) (by decide +kernel)
set_option maxRecDepth 100000 in
theorem zf_X6_raise : zi_F zc_X6_raise 0 (.aload_n 0) 1 0 0 0 0 ∧ zi_F zc_X6_raise 1 (.iload_n 1) 1 0 0 0 0 ∧ zi_F zc_X6_raise 2 (.invokevirtual 147) 3 167 2 1124 6 ∧ zi_F zc_X6_raise 5 (.ifCond .eq 28) 3 33 0 0 0 ∧ zi_F zc_X6_raise 8 (.aload_n 0) 1 0 0 0 0 ∧ zi_F zc_X6_raise 9 (.iload_n 1) 1 0 0 0 0 ∧ zi_F zc_X6_raise 10 (.invokevirtual 151) 3 185 2 1143 6 ∧ zi_F zc_X6_raise 13 (.aload_n 0) 1 0 0 0 0 ∧ zi_F zc_X6_raise 14 (.getfield 37) 3 6 9 888 0 ∧ zi_F zc_X6_raise 17 (.aload_n 0) 1 0 0 0 0 ∧ zi_F zc_X6_raise 18 (.getfield 144) 3 6 10 889 0 ∧ zi_F zc_X6_raise 21 (.iload_n 1) 1 0 0 0 0 ∧ zi_F zc_X6_raise 22 .iastore 1 0 0 0 0 ∧ zi_F zc_X6_raise 23 (.aload_n 0) 1 0 0 0 0 ∧ zi_F zc_X6_raise 24 .dup 1 0 0 0 0 ∧ zi_F zc_X6_raise 25 (.getfield 144) 3 6 10 889 0 ∧ zi_F zc_X6_raise 28 (.iconst 1) 1 0 0 0 0 ∧ zi_F zc_X6_raise 29 .iadd 1 0 0 0 0 ∧ zi_F zc_X6_raise 30 (.putfield 144) 3 6 10 889 0 ∧ zi_F zc_X6_raise 33 (.iconst 0) 1 0 0 0 0 ∧ zi_F zc_X6_raise 34 (.istore_n 2) 1 0 0 0 0 ∧ zi_F zc_X6_raise 35 (.lconst 0) 1 0 0 0 0 ∧ zi_F zc_X6_raise 36 (.lstore_n 3) 1 0 0 0 0 ∧ zi_F zc_X6_raise 37 (.iconst 0) 1 0 0 0 0 ∧ zi_F zc_X6_raise 38 (.istore 5) 2 0 0 0 0 ∧ zi_F zc_X6_raise 40 (.iload 5) 2 0 0 0 0 ∧ zi_F zc_X6_raise 42 (.aload_n 0) 1 0 0 0 0 ∧ zi_F zc_X6_raise 43 (.getfield 144) 3 6 10 889 0 ∧ zi_F zc_X6_raise 46 (.if_icmp .ge 59) 3 105 0 0 0 ∧ zi_F zc_X6_raise 49 (.aload_n 0) 1 0 0 0 0 ∧ zi_F zc_X6_raise 50 (.getfield 16) 3 6 2 881 0 ∧ zi_F zc_X6_raise 53 (.aload_n 0) 1 0 0 0 0 ∧ zi_F zc_X6_raise 54 (.getfield 37) 3 6 9 888 0 ∧ zi_F zc_X6_raise 57 (.iload 5) 2 0 0 0 0 ∧ zi_F zc_X6_raise 59 .iaload 1 0 0 0 0 ∧ zi_F zc_X6_raise 60 .iaload 1 0 0 0 0 ∧ zi_F zc_X6_raise 61 (.iconst 3) 1 0 0 0 0 ∧ zi_F zc_X6_raise 62 (.if_icmp .ne 37) 3 99 0 0 0 ∧ zi_F zc_X6_raise 65 (.aload_n 0) 1 0 0 0 0 ∧ zi_F zc_X6_raise 66 (.getfield 25) 3 6 5 884 0 ∧ zi_F zc_X6_raise 69 (.aload_n 0) 1 0 0 0 0 ∧ zi_F zc_X6_raise 70 (.getfield 37) 3 6 9 888 0 ∧ zi_F zc_X6_raise 73 (.iload 5) 2 0 0 0 0 ∧ zi_F zc_X6_raise 75 .iaload 1 0 0 0 0 ∧ zi_F zc_X6_raise 76 .iaload 1 0 0 0 0 ∧ zi_F zc_X6_raise 77 (.iload_n 1) 1 0 0 0 0 ∧ zi_F zc_X6_raise 78 (.if_icmp .ne 21) 3 99 0 0 0 ∧ zi_F zc_X6_raise 81 (.lload_n 3) 1 0 0 0 0 ∧ zi_F zc_X6_raise 82 (.aload_n 0) 1 0 0 0 0 ∧ zi_F zc_X6_raise 83 (.getfield 37) 3 6 9 888 0 ∧ zi_F zc_X6_raise 86 (.iload 5) 2 0 0 0 0 ∧ zi_F zc_X6_raise 88 .iaload 1 0 0 0 0 ∧ zi_F zc_X6_raise 89 .i2l 1 0 0 0 0 ∧ zi_F zc_X6_raise 90 (.iconst 4) 1 0 0 0 0 ∧ zi_F zc_X6_raise 91 (.iload_n 2) 1 0 0 0 0 ∧ zi_F zc_X6_raise 92 .imul 1 0 0 0 0 ∧ zi_F zc_X6_raise 93 .lshl 1 0 0 0 0 ∧ zi_F zc_X6_raise 94 .lor 1 0 0 0 0 ∧ zi_F zc_X6_raise 95 (.lstore_n 3) 1 0 0 0 0 ∧ zi_F zc_X6_raise 96 (.iinc 2 1) 3 0 0 0 0 ∧ zi_F zc_X6_raise 99 (.iinc 5 1) 3 0 0 0 0 ∧ zi_F zc_X6_raise 102 (.goto (-62)) 3 40 0 0 0 ∧ zi_F zc_X6_raise 105 (.iconst 0) 1 0 0 0 0 ∧ zi_F zc_X6_raise 106 (.istore 5) 2 0 0 0 0 ∧ zi_F zc_X6_raise 108 (.iload 5) 2 0 0 0 0 ∧ zi_F zc_X6_raise 110 (.iload_n 2) 1 0 0 0 0 ∧ zi_F zc_X6_raise 111 (.if_icmp .ge 24) 3 135 0 0 0 ∧ zi_F zc_X6_raise 114 (.aload_n 0) 1 0 0 0 0 ∧ zi_F zc_X6_raise 115 (.lload_n 3) 1 0 0 0 0 ∧ zi_F zc_X6_raise 116 (.iconst 4) 1 0 0 0 0 ∧ zi_F zc_X6_raise 117 (.iload 5) 2 0 0 0 0 ∧ zi_F zc_X6_raise 119 .imul 1 0 0 0 0 ∧ zi_F zc_X6_raise 120 .lshr 1 0 0 0 0 ∧ zi_F zc_X6_raise 121 (.ldc2_w 155) 3 0 0 1147 15 ∧ zi_F zc_X6_raise 124 .land 1 0 0 0 0 ∧ zi_F zc_X6_raise 125 .l2i 1 0 0 0 0 ∧ zi_F zc_X6_raise 126 (.invokevirtual 157) 3 186 2 1139 6 ∧ zi_F zc_X6_raise 129 (.iinc 5 1) 3 0 0 0 0 ∧ zi_F zc_X6_raise 132 (.goto (-24)) 3 108 0 0 0 ∧ zi_F zc_X6_raise 135 .return_ 1 0 0 0 0 := zi_fdF (zc := zc_X6_raise) (by decide +kernel)
set_option maxRecDepth 100000 in
theorem zf_X6_front : zi_F zc_X6_front 0 (.iload_n 1) 1 0 0 0 0 ∧ zi_F zc_X6_front 1 (.istore_n 2) 1 0 0 0 0 ∧ zi_F zc_X6_front 2 (.iconst 0) 1 0 0 0 0 ∧ zi_F zc_X6_front 3 (.istore_n 3) 1 0 0 0 0 ∧ zi_F zc_X6_front 4 (.iload_n 3) 1 0 0 0 0 ∧ zi_F zc_X6_front 5 (.aload_n 0) 1 0 0 0 0 ∧ zi_F zc_X6_front 6 (.getfield 160) 3 6 12 891 0 ∧ zi_F zc_X6_front 9 (.if_icmp .ge 34) 3 43 0 0 0 ∧ zi_F zc_X6_front 12 (.aload_n 0) 1 0 0 0 0 ∧ zi_F zc_X6_front 13 (.getfield 40) 3 6 11 890 0 ∧ zi_F zc_X6_front 16 (.iload_n 3) 1 0 0 0 0 ∧ zi_F zc_X6_front 17 .iaload 1 0 0 0 0 ∧ zi_F zc_X6_front 18 (.istore 4) 2 0 0 0 0 ∧ zi_F zc_X6_front 20 (.aload_n 0) 1 0 0 0 0 ∧ zi_F zc_X6_front 21 (.getfield 40) 3 6 11 890 0 ∧ zi_F zc_X6_front 24 (.iload_n 3) 1 0 0 0 0 ∧ zi_F zc_X6_front 25 (.iload_n 2) 1 0 0 0 0 ∧ zi_F zc_X6_front 26 .iastore 1 0 0 0 0 ∧ zi_F zc_X6_front 27 (.iload 4) 2 0 0 0 0 ∧ zi_F zc_X6_front 29 (.istore_n 2) 1 0 0 0 0 ∧ zi_F zc_X6_front 30 (.iload 4) 2 0 0 0 0 ∧ zi_F zc_X6_front 32 (.iload_n 1) 1 0 0 0 0 ∧ zi_F zc_X6_front 33 (.if_icmp .ne 4) 3 37 0 0 0 ∧ zi_F zc_X6_front 36 .return_ 1 0 0 0 0 ∧ zi_F zc_X6_front 37 (.iinc 3 1) 3 0 0 0 0 ∧ zi_F zc_X6_front 40 (.goto (-36)) 3 4 0 0 0 ∧ zi_F zc_X6_front 43 (.aload_n 0) 1 0 0 0 0 ∧ zi_F zc_X6_front 44 (.getfield 40) 3 6 11 890 0 ∧ zi_F zc_X6_front 47 (.aload_n 0) 1 0 0 0 0 ∧ zi_F zc_X6_front 48 (.getfield 160) 3 6 12 891 0 ∧ zi_F zc_X6_front 51 (.iload_n 2) 1 0 0 0 0 ∧ zi_F zc_X6_front 52 .iastore 1 0 0 0 0 ∧ zi_F zc_X6_front 53 (.aload_n 0) 1 0 0 0 0 ∧ zi_F zc_X6_front 54 .dup 1 0 0 0 0 ∧ zi_F zc_X6_front 55 (.getfield 160) 3 6 12 891 0 ∧ zi_F zc_X6_front 58 (.iconst 1) 1 0 0 0 0 ∧ zi_F zc_X6_front 59 .iadd 1 0 0 0 0 ∧ zi_F zc_X6_front 60 (.putfield 160) 3 6 12 891 0 ∧ zi_F zc_X6_front 63 .return_ 1 0 0 0 0 := zi_fdF (zc := zc_X6_front) (by decide +kernel)
set_option maxRecDepth 100000 in
theorem zf_X6_focused : zi_F zc_X6_focused 0 (.aload_n 0) 1 0 0 0 0 ∧ zi_F zc_X6_focused 1 (.iload_n 1) 1 0 0 0 0 ∧ zi_F zc_X6_focused 2 (.invokevirtual 163) 3 187 2 1135 6 ∧ zi_F zc_X6_focused 5 (.aload_n 0) 1 0 0 0 0 ∧ zi_F zc_X6_focused 6 (.getfield 16) 3 6 2 881 0 ∧ zi_F zc_X6_focused 9 (.iload_n 1) 1 0 0 0 0 ∧ zi_F zc_X6_focused 10 .iaload 1 0 0 0 0 ∧ zi_F zc_X6_focused 11 (.iconst 1) 1 0 0 0 0 ∧ zi_F zc_X6_focused 12 (.if_icmp .ne 29) 3 41 0 0 0 ∧ zi_F zc_X6_focused 15 (.aload_n 0) 1 0 0 0 0 ∧ zi_F zc_X6_focused 16 (.getfield 64) 3 6 20 899 0 ∧ zi_F zc_X6_focused 19 (.aload_n 0) 1 0 0 0 0 ∧ zi_F zc_X6_focused 20 (.getfield 28) 3 6 6 885 0 ∧ zi_F zc_X6_focused 23 (.iload_n 1) 1 0 0 0 0 ∧ zi_F zc_X6_focused 24 .iaload 1 0 0 0 0 ∧ zi_F zc_X6_focused 25 (.aload_n 0) 1 0 0 0 0 ∧ zi_F zc_X6_focused 26 (.aload_n 0) 1 0 0 0 0 ∧ zi_F zc_X6_focused 27 (.getfield 28) 3 6 6 885 0 ∧ zi_F zc_X6_focused 30 (.iload_n 1) 1 0 0 0 0 ∧ zi_F zc_X6_focused 31 .iaload 1 0 0 0 0 ∧ zi_F zc_X6_focused 32 (.iload_n 1) 1 0 0 0 0 ∧ zi_F zc_X6_focused 33 (.invokevirtual 116) 3 173 3 1030 6 ∧ zi_F zc_X6_focused 36 (.invokestatic 105) 3 70 2 991 0 ∧ zi_F zc_X6_focused 39 (.iload_n 1) 1 0 0 0 0 ∧ zi_F zc_X6_focused 40 .iastore 1 0 0 0 0 ∧ zi_F zc_X6_focused 41 (.aload_n 0) 1 0 0 0 0 ∧ zi_F zc_X6_focused 42 (.iload_n 1) 1 0 0 0 0 ∧ zi_F zc_X6_focused 43 (.invokevirtual 157) 3 186 2 1139 6 ∧ zi_F zc_X6_focused 46 .return_ 1 0 0 0 0 := zi_fdF (zc := zc_X6_focused) (by decide +kernel)
set_option maxRecDepth 100000 in
theorem zf_X6_forget : zi_F zc_X6_forget 0 (.iconst 0) 1 0 0 0 0 ∧ zi_F zc_X6_forget 1 (.istore_n 2) 1 0 0 0 0 ∧ zi_F zc_X6_forget 2 (.iload_n 2) 1 0 0 0 0 ∧ zi_F zc_X6_forget 3 (.iconst 3) 1 0 0 0 0 ∧ zi_F zc_X6_forget 4 (.if_icmp .ge 39) 3 43 0 0 0 ∧ zi_F zc_X6_forget 7 (.aload_n 0) 1 0 0 0 0 ∧ zi_F zc_X6_forget 8 (.getfield 67) 3 6 21 900 0 ∧ zi_F zc_X6_forget 11 (.iload_n 2) 1 0 0 0 0 ∧ zi_F zc_X6_forget 12 .baload 1 0 0 0 0 ∧ zi_F zc_X6_forget 13 (.ifCond .eq 24) 3 37 0 0 0 ∧ zi_F zc_X6_forget 16 (.aload_n 0) 1 0 0 0 0 ∧ zi_F zc_X6_forget 17 (.getfield 71) 3 6 22 901 0 ∧ zi_F zc_X6_forget 20 (.bipush 10) 2 0 0 0 0 ∧ zi_F zc_X6_forget 22 (.iload_n 2) 1 0 0 0 0 ∧ zi_F zc_X6_forget 23 .imul 1 0 0 0 0 ∧ zi_F zc_X6_forget 24 (.iload_n 1) 1 0 0 0 0 ∧ zi_F zc_X6_forget 25 .iadd 1 0 0 0 0 ∧ zi_F zc_X6_forget 26 .baload 1 0 0 0 0 ∧ zi_F zc_X6_forget 27 (.ifCond .eq 10) 3 37 0 0 0 ∧ zi_F zc_X6_forget 30 (.aload_n 0) 1 0 0 0 0 ∧ zi_F zc_X6_forget 31 (.getfield 67) 3 6 21 900 0 ∧ zi_F zc_X6_forget 34 (.iload_n 2) 1 0 0 0 0 ∧ zi_F zc_X6_forget 35 (.iconst 0) 1 0 0 0 0 ∧ zi_F zc_X6_forget 36 .bastore 1 0 0 0 0 ∧ zi_F zc_X6_forget 37 (.iinc 2 1) 3 0 0 0 0 ∧ zi_F zc_X6_forget 40 (.goto (-38)) 3 2 0 0 0 ∧ zi_F zc_X6_forget 43 .return_ 1 0 0 0 0 := zi_fdF (zc := zc_X6_forget) (by decide +kernel)
set_option maxRecDepth 100000 in
theorem zf_X6_spread : zi_F zc_X6_spread 0 (.iconst 0) 1 0 0 0 0 ∧ zi_F zc_X6_spread 1 (.istore_n 1) 1 0 0 0 0 ∧ zi_F zc_X6_spread 2 (.iload_n 1) 1 0 0 0 0 ∧ zi_F zc_X6_spread 3 (.bipush 10) 2 0 0 0 0 ∧ zi_F zc_X6_spread 5 (.if_icmp .ge 67) 3 72 0 0 0 ∧ zi_F zc_X6_spread 8 (.iconst 0) 1 0 0 0 0 ∧ zi_F zc_X6_spread 9 (.istore_n 2) 1 0 0 0 0 ∧ zi_F zc_X6_spread 10 (.iload_n 2) 1 0 0 0 0 ∧ zi_F zc_X6_spread 11 (.bipush 10) 2 0 0 0 0 ∧ zi_F zc_X6_spread 13 (.if_icmp .ge 53) 3 66 0 0 0 ∧ zi_F zc_X6_spread 16 (.aload_n 0) 1 0 0 0 0 ∧ zi_F zc_X6_spread 17 (.getfield 95) 3 6 31 910 0 ∧ zi_F zc_X6_spread 20 (.iload_n 2) 1 0 0 0 0 ∧ zi_F zc_X6_spread 21 (.aload_n 0) 1 0 0 0 0 ∧ zi_F zc_X6_spread 22 (.getfield 95) 3 6 31 910 0 ∧ zi_F zc_X6_spread 25 (.iload_n 2) 1 0 0 0 0 ∧ zi_F zc_X6_spread 26 .baload 1 0 0 0 0 ∧ zi_F zc_X6_spread 27 (.ifCond .ne 27) 3 54 0 0 0 ∧ zi_F zc_X6_spread 30 (.aload_n 0) 1 0 0 0 0 ∧ zi_F zc_X6_spread 31 (.getfield 16) 3 6 2 881 0 ∧ zi_F zc_X6_spread 34 (.iload_n 2) 1 0 0 0 0 ∧ zi_F zc_X6_spread 35 .iaload 1 0 0 0 0 ∧ zi_F zc_X6_spread 36 (.iconst 3) 1 0 0 0 0 ∧ zi_F zc_X6_spread 37 (.if_icmp .ne 21) 3 58 0 0 0 ∧ zi_F zc_X6_spread 40 (.aload_n 0) 1 0 0 0 0 ∧ zi_F zc_X6_spread 41 (.getfield 95) 3 6 31 910 0 ∧ zi_F zc_X6_spread 44 (.aload_n 0) 1 0 0 0 0 ∧ zi_F zc_X6_spread 45 (.getfield 25) 3 6 5 884 0 ∧ zi_F zc_X6_spread 48 (.iload_n 2) 1 0 0 0 0 ∧ zi_F zc_X6_spread 49 .iaload 1 0 0 0 0 ∧ zi_F zc_X6_spread 50 .baload 1 0 0 0 0 ∧ zi_F zc_X6_spread 51 (.ifCond .eq 7) 3 58 0 0 0 ∧ zi_F zc_X6_spread 54 (.iconst 1) 1 0 0 0 0 ∧ zi_F zc_X6_spread 55 (.goto 4) 3 59 0 0 0 ∧ zi_F zc_X6_spread 58 (.iconst 0) 1 0 0 0 0 ∧ zi_F zc_X6_spread 59 .bastore 1 0 0 0 0 ∧ zi_F zc_X6_spread 60 (.iinc 2 1) 3 0 0 0 0 ∧ zi_F zc_X6_spread 63 (.goto (-53)) 3 10 0 0 0 ∧ zi_F zc_X6_spread 66 (.iinc 1 1) 3 0 0 0 0 ∧ zi_F zc_X6_spread 69 (.goto (-67)) 3 2 0 0 0 ∧ zi_F zc_X6_spread 72 .return_ 1 0 0 0 0 := zi_fdF (zc := zc_X6_spread) (by decide +kernel)
set_option maxRecDepth 100000 in
theorem zf_X6_comesBack : zi_F zc_X6_comesBack 0 (.iconst 0) 1 0 0 0 0 ∧ zi_F zc_X6_comesBack 1 (.istore_n 2) 1 0 0 0 0 ∧ zi_F zc_X6_comesBack 2 (.iload_n 2) 1 0 0 0 0 ∧ zi_F zc_X6_comesBack 3 (.bipush 10) 2 0 0 0 0 ∧ zi_F zc_X6_comesBack 5 (.if_icmp .ge 26) 3 31 0 0 0 ∧ zi_F zc_X6_comesBack 8 (.aload_n 0) 1 0 0 0 0 ∧ zi_F zc_X6_comesBack 9 (.getfield 95) 3 6 31 910 0 ∧ zi_F zc_X6_comesBack 12 (.iload_n 2) 1 0 0 0 0 ∧ zi_F zc_X6_comesBack 13 (.aload_n 0) 1 0 0 0 0 ∧ zi_F zc_X6_comesBack 14 (.getfield 71) 3 6 22 901 0 ∧ zi_F zc_X6_comesBack 17 (.bipush 10) 2 0 0 0 0 ∧ zi_F zc_X6_comesBack 19 (.iload_n 1) 1 0 0 0 0 ∧ zi_F zc_X6_comesBack 20 .imul 1 0 0 0 0 ∧ zi_F zc_X6_comesBack 21 (.iload_n 2) 1 0 0 0 0 ∧ zi_F zc_X6_comesBack 22 .iadd 1 0 0 0 0 ∧ zi_F zc_X6_comesBack 23 .baload 1 0 0 0 0 ∧ zi_F zc_X6_comesBack 24 .bastore 1 0 0 0 0 ∧ zi_F zc_X6_comesBack 25 (.iinc 2 1) 3 0 0 0 0 ∧ zi_F zc_X6_comesBack 28 (.goto (-26)) 3 2 0 0 0 ∧ zi_F zc_X6_comesBack 31 (.aload_n 0) 1 0 0 0 0 ∧ zi_F zc_X6_comesBack 32 (.invokevirtual 191) 3 190 1 998 6 ∧ zi_F zc_X6_comesBack 35 (.aload_n 0) 1 0 0 0 0 ∧ zi_F zc_X6_comesBack 36 (.iconst 3) 1 0 0 0 0 ∧ zi_F zc_X6_comesBack 37 (.iload_n 1) 1 0 0 0 0 ∧ zi_F zc_X6_comesBack 38 .iadd 1 0 0 0 0 ∧ zi_F zc_X6_comesBack 39 (.aload_n 0) 1 0 0 0 0 ∧ zi_F zc_X6_comesBack 40 (.getfield 7) 3 6 0 879 0 ∧ zi_F zc_X6_comesBack 43 (.iload_n 1) 1 0 0 0 0 ∧ zi_F zc_X6_comesBack 44 .iaload 1 0 0 0 0 ∧ zi_F zc_X6_comesBack 45 (.aload_n 0) 1 0 0 0 0 ∧ zi_F zc_X6_comesBack 46 (.getfield 13) 3 6 1 880 0 ∧ zi_F zc_X6_comesBack 49 (.iload_n 1) 1 0 0 0 0 ∧ zi_F zc_X6_comesBack 50 .iaload 1 0 0 0 0 ∧ zi_F zc_X6_comesBack 51 (.invokevirtual 177) 3 179 4 1002 6 ∧ zi_F zc_X6_comesBack 54 (.istore_n 2) 1 0 0 0 0 ∧ zi_F zc_X6_comesBack 55 (.iconst 0) 1 0 0 0 0 ∧ zi_F zc_X6_comesBack 56 (.istore_n 3) 1 0 0 0 0 ∧ zi_F zc_X6_comesBack 57 (.iload_n 3) 1 0 0 0 0 ∧ zi_F zc_X6_comesBack 58 (.bipush 10) 2 0 0 0 0 ∧ zi_F zc_X6_comesBack 60 (.if_icmp .ge 58) 3 118 0 0 0 ∧ zi_F zc_X6_comesBack 63 (.iload_n 2) 1 0 0 0 0 ∧ zi_F zc_X6_comesBack 64 (.ifCond .eq 46) 3 110 0 0 0 ∧ zi_F zc_X6_comesBack 67 (.aload_n 0) 1 0 0 0 0 ∧ zi_F zc_X6_comesBack 68 (.getfield 95) 3 6 31 910 0 ∧ zi_F zc_X6_comesBack 71 (.iload_n 3) 1 0 0 0 0 ∧ zi_F zc_X6_comesBack 72 .baload 1 0 0 0 0 ∧ zi_F zc_X6_comesBack 73 (.ifCond .eq 33) 3 106 0 0 0 ∧ zi_F zc_X6_comesBack 76 (.aload_n 0) 1 0 0 0 0 ∧ zi_F zc_X6_comesBack 77 (.getfield 16) 3 6 2 881 0 ∧ zi_F zc_X6_comesBack 80 (.iload_n 3) 1 0 0 0 0 ∧ zi_F zc_X6_comesBack 81 .iaload 1 0 0 0 0 ∧ zi_F zc_X6_comesBack 82 (.iconst 1) 1 0 0 0 0 ∧ zi_F zc_X6_comesBack 83 (.if_icmp .eq 23) 3 106 0 0 0 ∧ zi_F zc_X6_comesBack 86 (.aload_n 0) 1 0 0 0 0 ∧ zi_F zc_X6_comesBack 87 (.iload_n 3) 1 0 0 0 0 ∧ zi_F zc_X6_comesBack 88 (.aload_n 0) 1 0 0 0 0 ∧ zi_F zc_X6_comesBack 89 (.getfield 7) 3 6 0 879 0 ∧ zi_F zc_X6_comesBack 92 (.iload_n 1) 1 0 0 0 0 ∧ zi_F zc_X6_comesBack 93 .iaload 1 0 0 0 0 ∧ zi_F zc_X6_comesBack 94 (.aload_n 0) 1 0 0 0 0 ∧ zi_F zc_X6_comesBack 95 (.getfield 13) 3 6 1 880 0 ∧ zi_F zc_X6_comesBack 98 (.iload_n 1) 1 0 0 0 0 ∧ zi_F zc_X6_comesBack 99 .iaload 1 0 0 0 0 ∧ zi_F zc_X6_comesBack 100 (.invokevirtual 184) 3 182 4 1010 6 ∧ zi_F zc_X6_comesBack 103 (.ifCond .eq 7) 3 110 0 0 0 ∧ zi_F zc_X6_comesBack 106 (.iconst 1) 1 0 0 0 0 ∧ zi_F zc_X6_comesBack 107 (.goto 4) 3 111 0 0 0 ∧ zi_F zc_X6_comesBack 110 (.iconst 0) 1 0 0 0 0 ∧ zi_F zc_X6_comesBack 111 (.istore_n 2) 1 0 0 0 0 ∧ zi_F zc_X6_comesBack 112 (.iinc 3 1) 3 0 0 0 0 ∧ zi_F zc_X6_comesBack 115 (.goto (-58)) 3 57 0 0 0 ∧ zi_F zc_X6_comesBack 118 (.iload_n 2) 1 0 0 0 0 ∧ zi_F zc_X6_comesBack 119 .ireturn 1 0 0 0 0 := zi_fdF (zc := zc_X6_comesBack) (by decide +kernel)
set_option maxRecDepth 100000 in
theorem zf_X6_bring : zi_F zc_X6_bring 0 (.iconst 0) 1 0 0 0 0 ∧ zi_F zc_X6_bring 1 (.istore_n 2) 1 0 0 0 0 ∧ zi_F zc_X6_bring 2 (.aload_n 0) 1 0 0 0 0 ∧ zi_F zc_X6_bring 3 (.iconst 3) 1 0 0 0 0 ∧ zi_F zc_X6_bring 4 (.iload_n 1) 1 0 0 0 0 ∧ zi_F zc_X6_bring 5 .iadd 1 0 0 0 0 ∧ zi_F zc_X6_bring 6 (.invokevirtual 194) 3 193 2 1018 6 ∧ zi_F zc_X6_bring 9 (.iconst 0) 1 0 0 0 0 ∧ zi_F zc_X6_bring 10 (.istore_n 3) 1 0 0 0 0 ∧ zi_F zc_X6_bring 11 (.iload_n 3) 1 0 0 0 0 ∧ zi_F zc_X6_bring 12 (.aload_n 0) 1 0 0 0 0 ∧ zi_F zc_X6_bring 13 (.getfield 133) 3 6 30 909 0 ∧ zi_F zc_X6_bring 16 (.if_icmp .ge 80) 3 96 0 0 0 ∧ zi_F zc_X6_bring 19 (.iconst 3) 1 0 0 0 0 ∧ zi_F zc_X6_bring 20 (.iload_n 1) 1 0 0 0 0 ∧ zi_F zc_X6_bring 21 .iadd 1 0 0 0 0 ∧ zi_F zc_X6_bring 22 (.aload_n 0) 1 0 0 0 0 ∧ zi_F zc_X6_bring 23 (.getfield 92) 3 6 29 908 0 ∧ zi_F zc_X6_bring 26 (.iload_n 3) 1 0 0 0 0 ∧ zi_F zc_X6_bring 27 .iaload 1 0 0 0 0 ∧ zi_F zc_X6_bring 28 (.invokestatic 105) 3 70 2 991 0 ∧ zi_F zc_X6_bring 31 (.istore 4) 2 0 0 0 0 ∧ zi_F zc_X6_bring 33 (.iconst 0) 1 0 0 0 0 ∧ zi_F zc_X6_bring 34 (.istore 5) 2 0 0 0 0 ∧ zi_F zc_X6_bring 36 (.iload 5) 2 0 0 0 0 ∧ zi_F zc_X6_bring 38 (.aload_n 0) 1 0 0 0 0 ∧ zi_F zc_X6_bring 39 (.getfield 61) 3 6 19 898 0 ∧ zi_F zc_X6_bring 42 (.iload 4) 2 0 0 0 0 ∧ zi_F zc_X6_bring 44 .iaload 1 0 0 0 0 ∧ zi_F zc_X6_bring 45 (.if_icmp .ge 45) 3 90 0 0 0 ∧ zi_F zc_X6_bring 48 (.aload_n 0) 1 0 0 0 0 ∧ zi_F zc_X6_bring 49 (.getfield 58) 3 6 18 897 0 ∧ zi_F zc_X6_bring 52 (.bipush 10) 2 0 0 0 0 ∧ zi_F zc_X6_bring 54 (.iload 4) 2 0 0 0 0 ∧ zi_F zc_X6_bring 56 .imul 1 0 0 0 0 ∧ zi_F zc_X6_bring 57 (.iload 5) 2 0 0 0 0 ∧ zi_F zc_X6_bring 59 .iadd 1 0 0 0 0 ∧ zi_F zc_X6_bring 60 .iaload 1 0 0 0 0 ∧ zi_F zc_X6_bring 61 (.istore 6) 2 0 0 0 0 ∧ zi_F zc_X6_bring 63 (.aload_n 0) 1 0 0 0 0 ∧ zi_F zc_X6_bring 64 (.aload_n 0) 1 0 0 0 0 ∧ zi_F zc_X6_bring 65 (.getfield 28) 3 6 6 885 0 ∧ zi_F zc_X6_bring 68 (.iload 6) 2 0 0 0 0 ∧ zi_F zc_X6_bring 70 .iaload 1 0 0 0 0 ∧ zi_F zc_X6_bring 71 (.iload 6) 2 0 0 0 0 ∧ zi_F zc_X6_bring 73 (.invokevirtual 197) 3 176 3 1026 6 ∧ zi_F zc_X6_bring 76 (.aload_n 0) 1 0 0 0 0 ∧ zi_F zc_X6_bring 77 (.getfield 28) 3 6 6 885 0 ∧ zi_F zc_X6_bring 80 (.iload 6) 2 0 0 0 0 ∧ zi_F zc_X6_bring 82 (.iload_n 1) 1 0 0 0 0 ∧ zi_F zc_X6_bring 83 .iastore 1 0 0 0 0 ∧ zi_F zc_X6_bring 84 (.iinc 5 1) 3 0 0 0 0 ∧ zi_F zc_X6_bring 87 (.goto (-51)) 3 36 0 0 0 ∧ zi_F zc_X6_bring 90 (.iinc 3 1) 3 0 0 0 0 ∧ zi_F zc_X6_bring 93 (.goto (-82)) 3 11 0 0 0 ∧ zi_F zc_X6_bring 96 (.aload_n 0) 1 0 0 0 0 ∧ zi_F zc_X6_bring 97 (.iconst 3) 1 0 0 0 0 ∧ zi_F zc_X6_bring 98 (.iload_n 1) 1 0 0 0 0 ∧ zi_F zc_X6_bring 99 .iadd 1 0 0 0 0 ∧ zi_F zc_X6_bring 100 (.iload_n 1) 1 0 0 0 0 ∧ zi_F zc_X6_bring 101 (.invokevirtual 201) 3 168 3 1046 6 ∧ zi_F zc_X6_bring 104 (.iconst 0) 1 0 0 0 0 ∧ zi_F zc_X6_bring 105 (.istore_n 3) 1 0 0 0 0 ∧ zi_F zc_X6_bring 106 (.iload_n 3) 1 0 0 0 0 ∧ zi_F zc_X6_bring 107 (.bipush 10) 2 0 0 0 0 ∧ zi_F zc_X6_bring 109 (.if_icmp .ge 154) 3 263 0 0 0 ∧ zi_F zc_X6_bring 112 (.aload_n 0) 1 0 0 0 0 ∧ zi_F zc_X6_bring 113 (.getfield 95) 3 6 31 910 0 ∧ zi_F zc_X6_bring 116 (.iload_n 3) 1 0 0 0 0 ∧ zi_F zc_X6_bring 117 .baload 1 0 0 0 0 ∧ zi_F zc_X6_bring 118 (.ifCond .eq 139) 3 257 0 0 0 ∧ zi_F zc_X6_bring 121 (.iinc 2 1) 3 0 0 0 0 ∧ zi_F zc_X6_bring 124 (.aload_n 0) 1 0 0 0 0 ∧ zi_F zc_X6_bring 125 (.getfield 16) 3 6 2 881 0 ∧ zi_F zc_X6_bring 128 (.iload_n 3) 1 0 0 0 0 ∧ zi_F zc_X6_bring 129 .iaload 1 0 0 0 0 ∧ zi_F zc_X6_bring 130 (.iconst 1) 1 0 0 0 0 ∧ zi_F zc_X6_bring 131 (.if_icmp .eq 72) 3 203 0 0 0 ∧ zi_F zc_X6_bring 134 (.aload_n 0) 1 0 0 0 0 ∧ zi_F zc_X6_bring 135 (.getfield 71) 3 6 22 901 0 ∧ zi_F zc_X6_bring 138 (.bipush 10) 2 0 0 0 0 ∧ zi_F zc_X6_bring 140 (.iload_n 1) 1 0 0 0 0 ∧ zi_F zc_X6_bring 141 .imul 1 0 0 0 0 ∧ zi_F zc_X6_bring 142 (.iload_n 3) 1 0 0 0 0 ∧ zi_F zc_X6_bring 143 .iadd 1 0 0 0 0 ∧ zi_F zc_X6_bring 144 .baload 1 0 0 0 0 ∧ zi_F zc_X6_bring 145 (.istore 4) 2 0 0 0 0 ∧ zi_F zc_X6_bring 147 (.aload_n 0) 1 0 0 0 0 ∧ zi_F zc_X6_bring 148 (.iload_n 3) 1 0 0 0 0 ∧ zi_F zc_X6_bring 149 (.iload_n 1) 1 0 0 0 0 ∧ zi_F zc_X6_bring 150 (.iload 4) 2 0 0 0 0 ∧ zi_F zc_X6_bring 152 (.ifCond .eq 17) 3 169 0 0 0 ∧ zi_F zc_X6_bring 155 (.aload_n 0) 1 0 0 0 0 ∧ zi_F zc_X6_bring 156 (.getfield 74) 3 6 23 902 0 ∧ zi_F zc_X6_bring 159 (.bipush 10) 2 0 0 0 0 ∧ zi_F zc_X6_bring 161 (.iload_n 1) 1 0 0 0 0 ∧ zi_F zc_X6_bring 162 .imul 1 0 0 0 0 ∧ zi_F zc_X6_bring 163 (.iload_n 3) 1 0 0 0 0 ∧ zi_F zc_X6_bring 164 .iadd 1 0 0 0 0 ∧ zi_F zc_X6_bring 165 .iaload 1 0 0 0 0 ∧ zi_F zc_X6_bring 166 (.goto 9) 3 175 0 0 0 ∧ zi_F zc_X6_bring 169 (.aload_n 0) 1 0 0 0 0 ∧ zi_F zc_X6_bring 170 (.getfield 31) 3 6 7 886 0 ∧ zi_F zc_X6_bring 173 (.iload_n 3) 1 0 0 0 0 ∧ zi_F zc_X6_bring 174 .iaload 1 0 0 0 0 ∧ zi_F zc_X6_bring 175 (.iload 4) 2 0 0 0 0 ∧ zi_F zc_X6_bring 177 (.ifCond .eq 17) 3 194 0 0 0 ∧ zi_F zc_X6_bring 180 (.aload_n 0) 1 0 0 0 0 ∧ zi_F zc_X6_bring 181 (.getfield 77) 3 6 24 903 0 ∧ zi_F zc_X6_bring 184 (.bipush 10) 2 0 0 0 0 ∧ zi_F zc_X6_bring 186 (.iload_n 1) 1 0 0 0 0 ∧ zi_F zc_X6_bring 187 .imul 1 0 0 0 0 ∧ zi_F zc_X6_bring 188 (.iload_n 3) 1 0 0 0 0 ∧ zi_F zc_X6_bring 189 .iadd 1 0 0 0 0 ∧ zi_F zc_X6_bring 190 .iaload 1 0 0 0 0 ∧ zi_F zc_X6_bring 191 (.goto 9) 3 200 0 0 0 ∧ zi_F zc_X6_bring 194 (.aload_n 0) 1 0 0 0 0 ∧ zi_F zc_X6_bring 195 (.getfield 34) 3 6 8 887 0 ∧ zi_F zc_X6_bring 198 (.iload_n 3) 1 0 0 0 0 ∧ zi_F zc_X6_bring 199 .iaload 1 0 0 0 0 ∧ zi_F zc_X6_bring 200 (.invokevirtual 188) 3 183 5 1050 6 ∧ zi_F zc_X6_bring 203 (.iconst 0) 1 0 0 0 0 ∧ zi_F zc_X6_bring 204 (.istore 4) 2 0 0 0 0 ∧ zi_F zc_X6_bring 206 (.iload 4) 2 0 0 0 0 ∧ zi_F zc_X6_bring 208 (.iconst 3) 1 0 0 0 0 ∧ zi_F zc_X6_bring 209 (.if_icmp .ge 48) 3 257 0 0 0 ∧ zi_F zc_X6_bring 212 (.iload 4) 2 0 0 0 0 ∧ zi_F zc_X6_bring 214 (.iload_n 1) 1 0 0 0 0 ∧ zi_F zc_X6_bring 215 (.if_icmp .eq 36) 3 251 0 0 0 ∧ zi_F zc_X6_bring 218 (.aload_n 0) 1 0 0 0 0 ∧ zi_F zc_X6_bring 219 (.getfield 67) 3 6 21 900 0 ∧ zi_F zc_X6_bring 222 (.iload 4) 2 0 0 0 0 ∧ zi_F zc_X6_bring 224 .baload 1 0 0 0 0 ∧ zi_F zc_X6_bring 225 (.ifCond .eq 26) 3 251 0 0 0 ∧ zi_F zc_X6_bring 228 (.aload_n 0) 1 0 0 0 0 ∧ zi_F zc_X6_bring 229 (.getfield 71) 3 6 22 901 0 ∧ zi_F zc_X6_bring 232 (.bipush 10) 2 0 0 0 0 ∧ zi_F zc_X6_bring 234 (.iload 4) 2 0 0 0 0 ∧ zi_F zc_X6_bring 236 .imul 1 0 0 0 0 ∧ zi_F zc_X6_bring 237 (.iload_n 3) 1 0 0 0 0 ∧ zi_F zc_X6_bring 238 .iadd 1 0 0 0 0 ∧ zi_F zc_X6_bring 239 .baload 1 0 0 0 0 ∧ zi_F zc_X6_bring 240 (.ifCond .eq 11) 3 251 0 0 0 ∧ zi_F zc_X6_bring 243 (.aload_n 0) 1 0 0 0 0 ∧ zi_F zc_X6_bring 244 (.getfield 67) 3 6 21 900 0 ∧ zi_F zc_X6_bring 247 (.iload 4) 2 0 0 0 0 ∧ zi_F zc_X6_bring 249 (.iconst 0) 1 0 0 0 0 ∧ zi_F zc_X6_bring 250 .bastore 1 0 0 0 0 ∧ zi_F zc_X6_bring 251 (.iinc 4 1) 3 0 0 0 0 ∧ zi_F zc_X6_bring 254 (.goto (-48)) 3 206 0 0 0 ∧ zi_F zc_X6_bring 257 (.iinc 3 1) 3 0 0 0 0 ∧ zi_F zc_X6_bring 260 (.goto (-154)) 3 106 0 0 0 ∧ zi_F zc_X6_bring 263 (.iload_n 2) 1 0 0 0 0 ∧ zi_F zc_X6_bring 264 .ireturn 1 0 0 0 0 := zi_fdF (zc := zc_X6_bring) (by decide +kernel)
set_option maxRecDepth 100000 in
theorem zf_X6_clearLeaves : zi_F zc_X6_clearLeaves 0 (.aload_n 0) 1 0 0 0 0 ∧ zi_F zc_X6_clearLeaves 1 (.iconst 0) 1 0 0 0 0 ∧ zi_F zc_X6_clearLeaves 2 (.putfield 133) 3 6 30 909 0 ∧ zi_F zc_X6_clearLeaves 5 (.aload_n 0) 1 0 0 0 0 ∧ zi_F zc_X6_clearLeaves 6 (.getfield 43) 3 6 13 892 0 ∧ zi_F zc_X6_clearLeaves 9 (.iload_n 1) 1 0 0 0 0 ∧ zi_F zc_X6_clearLeaves 10 .iaload 1 0 0 0 0 ∧ zi_F zc_X6_clearLeaves 11 (.ifCond .lt 14) 3 25 0 0 0 ∧ zi_F zc_X6_clearLeaves 14 (.aload_n 0) 1 0 0 0 0 ∧ zi_F zc_X6_clearLeaves 15 (.iload_n 1) 1 0 0 0 0 ∧ zi_F zc_X6_clearLeaves 16 (.aload_n 0) 1 0 0 0 0 ∧ zi_F zc_X6_clearLeaves 17 (.getfield 43) 3 6 13 892 0 ∧ zi_F zc_X6_clearLeaves 20 (.iload_n 1) 1 0 0 0 0 ∧ zi_F zc_X6_clearLeaves 21 .iaload 1 0 0 0 0 ∧ zi_F zc_X6_clearLeaves 22 (.invokevirtual 204) 3 194 3 1022 6 ∧ zi_F zc_X6_clearLeaves 25 .return_ 1 0 0 0 0 := zi_fdF (zc := zc_X6_clearLeaves) (by decide +kernel)
set_option maxRecDepth 100000 in
theorem zf_X6_findLeaves : zi_F zc_X6_findLeaves 0 (.aload_n 0) 1 0 0 0 0 ∧ zi_F zc_X6_findLeaves 1 (.getfield 46) 3 6 14 893 0 ∧ zi_F zc_X6_findLeaves 4 (.iload_n 1) 1 0 0 0 0 ∧ zi_F zc_X6_findLeaves 5 (.iload_n 2) 1 0 0 0 0 ∧ zi_F zc_X6_findLeaves 6 (.invokestatic 105) 3 70 2 991 0 ∧ zi_F zc_X6_findLeaves 9 .iaload 1 0 0 0 0 ∧ zi_F zc_X6_findLeaves 10 (.iconst 1) 1 0 0 0 0 ∧ zi_F zc_X6_findLeaves 11 (.if_icmp .ne 26) 3 37 0 0 0 ∧ zi_F zc_X6_findLeaves 14 (.aload_n 0) 1 0 0 0 0 ∧ zi_F zc_X6_findLeaves 15 (.getfield 92) 3 6 29 908 0 ∧ zi_F zc_X6_findLeaves 18 (.aload_n 0) 1 0 0 0 0 ∧ zi_F zc_X6_findLeaves 19 (.getfield 133) 3 6 30 909 0 ∧ zi_F zc_X6_findLeaves 22 (.iload_n 2) 1 0 0 0 0 ∧ zi_F zc_X6_findLeaves 23 .iastore 1 0 0 0 0 ∧ zi_F zc_X6_findLeaves 24 (.aload_n 0) 1 0 0 0 0 ∧ zi_F zc_X6_findLeaves 25 .dup 1 0 0 0 0 ∧ zi_F zc_X6_findLeaves 26 (.getfield 133) 3 6 30 909 0 ∧ zi_F zc_X6_findLeaves 29 (.iconst 1) 1 0 0 0 0 ∧ zi_F zc_X6_findLeaves 30 .iadd 1 0 0 0 0 ∧ zi_F zc_X6_findLeaves 31 (.putfield 133) 3 6 30 909 0 ∧ zi_F zc_X6_findLeaves 34 (.goto 33) 3 67 0 0 0 ∧ zi_F zc_X6_findLeaves 37 (.aload_n 0) 1 0 0 0 0 ∧ zi_F zc_X6_findLeaves 38 (.iload_n 1) 1 0 0 0 0 ∧ zi_F zc_X6_findLeaves 39 (.aload_n 0) 1 0 0 0 0 ∧ zi_F zc_X6_findLeaves 40 (.getfield 49) 3 6 15 894 0 ∧ zi_F zc_X6_findLeaves 43 (.iload_n 1) 1 0 0 0 0 ∧ zi_F zc_X6_findLeaves 44 (.iload_n 2) 1 0 0 0 0 ∧ zi_F zc_X6_findLeaves 45 (.invokestatic 105) 3 70 2 991 0 ∧ zi_F zc_X6_findLeaves 48 .iaload 1 0 0 0 0 ∧ zi_F zc_X6_findLeaves 49 (.invokevirtual 204) 3 194 3 1022 6 ∧ zi_F zc_X6_findLeaves 52 (.aload_n 0) 1 0 0 0 0 ∧ zi_F zc_X6_findLeaves 53 (.iload_n 1) 1 0 0 0 0 ∧ zi_F zc_X6_findLeaves 54 (.aload_n 0) 1 0 0 0 0 ∧ zi_F zc_X6_findLeaves 55 (.getfield 52) 3 6 16 895 0 ∧ zi_F zc_X6_findLeaves 58 (.iload_n 1) 1 0 0 0 0 ∧ zi_F zc_X6_findLeaves 59 (.iload_n 2) 1 0 0 0 0 ∧ zi_F zc_X6_findLeaves 60 (.invokestatic 105) 3 70 2 991 0 ∧ zi_F zc_X6_findLeaves 63 .iaload 1 0 0 0 0 ∧ zi_F zc_X6_findLeaves 64 (.invokevirtual 204) 3 194 3 1022 6 ∧ zi_F zc_X6_findLeaves 67 .return_ 1 0 0 0 0 := zi_fdF (zc := zc_X6_findLeaves) (by decide +kernel)
set_option maxRecDepth 100000 in
theorem zf_X6_moveTabs : zi_F zc_X6_moveTabs 0 (.aload_n 0) 1 0 0 0 0 ∧ zi_F zc_X6_moveTabs 1 (.iload_n 2) 1 0 0 0 0 ∧ zi_F zc_X6_moveTabs 2 (.invokevirtual 194) 3 193 2 1018 6 ∧ zi_F zc_X6_moveTabs 5 (.aload_n 0) 1 0 0 0 0 ∧ zi_F zc_X6_moveTabs 6 (.getfield 133) 3 6 30 909 0 ∧ zi_F zc_X6_moveTabs 9 (.ifCond .le 12) 3 21 0 0 0 ∧ zi_F zc_X6_moveTabs 12 (.aload_n 0) 1 0 0 0 0 ∧ zi_F zc_X6_moveTabs 13 (.getfield 92) 3 6 29 908 0 ∧ zi_F zc_X6_moveTabs 16 (.iconst 0) 1 0 0 0 0 ∧ zi_F zc_X6_moveTabs 17 .iaload 1 0 0 0 0 ∧ zi_F zc_X6_moveTabs 18 (.goto 4) 3 22 0 0 0 ∧ zi_F zc_X6_moveTabs 21 (.iconst (-1)) 1 0 0 0 0 ∧ zi_F zc_X6_moveTabs 22 (.istore_n 3) 1 0 0 0 0 ∧ zi_F zc_X6_moveTabs 23 (.aload_n 0) 1 0 0 0 0 ∧ zi_F zc_X6_moveTabs 24 (.iload_n 1) 1 0 0 0 0 ∧ zi_F zc_X6_moveTabs 25 (.invokevirtual 194) 3 193 2 1018 6 ∧ zi_F zc_X6_moveTabs 28 (.iconst 0) 1 0 0 0 0 ∧ zi_F zc_X6_moveTabs 29 (.istore 4) 2 0 0 0 0 ∧ zi_F zc_X6_moveTabs 31 (.iconst 0) 1 0 0 0 0 ∧ zi_F zc_X6_moveTabs 32 (.istore 5) 2 0 0 0 0 ∧ zi_F zc_X6_moveTabs 34 (.iload 5) 2 0 0 0 0 ∧ zi_F zc_X6_moveTabs 36 (.aload_n 0) 1 0 0 0 0 ∧ zi_F zc_X6_moveTabs 37 (.getfield 133) 3 6 30 909 0 ∧ zi_F zc_X6_moveTabs 40 (.if_icmp .ge 91) 3 131 0 0 0 ∧ zi_F zc_X6_moveTabs 43 (.iload_n 1) 1 0 0 0 0 ∧ zi_F zc_X6_moveTabs 44 (.aload_n 0) 1 0 0 0 0 ∧ zi_F zc_X6_moveTabs 45 (.getfield 92) 3 6 29 908 0 ∧ zi_F zc_X6_moveTabs 48 (.iload 5) 2 0 0 0 0 ∧ zi_F zc_X6_moveTabs 50 .iaload 1 0 0 0 0 ∧ zi_F zc_X6_moveTabs 51 (.invokestatic 105) 3 70 2 991 0 ∧ zi_F zc_X6_moveTabs 54 (.istore 6) 2 0 0 0 0 ∧ zi_F zc_X6_moveTabs 56 (.iconst 0) 1 0 0 0 0 ∧ zi_F zc_X6_moveTabs 57 (.istore 7) 2 0 0 0 0 ∧ zi_F zc_X6_moveTabs 59 (.iload 7) 2 0 0 0 0 ∧ zi_F zc_X6_moveTabs 61 (.aload_n 0) 1 0 0 0 0 ∧ zi_F zc_X6_moveTabs 62 (.getfield 61) 3 6 19 898 0 ∧ zi_F zc_X6_moveTabs 65 (.iload 6) 2 0 0 0 0 ∧ zi_F zc_X6_moveTabs 67 .iaload 1 0 0 0 0 ∧ zi_F zc_X6_moveTabs 68 (.if_icmp .ge 57) 3 125 0 0 0 ∧ zi_F zc_X6_moveTabs 71 (.aload_n 0) 1 0 0 0 0 ∧ zi_F zc_X6_moveTabs 72 (.getfield 58) 3 6 18 897 0 ∧ zi_F zc_X6_moveTabs 75 (.bipush 10) 2 0 0 0 0 ∧ zi_F zc_X6_moveTabs 77 (.iload 6) 2 0 0 0 0 ∧ zi_F zc_X6_moveTabs 79 .imul 1 0 0 0 0 ∧ zi_F zc_X6_moveTabs 80 (.iload 7) 2 0 0 0 0 ∧ zi_F zc_X6_moveTabs 82 .iadd 1 0 0 0 0 ∧ zi_F zc_X6_moveTabs 83 .iaload 1 0 0 0 0 ∧ zi_F zc_X6_moveTabs 84 (.istore 8) 2 0 0 0 0 ∧ zi_F zc_X6_moveTabs 86 (.iload_n 3) 1 0 0 0 0 ∧ zi_F zc_X6_moveTabs 87 (.ifCond .ge 21) 3 108 0 0 0 ∧ zi_F zc_X6_moveTabs 90 (.aload_n 0) 1 0 0 0 0 ∧ zi_F zc_X6_moveTabs 91 (.iload_n 2) 1 0 0 0 0 ∧ zi_F zc_X6_moveTabs 92 (.iload 8) 2 0 0 0 0 ∧ zi_F zc_X6_moveTabs 94 (.invokevirtual 126) 3 170 3 1070 6 ∧ zi_F zc_X6_moveTabs 97 (.istore_n 3) 1 0 0 0 0 ∧ zi_F zc_X6_moveTabs 98 (.aload_n 0) 1 0 0 0 0 ∧ zi_F zc_X6_moveTabs 99 (.getfield 43) 3 6 13 892 0 ∧ zi_F zc_X6_moveTabs 102 (.iload_n 2) 1 0 0 0 0 ∧ zi_F zc_X6_moveTabs 103 (.iload_n 3) 1 0 0 0 0 ∧ zi_F zc_X6_moveTabs 104 .iastore 1 0 0 0 0 ∧ zi_F zc_X6_moveTabs 105 (.goto 11) 3 116 0 0 0 ∧ zi_F zc_X6_moveTabs 108 (.aload_n 0) 1 0 0 0 0 ∧ zi_F zc_X6_moveTabs 109 (.iload_n 2) 1 0 0 0 0 ∧ zi_F zc_X6_moveTabs 110 (.iload_n 3) 1 0 0 0 0 ∧ zi_F zc_X6_moveTabs 111 (.iload 8) 2 0 0 0 0 ∧ zi_F zc_X6_moveTabs 113 (.invokevirtual 210) 3 171 4 1078 6 ∧ zi_F zc_X6_moveTabs 116 (.iinc 4 1) 3 0 0 0 0 ∧ zi_F zc_X6_moveTabs 119 (.iinc 7 1) 3 0 0 0 0 ∧ zi_F zc_X6_moveTabs 122 (.goto (-63)) 3 59 0 0 0 ∧ zi_F zc_X6_moveTabs 125 (.iinc 5 1) 3 0 0 0 0 ∧ zi_F zc_X6_moveTabs 128 (.goto (-94)) 3 34 0 0 0 ∧ zi_F zc_X6_moveTabs 131 (.iload 4) 2 0 0 0 0 ∧ zi_F zc_X6_moveTabs 133 .ireturn 1 0 0 0 0 := zi_fdF (zc := zc_X6_moveTabs) (by decide +kernel)
set_option maxRecDepth 100000 in
theorem zf_X6_tile : zi_F zc_X6_tile 0 (.iconst (-1)) 1 0 0 0 0 ∧ zi_F zc_X6_tile 1 (.istore_n 3) 1 0 0 0 0 ∧ zi_F zc_X6_tile 2 (.aload_n 0) 1 0 0 0 0 ∧ zi_F zc_X6_tile 3 (.getfield 160) 3 6 12 891 0 ∧ zi_F zc_X6_tile 6 (.iconst 1) 1 0 0 0 0 ∧ zi_F zc_X6_tile 7 .isub 1 0 0 0 0 ∧ zi_F zc_X6_tile 8 (.istore 4) 2 0 0 0 0 ∧ zi_F zc_X6_tile 10 (.iload 4) 2 0 0 0 0 ∧ zi_F zc_X6_tile 12 (.ifCond .lt 58) 3 70 0 0 0 ∧ zi_F zc_X6_tile 15 (.aload_n 0) 1 0 0 0 0 ∧ zi_F zc_X6_tile 16 (.getfield 16) 3 6 2 881 0 ∧ zi_F zc_X6_tile 19 (.aload_n 0) 1 0 0 0 0 ∧ zi_F zc_X6_tile 20 (.getfield 40) 3 6 11 890 0 ∧ zi_F zc_X6_tile 23 (.iload 4) 2 0 0 0 0 ∧ zi_F zc_X6_tile 25 .iaload 1 0 0 0 0 ∧ zi_F zc_X6_tile 26 .iaload 1 0 0 0 0 ∧ zi_F zc_X6_tile 27 (.iconst 1) 1 0 0 0 0 ∧ zi_F zc_X6_tile 28 (.if_icmp .ne 34) 3 62 0 0 0 ∧ zi_F zc_X6_tile 31 (.aload_n 0) 1 0 0 0 0 ∧ zi_F zc_X6_tile 32 (.getfield 28) 3 6 6 885 0 ∧ zi_F zc_X6_tile 35 (.aload_n 0) 1 0 0 0 0 ∧ zi_F zc_X6_tile 36 (.getfield 40) 3 6 11 890 0 ∧ zi_F zc_X6_tile 39 (.iload 4) 2 0 0 0 0 ∧ zi_F zc_X6_tile 41 .iaload 1 0 0 0 0 ∧ zi_F zc_X6_tile 42 .iaload 1 0 0 0 0 ∧ zi_F zc_X6_tile 43 (.iload_n 2) 1 0 0 0 0 ∧ zi_F zc_X6_tile 44 (.if_icmp .ne 18) 3 62 0 0 0 ∧ zi_F zc_X6_tile 47 (.aload_n 0) 1 0 0 0 0 ∧ zi_F zc_X6_tile 48 (.iload_n 2) 1 0 0 0 0 ∧ zi_F zc_X6_tile 49 (.aload_n 0) 1 0 0 0 0 ∧ zi_F zc_X6_tile 50 (.getfield 40) 3 6 11 890 0 ∧ zi_F zc_X6_tile 53 (.iload 4) 2 0 0 0 0 ∧ zi_F zc_X6_tile 55 .iaload 1 0 0 0 0 ∧ zi_F zc_X6_tile 56 (.invokevirtual 116) 3 173 3 1030 6 ∧ zi_F zc_X6_tile 59 (.goto 4) 3 63 0 0 0 ∧ zi_F zc_X6_tile 62 (.iload_n 3) 1 0 0 0 0 ∧ zi_F zc_X6_tile 63 (.istore_n 3) 1 0 0 0 0 ∧ zi_F zc_X6_tile 64 (.iinc 4 (-1)) 3 0 0 0 0 ∧ zi_F zc_X6_tile 67 (.goto (-57)) 3 10 0 0 0 ∧ zi_F zc_X6_tile 70 (.iload_n 3) 1 0 0 0 0 ∧ zi_F zc_X6_tile 71 (.ifCond .ge 29) 3 100 0 0 0 ∧ zi_F zc_X6_tile 74 (.aload_n 0) 1 0 0 0 0 ∧ zi_F zc_X6_tile 75 (.bipush 6) 2 0 0 0 0 ∧ zi_F zc_X6_tile 77 (.invokevirtual 167) 3 71 2 987 6 ∧ zi_F zc_X6_tile 80 (.aload_n 0) 1 0 0 0 0 ∧ zi_F zc_X6_tile 81 (.getfield 43) 3 6 13 892 0 ∧ zi_F zc_X6_tile 84 (.bipush 6) 2 0 0 0 0 ∧ zi_F zc_X6_tile 86 (.aload_n 0) 1 0 0 0 0 ∧ zi_F zc_X6_tile 87 (.bipush 6) 2 0 0 0 0 ∧ zi_F zc_X6_tile 89 (.iload_n 1) 1 0 0 0 0 ∧ zi_F zc_X6_tile 90 (.invokevirtual 126) 3 170 3 1070 6 ∧ zi_F zc_X6_tile 93 .iastore 1 0 0 0 0 ∧ zi_F zc_X6_tile 94 (.aload_n 0) 1 0 0 0 0 ∧ zi_F zc_X6_tile 95 (.iload_n 2) 1 0 0 0 0 ∧ zi_F zc_X6_tile 96 (.invokevirtual 237) 3 197 2 1103 6 ∧ zi_F zc_X6_tile 99 .ireturn 1 0 0 0 0 ∧ zi_F zc_X6_tile 100 (.aload_n 0) 1 0 0 0 0 ∧ zi_F zc_X6_tile 101 (.iload_n 2) 1 0 0 0 0 ∧ zi_F zc_X6_tile 102 (.invokevirtual 240) 3 181 2 1107 6 ∧ zi_F zc_X6_tile 105 (.aload_n 0) 1 0 0 0 0 ∧ zi_F zc_X6_tile 106 (.getfield 86) 3 6 27 906 0 ∧ zi_F zc_X6_tile 109 (.iload_n 3) 1 0 0 0 0 ∧ zi_F zc_X6_tile 110 .iaload 1 0 0 0 0 ∧ zi_F zc_X6_tile 111 (.aload_n 0) 1 0 0 0 0 ∧ zi_F zc_X6_tile 112 (.getfield 89) 3 6 28 907 0 ∧ zi_F zc_X6_tile 115 (.iload_n 3) 1 0 0 0 0 ∧ zi_F zc_X6_tile 116 .iaload 1 0 0 0 0 ∧ zi_F zc_X6_tile 117 (.if_icmp .lt 7) 3 124 0 0 0 ∧ zi_F zc_X6_tile 120 (.iconst 1) 1 0 0 0 0 ∧ zi_F zc_X6_tile 121 (.goto 4) 3 125 0 0 0 ∧ zi_F zc_X6_tile 124 (.iconst 0) 1 0 0 0 0 ∧ zi_F zc_X6_tile 125 (.istore 4) 2 0 0 0 0 ∧ zi_F zc_X6_tile 127 (.iconst 0) 1 0 0 0 0 ∧ zi_F zc_X6_tile 128 (.istore 5) 2 0 0 0 0 ∧ zi_F zc_X6_tile 130 (.iload 5) 2 0 0 0 0 ∧ zi_F zc_X6_tile 132 (.iconst 3) 1 0 0 0 0 ∧ zi_F zc_X6_tile 133 (.if_icmp .ge 72) 3 205 0 0 0 ∧ zi_F zc_X6_tile 136 (.aload_n 0) 1 0 0 0 0 ∧ zi_F zc_X6_tile 137 (.iload_n 2) 1 0 0 0 0 ∧ zi_F zc_X6_tile 138 (.bipush 6) 2 0 0 0 0 ∧ zi_F zc_X6_tile 140 (.invokevirtual 201) 3 168 3 1046 6 ∧ zi_F zc_X6_tile 143 (.iload 5) 2 0 0 0 0 ∧ zi_F zc_X6_tile 145 (.iconst 2) 1 0 0 0 0 ∧ zi_F zc_X6_tile 146 (.if_icmp .ge 35) 3 181 0 0 0 ∧ zi_F zc_X6_tile 149 (.aload_n 0) 1 0 0 0 0 ∧ zi_F zc_X6_tile 150 (.bipush 6) 2 0 0 0 0 ∧ zi_F zc_X6_tile 152 (.iload_n 3) 1 0 0 0 0 ∧ zi_F zc_X6_tile 153 (.iload 4) 2 0 0 0 0 ∧ zi_F zc_X6_tile 155 (.iload 5) 2 0 0 0 0 ∧ zi_F zc_X6_tile 157 (.ifCond .ne 7) 3 164 0 0 0 ∧ zi_F zc_X6_tile 160 (.iconst 1) 1 0 0 0 0 ∧ zi_F zc_X6_tile 161 (.goto 4) 3 165 0 0 0 ∧ zi_F zc_X6_tile 164 (.iconst 0) 1 0 0 0 0 ∧ zi_F zc_X6_tile 165 (.if_icmp .ne 7) 3 172 0 0 0 ∧ zi_F zc_X6_tile 168 (.iconst 2) 1 0 0 0 0 ∧ zi_F zc_X6_tile 169 (.goto 4) 3 173 0 0 0 ∧ zi_F zc_X6_tile 172 (.iconst 3) 1 0 0 0 0 ∧ zi_F zc_X6_tile 173 (.iload_n 1) 1 0 0 0 0 ∧ zi_F zc_X6_tile 174 (.iconst 0) 1 0 0 0 0 ∧ zi_F zc_X6_tile 175 (.invokevirtual 243) 3 177 6 1115 6 ∧ zi_F zc_X6_tile 178 (.goto 11) 3 189 0 0 0 ∧ zi_F zc_X6_tile 181 (.aload_n 0) 1 0 0 0 0 ∧ zi_F zc_X6_tile 182 (.bipush 6) 2 0 0 0 0 ∧ zi_F zc_X6_tile 184 (.iload_n 3) 1 0 0 0 0 ∧ zi_F zc_X6_tile 185 (.iload_n 1) 1 0 0 0 0 ∧ zi_F zc_X6_tile 186 (.invokevirtual 210) 3 171 4 1078 6 ∧ zi_F zc_X6_tile 189 (.aload_n 0) 1 0 0 0 0 ∧ zi_F zc_X6_tile 190 (.iload_n 2) 1 0 0 0 0 ∧ zi_F zc_X6_tile 191 (.invokevirtual 237) 3 197 2 1103 6 ∧ zi_F zc_X6_tile 194 (.ifCond .eq 5) 3 199 0 0 0 ∧ zi_F zc_X6_tile 197 (.iconst 1) 1 0 0 0 0 ∧ zi_F zc_X6_tile 198 .ireturn 1 0 0 0 0 ∧ zi_F zc_X6_tile 199 (.iinc 5 1) 3 0 0 0 0 ∧ zi_F zc_X6_tile 202 (.goto (-72)) 3 130 0 0 0 ∧ zi_F zc_X6_tile 205 (.iconst 0) 1 0 0 0 0 ∧ zi_F zc_X6_tile 206 .ireturn 1 0 0 0 0 := zi_fdF (zc := zc_X6_tile) (by decide +kernel)
set_option maxRecDepth 100000 in
theorem zf_X6_takesTrial : zi_F zc_X6_takesTrial 0 (.aload_n 0) 1 0 0 0 0 ∧ zi_F zc_X6_takesTrial 1 (.bipush 6) 2 0 0 0 0 ∧ zi_F zc_X6_takesTrial 3 (.aload_n 0) 1 0 0 0 0 ∧ zi_F zc_X6_takesTrial 4 (.getfield 7) 3 6 0 879 0 ∧ zi_F zc_X6_takesTrial 7 (.iload_n 1) 1 0 0 0 0 ∧ zi_F zc_X6_takesTrial 8 .iaload 1 0 0 0 0 ∧ zi_F zc_X6_takesTrial 9 (.aload_n 0) 1 0 0 0 0 ∧ zi_F zc_X6_takesTrial 10 (.getfield 13) 3 6 1 880 0 ∧ zi_F zc_X6_takesTrial 13 (.iload_n 1) 1 0 0 0 0 ∧ zi_F zc_X6_takesTrial 14 .iaload 1 0 0 0 0 ∧ zi_F zc_X6_takesTrial 15 (.invokevirtual 177) 3 179 4 1002 6 ∧ zi_F zc_X6_takesTrial 18 (.ifCond .ne 5) 3 23 0 0 0 ∧ zi_F zc_X6_takesTrial 21 (.iconst 0) 1 0 0 0 0 ∧ zi_F zc_X6_takesTrial 22 .ireturn 1 0 0 0 0 ∧ zi_F zc_X6_takesTrial 23 (.aload_n 0) 1 0 0 0 0 ∧ zi_F zc_X6_takesTrial 24 (.bipush 6) 2 0 0 0 0 ∧ zi_F zc_X6_takesTrial 26 (.iload_n 1) 1 0 0 0 0 ∧ zi_F zc_X6_takesTrial 27 (.invokevirtual 201) 3 168 3 1046 6 ∧ zi_F zc_X6_takesTrial 30 (.iconst 1) 1 0 0 0 0 ∧ zi_F zc_X6_takesTrial 31 .ireturn 1 0 0 0 0 := zi_fdF (zc := zc_X6_takesTrial) (by decide +kernel)
set_option maxRecDepth 100000 in
theorem zf_X6_closed : zi_F zc_X6_closed 0 (.aload_n 0) 1 0 0 0 0 ∧ zi_F zc_X6_closed 1 (.iload_n 1) 1 0 0 0 0 ∧ zi_F zc_X6_closed 2 (.invokevirtual 247) 3 189 2 1156 6 ∧ zi_F zc_X6_closed 5 (.aload_n 0) 1 0 0 0 0 ∧ zi_F zc_X6_closed 6 (.getfield 16) 3 6 2 881 0 ∧ zi_F zc_X6_closed 9 (.iload_n 1) 1 0 0 0 0 ∧ zi_F zc_X6_closed 10 .iaload 1 0 0 0 0 ∧ zi_F zc_X6_closed 11 (.iconst 1) 1 0 0 0 0 ∧ zi_F zc_X6_closed 12 (.if_icmp .ne 17) 3 29 0 0 0 ∧ zi_F zc_X6_closed 15 (.aload_n 0) 1 0 0 0 0 ∧ zi_F zc_X6_closed 16 (.aload_n 0) 1 0 0 0 0 ∧ zi_F zc_X6_closed 17 (.getfield 28) 3 6 6 885 0 ∧ zi_F zc_X6_closed 20 (.iload_n 1) 1 0 0 0 0 ∧ zi_F zc_X6_closed 21 .iaload 1 0 0 0 0 ∧ zi_F zc_X6_closed 22 (.iload_n 1) 1 0 0 0 0 ∧ zi_F zc_X6_closed 23 (.invokevirtual 197) 3 176 3 1026 6 ∧ zi_F zc_X6_closed 26 (.goto 8) 3 34 0 0 0 ∧ zi_F zc_X6_closed 29 (.aload_n 0) 1 0 0 0 0 ∧ zi_F zc_X6_closed 30 (.iload_n 1) 1 0 0 0 0 ∧ zi_F zc_X6_closed 31 (.invokevirtual 151) 3 185 2 1143 6 ∧ zi_F zc_X6_closed 34 (.iconst 0) 1 0 0 0 0 ∧ zi_F zc_X6_closed 35 (.istore_n 2) 1 0 0 0 0 ∧ zi_F zc_X6_closed 36 (.iconst 0) 1 0 0 0 0 ∧ zi_F zc_X6_closed 37 (.istore_n 3) 1 0 0 0 0 ∧ zi_F zc_X6_closed 38 (.iload_n 3) 1 0 0 0 0 ∧ zi_F zc_X6_closed 39 (.aload_n 0) 1 0 0 0 0 ∧ zi_F zc_X6_closed 40 (.getfield 160) 3 6 12 891 0 ∧ zi_F zc_X6_closed 43 (.if_icmp .ge 34) 3 77 0 0 0 ∧ zi_F zc_X6_closed 46 (.aload_n 0) 1 0 0 0 0 ∧ zi_F zc_X6_closed 47 (.getfield 40) 3 6 11 890 0 ∧ zi_F zc_X6_closed 50 (.iload_n 3) 1 0 0 0 0 ∧ zi_F zc_X6_closed 51 .iaload 1 0 0 0 0 ∧ zi_F zc_X6_closed 52 (.iload_n 1) 1 0 0 0 0 ∧ zi_F zc_X6_closed 53 (.if_icmp .eq 18) 3 71 0 0 0 ∧ zi_F zc_X6_closed 56 (.aload_n 0) 1 0 0 0 0 ∧ zi_F zc_X6_closed 57 (.getfield 40) 3 6 11 890 0 ∧ zi_F zc_X6_closed 60 (.iload_n 2) 1 0 0 0 0 ∧ zi_F zc_X6_closed 61 (.aload_n 0) 1 0 0 0 0 ∧ zi_F zc_X6_closed 62 (.getfield 40) 3 6 11 890 0 ∧ zi_F zc_X6_closed 65 (.iload_n 3) 1 0 0 0 0 ∧ zi_F zc_X6_closed 66 .iaload 1 0 0 0 0 ∧ zi_F zc_X6_closed 67 .iastore 1 0 0 0 0 ∧ zi_F zc_X6_closed 68 (.iinc 2 1) 3 0 0 0 0 ∧ zi_F zc_X6_closed 71 (.iinc 3 1) 3 0 0 0 0 ∧ zi_F zc_X6_closed 74 (.goto (-36)) 3 38 0 0 0 ∧ zi_F zc_X6_closed 77 (.aload_n 0) 1 0 0 0 0 ∧ zi_F zc_X6_closed 78 (.iload_n 2) 1 0 0 0 0 ∧ zi_F zc_X6_closed 79 (.putfield 160) 3 6 12 891 0 ∧ zi_F zc_X6_closed 82 (.aload_n 0) 1 0 0 0 0 ∧ zi_F zc_X6_closed 83 (.getfield 16) 3 6 2 881 0 ∧ zi_F zc_X6_closed 86 (.iload_n 1) 1 0 0 0 0 ∧ zi_F zc_X6_closed 87 (.iconst 0) 1 0 0 0 0 ∧ zi_F zc_X6_closed 88 .iastore 1 0 0 0 0 ∧ zi_F zc_X6_closed 89 (.iconst 1) 1 0 0 0 0 ∧ zi_F zc_X6_closed 90 (.istore_n 3) 1 0 0 0 0 ∧ zi_F zc_X6_closed 91 (.iconst 0) 1 0 0 0 0 ∧ zi_F zc_X6_closed 92 (.istore 4) 2 0 0 0 0 ∧ zi_F zc_X6_closed 94 (.iload 4) 2 0 0 0 0 ∧ zi_F zc_X6_closed 96 (.bipush 10) 2 0 0 0 0 ∧ zi_F zc_X6_closed 98 (.if_icmp .ge 40) 3 138 0 0 0 ∧ zi_F zc_X6_closed 101 (.aload_n 0) 1 0 0 0 0 ∧ zi_F zc_X6_closed 102 (.getfield 16) 3 6 2 881 0 ∧ zi_F zc_X6_closed 105 (.iload 4) 2 0 0 0 0 ∧ zi_F zc_X6_closed 107 .iaload 1 0 0 0 0 ∧ zi_F zc_X6_closed 108 (.iconst 3) 1 0 0 0 0 ∧ zi_F zc_X6_closed 109 (.if_icmp .ne 23) 3 132 0 0 0 ∧ zi_F zc_X6_closed 112 (.aload_n 0) 1 0 0 0 0 ∧ zi_F zc_X6_closed 113 (.getfield 25) 3 6 5 884 0 ∧ zi_F zc_X6_closed 116 (.iload 4) 2 0 0 0 0 ∧ zi_F zc_X6_closed 118 .iaload 1 0 0 0 0 ∧ zi_F zc_X6_closed 119 (.iload_n 1) 1 0 0 0 0 ∧ zi_F zc_X6_closed 120 (.if_icmp .ne 12) 3 132 0 0 0 ∧ zi_F zc_X6_closed 123 (.iload_n 3) 1 0 0 0 0 ∧ zi_F zc_X6_closed 124 (.aload_n 0) 1 0 0 0 0 ∧ zi_F zc_X6_closed 125 (.iload 4) 2 0 0 0 0 ∧ zi_F zc_X6_closed 127 (.invokevirtual 250) 3 198 2 1152 6 ∧ zi_F zc_X6_closed 130 .iadd 1 0 0 0 0 ∧ zi_F zc_X6_closed 131 (.istore_n 3) 1 0 0 0 0 ∧ zi_F zc_X6_closed 132 (.iinc 4 1) 3 0 0 0 0 ∧ zi_F zc_X6_closed 135 (.goto (-41)) 3 94 0 0 0 ∧ zi_F zc_X6_closed 138 (.iload_n 3) 1 0 0 0 0 ∧ zi_F zc_X6_closed 139 .ireturn 1 0 0 0 0 := zi_fdF (zc := zc_X6_closed) (by decide +kernel)
set_option maxRecDepth 100000 in
theorem zf_X6_isShown : zi_F zc_X6_isShown 0 (.aload_n 0) 1 0 0 0 0 ∧ zi_F zc_X6_isShown 1 (.getfield 16) 3 6 2 881 0 ∧ zi_F zc_X6_isShown 4 (.iload_n 1) 1 0 0 0 0 ∧ zi_F zc_X6_isShown 5 .iaload 1 0 0 0 0 ∧ zi_F zc_X6_isShown 6 (.iconst 1) 1 0 0 0 0 ∧ zi_F zc_X6_isShown 7 (.if_icmp .ne 36) 3 43 0 0 0 ∧ zi_F zc_X6_isShown 10 (.aload_n 0) 1 0 0 0 0 ∧ zi_F zc_X6_isShown 11 (.getfield 64) 3 6 20 899 0 ∧ zi_F zc_X6_isShown 14 (.aload_n 0) 1 0 0 0 0 ∧ zi_F zc_X6_isShown 15 (.getfield 28) 3 6 6 885 0 ∧ zi_F zc_X6_isShown 18 (.iload_n 1) 1 0 0 0 0 ∧ zi_F zc_X6_isShown 19 .iaload 1 0 0 0 0 ∧ zi_F zc_X6_isShown 20 (.aload_n 0) 1 0 0 0 0 ∧ zi_F zc_X6_isShown 21 (.aload_n 0) 1 0 0 0 0 ∧ zi_F zc_X6_isShown 22 (.getfield 28) 3 6 6 885 0 ∧ zi_F zc_X6_isShown 25 (.iload_n 1) 1 0 0 0 0 ∧ zi_F zc_X6_isShown 26 .iaload 1 0 0 0 0 ∧ zi_F zc_X6_isShown 27 (.iload_n 1) 1 0 0 0 0 ∧ zi_F zc_X6_isShown 28 (.invokevirtual 116) 3 173 3 1030 6 ∧ zi_F zc_X6_isShown 31 (.invokestatic 105) 3 70 2 991 0 ∧ zi_F zc_X6_isShown 34 .iaload 1 0 0 0 0 ∧ zi_F zc_X6_isShown 35 (.iload_n 1) 1 0 0 0 0 ∧ zi_F zc_X6_isShown 36 (.if_icmp .ne 7) 3 43 0 0 0 ∧ zi_F zc_X6_isShown 39 (.iconst 1) 1 0 0 0 0 ∧ zi_F zc_X6_isShown 40 (.goto 4) 3 44 0 0 0 ∧ zi_F zc_X6_isShown 43 (.iconst 0) 1 0 0 0 0 ∧ zi_F zc_X6_isShown 44 .ireturn 1 0 0 0 0 := zi_fdF (zc := zc_X6_isShown) (by decide +kernel)
set_option maxRecDepth 100000 in
theorem zf_X6_common : zi_F zc_X6_common 0 (.iload_n 0) 1 0 0 0 0 ∧ zi_F zc_X6_common 1 (.iload_n 2) 1 0 0 0 0 ∧ zi_F zc_X6_common 2 (.if_icmp .le 7) 3 9 0 0 0 ∧ zi_F zc_X6_common 5 (.iload_n 0) 1 0 0 0 0 ∧ zi_F zc_X6_common 6 (.goto 4) 3 10 0 0 0 ∧ zi_F zc_X6_common 9 (.iload_n 2) 1 0 0 0 0 ∧ zi_F zc_X6_common 10 (.istore 4) 2 0 0 0 0 ∧ zi_F zc_X6_common 12 (.iload_n 1) 1 0 0 0 0 ∧ zi_F zc_X6_common 13 (.iload_n 3) 1 0 0 0 0 ∧ zi_F zc_X6_common 14 (.if_icmp .ge 7) 3 21 0 0 0 ∧ zi_F zc_X6_common 17 (.iload_n 1) 1 0 0 0 0 ∧ zi_F zc_X6_common 18 (.goto 4) 3 22 0 0 0 ∧ zi_F zc_X6_common 21 (.iload_n 3) 1 0 0 0 0 ∧ zi_F zc_X6_common 22 (.istore 5) 2 0 0 0 0 ∧ zi_F zc_X6_common 24 (.iload 5) 2 0 0 0 0 ∧ zi_F zc_X6_common 26 (.iload 4) 2 0 0 0 0 ∧ zi_F zc_X6_common 28 .isub 1 0 0 0 0 ∧ zi_F zc_X6_common 29 .ireturn 1 0 0 0 0 := zi_fdF (zc := zc_X6_common) (by decide +kernel)
set_option maxRecDepth 100000 in
theorem zf_X6_neighbourOf : zi_F zc_X6_neighbourOf 0 (.aload_n 0) 1 0 0 0 0 ∧ zi_F zc_X6_neighbourOf 1 (.getfield 28) 3 6 6 885 0 ∧ zi_F zc_X6_neighbourOf 4 (.iload_n 1) 1 0 0 0 0 ∧ zi_F zc_X6_neighbourOf 5 .iaload 1 0 0 0 0 ∧ zi_F zc_X6_neighbourOf 6 (.istore_n 3) 1 0 0 0 0 ∧ zi_F zc_X6_neighbourOf 7 (.aload_n 0) 1 0 0 0 0 ∧ zi_F zc_X6_neighbourOf 8 (.iload_n 3) 1 0 0 0 0 ∧ zi_F zc_X6_neighbourOf 9 (.invokevirtual 240) 3 181 2 1107 6 ∧ zi_F zc_X6_neighbourOf 12 (.aload_n 0) 1 0 0 0 0 ∧ zi_F zc_X6_neighbourOf 13 (.iload_n 3) 1 0 0 0 0 ∧ zi_F zc_X6_neighbourOf 14 (.iload_n 1) 1 0 0 0 0 ∧ zi_F zc_X6_neighbourOf 15 (.invokevirtual 116) 3 173 3 1030 6 ∧ zi_F zc_X6_neighbourOf 18 (.istore 4) 2 0 0 0 0 ∧ zi_F zc_X6_neighbourOf 20 (.iconst (-1)) 1 0 0 0 0 ∧ zi_F zc_X6_neighbourOf 21 (.istore 5) 2 0 0 0 0 ∧ zi_F zc_X6_neighbourOf 23 (.iconst 0) 1 0 0 0 0 ∧ zi_F zc_X6_neighbourOf 24 (.istore 6) 2 0 0 0 0 ∧ zi_F zc_X6_neighbourOf 26 (.iconst 0) 1 0 0 0 0 ∧ zi_F zc_X6_neighbourOf 27 (.istore 7) 2 0 0 0 0 ∧ zi_F zc_X6_neighbourOf 29 (.iload 7) 2 0 0 0 0 ∧ zi_F zc_X6_neighbourOf 31 (.bipush 10) 2 0 0 0 0 ∧ zi_F zc_X6_neighbourOf 33 (.if_icmp .ge 324) 3 357 0 0 0 ∧ zi_F zc_X6_neighbourOf 36 (.iload 7) 2 0 0 0 0 ∧ zi_F zc_X6_neighbourOf 38 (.iload_n 1) 1 0 0 0 0 ∧ zi_F zc_X6_neighbourOf 39 (.if_icmp .eq 312) 3 351 0 0 0 ∧ zi_F zc_X6_neighbourOf 42 (.aload_n 0) 1 0 0 0 0 ∧ zi_F zc_X6_neighbourOf 43 (.getfield 16) 3 6 2 881 0 ∧ zi_F zc_X6_neighbourOf 46 (.iload 7) 2 0 0 0 0 ∧ zi_F zc_X6_neighbourOf 48 .iaload 1 0 0 0 0 ∧ zi_F zc_X6_neighbourOf 49 (.iconst 1) 1 0 0 0 0 ∧ zi_F zc_X6_neighbourOf 50 (.if_icmp .ne 301) 3 351 0 0 0 ∧ zi_F zc_X6_neighbourOf 53 (.aload_n 0) 1 0 0 0 0 ∧ zi_F zc_X6_neighbourOf 54 (.getfield 28) 3 6 6 885 0 ∧ zi_F zc_X6_neighbourOf 57 (.iload 7) 2 0 0 0 0 ∧ zi_F zc_X6_neighbourOf 59 .iaload 1 0 0 0 0 ∧ zi_F zc_X6_neighbourOf 60 (.iload_n 3) 1 0 0 0 0 ∧ zi_F zc_X6_neighbourOf 61 (.if_icmp .ne 290) 3 351 0 0 0 ∧ zi_F zc_X6_neighbourOf 64 (.aload_n 0) 1 0 0 0 0 ∧ zi_F zc_X6_neighbourOf 65 (.iload 7) 2 0 0 0 0 ∧ zi_F zc_X6_neighbourOf 67 (.invokevirtual 253) 3 199 2 1172 6 ∧ zi_F zc_X6_neighbourOf 70 (.ifCond .eq 281) 3 351 0 0 0 ∧ zi_F zc_X6_neighbourOf 73 (.aload_n 0) 1 0 0 0 0 ∧ zi_F zc_X6_neighbourOf 74 (.iload_n 3) 1 0 0 0 0 ∧ zi_F zc_X6_neighbourOf 75 (.iload 7) 2 0 0 0 0 ∧ zi_F zc_X6_neighbourOf 77 (.invokevirtual 116) 3 173 3 1030 6 ∧ zi_F zc_X6_neighbourOf 80 (.istore 8) 2 0 0 0 0 ∧ zi_F zc_X6_neighbourOf 82 (.iload_n 2) 1 0 0 0 0 ∧ zi_F zc_X6_neighbourOf 83 (.ifCond .ne 36) 3 119 0 0 0 ∧ zi_F zc_X6_neighbourOf 86 (.aload_n 0) 1 0 0 0 0 ∧ zi_F zc_X6_neighbourOf 87 (.getfield 80) 3 6 25 904 0 ∧ zi_F zc_X6_neighbourOf 90 (.iload 8) 2 0 0 0 0 ∧ zi_F zc_X6_neighbourOf 92 .iaload 1 0 0 0 0 ∧ zi_F zc_X6_neighbourOf 93 (.aload_n 0) 1 0 0 0 0 ∧ zi_F zc_X6_neighbourOf 94 (.getfield 86) 3 6 27 906 0 ∧ zi_F zc_X6_neighbourOf 97 (.iload 8) 2 0 0 0 0 ∧ zi_F zc_X6_neighbourOf 99 .iaload 1 0 0 0 0 ∧ zi_F zc_X6_neighbourOf 100 .iadd 1 0 0 0 0 ∧ zi_F zc_X6_neighbourOf 101 (.aload_n 0) 1 0 0 0 0 ∧ zi_F zc_X6_neighbourOf 102 (.getfield 80) 3 6 25 904 0 ∧ zi_F zc_X6_neighbourOf 105 (.iload 4) 2 0 0 0 0 ∧ zi_F zc_X6_neighbourOf 107 .iaload 1 0 0 0 0 ∧ zi_F zc_X6_neighbourOf 108 (.if_icmp .ne 7) 3 115 0 0 0 ∧ zi_F zc_X6_neighbourOf 111 (.iconst 1) 1 0 0 0 0 ∧ zi_F zc_X6_neighbourOf 112 (.goto 113) 3 225 0 0 0 ∧ zi_F zc_X6_neighbourOf 115 (.iconst 0) 1 0 0 0 0 ∧ zi_F zc_X6_neighbourOf 116 (.goto 109) 3 225 0 0 0 ∧ zi_F zc_X6_neighbourOf 119 (.iload_n 2) 1 0 0 0 0 ∧ zi_F zc_X6_neighbourOf 120 (.iconst 1) 1 0 0 0 0 ∧ zi_F zc_X6_neighbourOf 121 (.if_icmp .ne 36) 3 157 0 0 0 ∧ zi_F zc_X6_neighbourOf 124 (.aload_n 0) 1 0 0 0 0 ∧ zi_F zc_X6_neighbourOf 125 (.getfield 80) 3 6 25 904 0 ∧ zi_F zc_X6_neighbourOf 128 (.iload 4) 2 0 0 0 0 ∧ zi_F zc_X6_neighbourOf 130 .iaload 1 0 0 0 0 ∧ zi_F zc_X6_neighbourOf 131 (.aload_n 0) 1 0 0 0 0 ∧ zi_F zc_X6_neighbourOf 132 (.getfield 86) 3 6 27 906 0 ∧ zi_F zc_X6_neighbourOf 135 (.iload 4) 2 0 0 0 0 ∧ zi_F zc_X6_neighbourOf 137 .iaload 1 0 0 0 0 ∧ zi_F zc_X6_neighbourOf 138 .iadd 1 0 0 0 0 ∧ zi_F zc_X6_neighbourOf 139 (.aload_n 0) 1 0 0 0 0 ∧ zi_F zc_X6_neighbourOf 140 (.getfield 80) 3 6 25 904 0 ∧ zi_F zc_X6_neighbourOf 143 (.iload 8) 2 0 0 0 0 ∧ zi_F zc_X6_neighbourOf 145 .iaload 1 0 0 0 0 ∧ zi_F zc_X6_neighbourOf 146 (.if_icmp .ne 7) 3 153 0 0 0 ∧ zi_F zc_X6_neighbourOf 149 (.iconst 1) 1 0 0 0 0 ∧ zi_F zc_X6_neighbourOf 150 (.goto 75) 3 225 0 0 0 ∧ zi_F zc_X6_neighbourOf 153 (.iconst 0) 1 0 0 0 0 ∧ zi_F zc_X6_neighbourOf 154 (.goto 71) 3 225 0 0 0 ∧ zi_F zc_X6_neighbourOf 157 (.iload_n 2) 1 0 0 0 0 ∧ zi_F zc_X6_neighbourOf 158 (.iconst 2) 1 0 0 0 0 ∧ zi_F zc_X6_neighbourOf 159 (.if_icmp .ne 36) 3 195 0 0 0 ∧ zi_F zc_X6_neighbourOf 162 (.aload_n 0) 1 0 0 0 0 ∧ zi_F zc_X6_neighbourOf 163 (.getfield 83) 3 6 26 905 0 ∧ zi_F zc_X6_neighbourOf 166 (.iload 8) 2 0 0 0 0 ∧ zi_F zc_X6_neighbourOf 168 .iaload 1 0 0 0 0 ∧ zi_F zc_X6_neighbourOf 169 (.aload_n 0) 1 0 0 0 0 ∧ zi_F zc_X6_neighbourOf 170 (.getfield 89) 3 6 28 907 0 ∧ zi_F zc_X6_neighbourOf 173 (.iload 8) 2 0 0 0 0 ∧ zi_F zc_X6_neighbourOf 175 .iaload 1 0 0 0 0 ∧ zi_F zc_X6_neighbourOf 176 .iadd 1 0 0 0 0 ∧ zi_F zc_X6_neighbourOf 177 (.aload_n 0) 1 0 0 0 0 ∧ zi_F zc_X6_neighbourOf 178 (.getfield 83) 3 6 26 905 0 ∧ zi_F zc_X6_neighbourOf 181 (.iload 4) 2 0 0 0 0 ∧ zi_F zc_X6_neighbourOf 183 .iaload 1 0 0 0 0 ∧ zi_F zc_X6_neighbourOf 184 (.if_icmp .ne 7) 3 191 0 0 0 ∧ zi_F zc_X6_neighbourOf 187 (.iconst 1) 1 0 0 0 0 ∧ zi_F zc_X6_neighbourOf 188 (.goto 37) 3 225 0 0 0 ∧ zi_F zc_X6_neighbourOf 191 (.iconst 0) 1 0 0 0 0 ∧ zi_F zc_X6_neighbourOf 192 (.goto 33) 3 225 0 0 0 ∧ zi_F zc_X6_neighbourOf 195 (.aload_n 0) 1 0 0 0 0 ∧ zi_F zc_X6_neighbourOf 196 (.getfield 83) 3 6 26 905 0 ∧ zi_F zc_X6_neighbourOf 199 (.iload 4) 2 0 0 0 0 ∧ zi_F zc_X6_neighbourOf 201 .iaload 1 0 0 0 0 ∧ zi_F zc_X6_neighbourOf 202 (.aload_n 0) 1 0 0 0 0 ∧ zi_F zc_X6_neighbourOf 203 (.getfield 89) 3 6 28 907 0 ∧ zi_F zc_X6_neighbourOf 206 (.iload 4) 2 0 0 0 0 ∧ zi_F zc_X6_neighbourOf 208 .iaload 1 0 0 0 0 ∧ zi_F zc_X6_neighbourOf 209 .iadd 1 0 0 0 0 ∧ zi_F zc_X6_neighbourOf 210 (.aload_n 0) 1 0 0 0 0 ∧ zi_F zc_X6_neighbourOf 211 (.getfield 83) 3 6 26 905 0 ∧ zi_F zc_X6_neighbourOf 214 (.iload 8) 2 0 0 0 0 ∧ zi_F zc_X6_neighbourOf 216 .iaload 1 0 0 0 0 ∧ zi_F zc_X6_neighbourOf 217 (.if_icmp .ne 7) 3 224 0 0 0 ∧ zi_F zc_X6_neighbourOf 220 (.iconst 1) 1 0 0 0 0 ∧ zi_F zc_X6_neighbourOf 221 (.goto 4) 3 225 0 0 0 ∧ zi_F zc_X6_neighbourOf 224 (.iconst 0) 1 0 0 0 0 ∧ zi_F zc_X6_neighbourOf 225 (.istore 9) 2 0 0 0 0 ∧ zi_F zc_X6_neighbourOf 227 (.iload_n 2) 1 0 0 0 0 ∧ zi_F zc_X6_neighbourOf 228 (.iconst 2) 1 0 0 0 0 ∧ zi_F zc_X6_neighbourOf 229 (.if_icmp .ge 53) 3 282 0 0 0 ∧ zi_F zc_X6_neighbourOf 232 (.aload_n 0) 1 0 0 0 0 ∧ zi_F zc_X6_neighbourOf 233 (.getfield 83) 3 6 26 905 0 ∧ zi_F zc_X6_neighbourOf 236 (.iload 4) 2 0 0 0 0 ∧ zi_F zc_X6_neighbourOf 238 .iaload 1 0 0 0 0 ∧ zi_F zc_X6_neighbourOf 239 (.aload_n 0) 1 0 0 0 0 ∧ zi_F zc_X6_neighbourOf 240 (.getfield 83) 3 6 26 905 0 ∧ zi_F zc_X6_neighbourOf 243 (.iload 4) 2 0 0 0 0 ∧ zi_F zc_X6_neighbourOf 245 .iaload 1 0 0 0 0 ∧ zi_F zc_X6_neighbourOf 246 (.aload_n 0) 1 0 0 0 0 ∧ zi_F zc_X6_neighbourOf 247 (.getfield 89) 3 6 28 907 0 ∧ zi_F zc_X6_neighbourOf 250 (.iload 4) 2 0 0 0 0 ∧ zi_F zc_X6_neighbourOf 252 .iaload 1 0 0 0 0 ∧ zi_F zc_X6_neighbourOf 253 .iadd 1 0 0 0 0 ∧ zi_F zc_X6_neighbourOf 254 (.aload_n 0) 1 0 0 0 0 ∧ zi_F zc_X6_neighbourOf 255 (.getfield 83) 3 6 26 905 0 ∧ zi_F zc_X6_neighbourOf 258 (.iload 8) 2 0 0 0 0 ∧ zi_F zc_X6_neighbourOf 260 .iaload 1 0 0 0 0 ∧ zi_F zc_X6_neighbourOf 261 (.aload_n 0) 1 0 0 0 0 ∧ zi_F zc_X6_neighbourOf 262 (.getfield 83) 3 6 26 905 0 ∧ zi_F zc_X6_neighbourOf 265 (.iload 8) 2 0 0 0 0 ∧ zi_F zc_X6_neighbourOf 267 .iaload 1 0 0 0 0 ∧ zi_F zc_X6_neighbourOf 268 (.aload_n 0) 1 0 0 0 0 ∧ zi_F zc_X6_neighbourOf 269 (.getfield 89) 3 6 28 907 0 ∧ zi_F zc_X6_neighbourOf 272 (.iload 8) 2 0 0 0 0 ∧ zi_F zc_X6_neighbourOf 274 .iaload 1 0 0 0 0 ∧ zi_F zc_X6_neighbourOf 275 .iadd 1 0 0 0 0 ∧ zi_F zc_X6_neighbourOf 276 (.invokestatic 256) 3 200 4 1180 0 ∧ zi_F zc_X6_neighbourOf 279 (.goto 50) 3 329 0 0 0 ∧ zi_F zc_X6_neighbourOf 282 (.aload_n 0) 1 0 0 0 0 ∧ zi_F zc_X6_neighbourOf 283 (.getfield 80) 3 6 25 904 0 ∧ zi_F zc_X6_neighbourOf 286 (.iload 4) 2 0 0 0 0 ∧ zi_F zc_X6_neighbourOf 288 .iaload 1 0 0 0 0 ∧ zi_F zc_X6_neighbourOf 289 (.aload_n 0) 1 0 0 0 0 ∧ zi_F zc_X6_neighbourOf 290 (.getfield 80) 3 6 25 904 0 ∧ zi_F zc_X6_neighbourOf 293 (.iload 4) 2 0 0 0 0 ∧ zi_F zc_X6_neighbourOf 295 .iaload 1 0 0 0 0 ∧ zi_F zc_X6_neighbourOf 296 (.aload_n 0) 1 0 0 0 0 ∧ zi_F zc_X6_neighbourOf 297 (.getfield 86) 3 6 27 906 0 ∧ zi_F zc_X6_neighbourOf 300 (.iload 4) 2 0 0 0 0 ∧ zi_F zc_X6_neighbourOf 302 .iaload 1 0 0 0 0 ∧ zi_F zc_X6_neighbourOf 303 .iadd 1 0 0 0 0 ∧ zi_F zc_X6_neighbourOf 304 (.aload_n 0) 1 0 0 0 0 ∧ zi_F zc_X6_neighbourOf 305 (.getfield 80) 3 6 25 904 0 ∧ zi_F zc_X6_neighbourOf 308 (.iload 8) 2 0 0 0 0 ∧ zi_F zc_X6_neighbourOf 310 .iaload 1 0 0 0 0 ∧ zi_F zc_X6_neighbourOf 311 (.aload_n 0) 1 0 0 0 0 ∧ zi_F zc_X6_neighbourOf 312 (.getfield 80) 3 6 25 904 0 ∧ zi_F zc_X6_neighbourOf 315 (.iload 8) 2 0 0 0 0 ∧ zi_F zc_X6_neighbourOf 317 .iaload 1 0 0 0 0 ∧ zi_F zc_X6_neighbourOf 318 (.aload_n 0) 1 0 0 0 0 ∧ zi_F zc_X6_neighbourOf 319 (.getfield 86) 3 6 27 906 0 ∧ zi_F zc_X6_neighbourOf 322 (.iload 8) 2 0 0 0 0 ∧ zi_F zc_X6_neighbourOf 324 .iaload 1 0 0 0 0 ∧ zi_F zc_X6_neighbourOf 325 .iadd 1 0 0 0 0 ∧ zi_F zc_X6_neighbourOf 326 (.invokestatic 256) 3 200 4 1180 0 ∧ zi_F zc_X6_neighbourOf 329 (.istore 10) 2 0 0 0 0 ∧ zi_F zc_X6_neighbourOf 331 (.iload 9) 2 0 0 0 0 ∧ zi_F zc_X6_neighbourOf 333 (.ifCond .eq 18) 3 351 0 0 0 ∧ zi_F zc_X6_neighbourOf 336 (.iload 10) 2 0 0 0 0 ∧ zi_F zc_X6_neighbourOf 338 (.iload 6) 2 0 0 0 0 ∧ zi_F zc_X6_neighbourOf 340 (.if_icmp .le 11) 3 351 0 0 0 ∧ zi_F zc_X6_neighbourOf 343 (.iload 10) 2 0 0 0 0 ∧ zi_F zc_X6_neighbourOf 345 (.istore 6) 2 0 0 0 0 ∧ zi_F zc_X6_neighbourOf 347 (.iload 7) 2 0 0 0 0 ∧ zi_F zc_X6_neighbourOf 349 (.istore 5) 2 0 0 0 0 ∧ zi_F zc_X6_neighbourOf 351 (.iinc 7 1) 3 0 0 0 0 ∧ zi_F zc_X6_neighbourOf 354 (.goto (-325)) 3 29 0 0 0 ∧ zi_F zc_X6_neighbourOf 357 (.iload 5) 2 0 0 0 0 ∧ zi_F zc_X6_neighbourOf 359 .ireturn 1 0 0 0 0 := zi_fdF (zc := zc_X6_neighbourOf) (by decide +kernel)
set_option maxRecDepth 100000 in
theorem zf_X6_areaOf : zi_F zc_X6_areaOf 0 (.iload_n 2) 1 0 0 0 0 ∧ zi_F zc_X6_areaOf 1 (.ifCond .ne 26) 3 27 0 0 0 ∧ zi_F zc_X6_areaOf 4 (.aload_n 0) 1 0 0 0 0 ∧ zi_F zc_X6_areaOf 5 (.getfield 16) 3 6 2 881 0 ∧ zi_F zc_X6_areaOf 8 (.iload_n 1) 1 0 0 0 0 ∧ zi_F zc_X6_areaOf 9 .iaload 1 0 0 0 0 ∧ zi_F zc_X6_areaOf 10 (.iconst 4) 1 0 0 0 0 ∧ zi_F zc_X6_areaOf 11 (.if_icmp .ne 9) 3 20 0 0 0 ∧ zi_F zc_X6_areaOf 14 (.ldc_w 263) 3 0 0 1123 (-1000000005) ∧ zi_F zc_X6_areaOf 17 (.goto 9) 3 26 0 0 0 ∧ zi_F zc_X6_areaOf 20 (.aload_n 0) 1 0 0 0 0 ∧ zi_F zc_X6_areaOf 21 (.getfield 28) 3 6 6 885 0 ∧ zi_F zc_X6_areaOf 24 (.iload_n 1) 1 0 0 0 0 ∧ zi_F zc_X6_areaOf 25 .iaload 1 0 0 0 0 ∧ zi_F zc_X6_areaOf 26 .ireturn 1 0 0 0 0 ∧ zi_F zc_X6_areaOf 27 (.aload_n 0) 1 0 0 0 0 ∧ zi_F zc_X6_areaOf 28 (.iload_n 1) 1 0 0 0 0 ∧ zi_F zc_X6_areaOf 29 (.invokevirtual 147) 3 167 2 1124 6 ∧ zi_F zc_X6_areaOf 32 (.ifCond .eq 52) 3 84 0 0 0 ∧ zi_F zc_X6_areaOf 35 (.iload_n 2) 1 0 0 0 0 ∧ zi_F zc_X6_areaOf 36 (.iconst 1) 1 0 0 0 0 ∧ zi_F zc_X6_areaOf 37 (.if_icmp .ne 12) 3 49 0 0 0 ∧ zi_F zc_X6_areaOf 40 (.aload_n 0) 1 0 0 0 0 ∧ zi_F zc_X6_areaOf 41 (.getfield 31) 3 6 7 886 0 ∧ zi_F zc_X6_areaOf 44 (.iload_n 1) 1 0 0 0 0 ∧ zi_F zc_X6_areaOf 45 .iaload 1 0 0 0 0 ∧ zi_F zc_X6_areaOf 46 (.goto 37) 3 83 0 0 0 ∧ zi_F zc_X6_areaOf 49 (.iload_n 2) 1 0 0 0 0 ∧ zi_F zc_X6_areaOf 50 (.iconst 2) 1 0 0 0 0 ∧ zi_F zc_X6_areaOf 51 (.if_icmp .ne 12) 3 63 0 0 0 ∧ zi_F zc_X6_areaOf 54 (.aload_n 0) 1 0 0 0 0 ∧ zi_F zc_X6_areaOf 55 (.getfield 34) 3 6 8 887 0 ∧ zi_F zc_X6_areaOf 58 (.iload_n 1) 1 0 0 0 0 ∧ zi_F zc_X6_areaOf 59 .iaload 1 0 0 0 0 ∧ zi_F zc_X6_areaOf 60 (.goto 23) 3 83 0 0 0 ∧ zi_F zc_X6_areaOf 63 (.iload_n 2) 1 0 0 0 0 ∧ zi_F zc_X6_areaOf 64 (.iconst 3) 1 0 0 0 0 ∧ zi_F zc_X6_areaOf 65 (.if_icmp .ne 12) 3 77 0 0 0 ∧ zi_F zc_X6_areaOf 68 (.aload_n 0) 1 0 0 0 0 ∧ zi_F zc_X6_areaOf 69 (.getfield 19) 3 6 3 882 0 ∧ zi_F zc_X6_areaOf 72 (.iload_n 1) 1 0 0 0 0 ∧ zi_F zc_X6_areaOf 73 .iaload 1 0 0 0 0 ∧ zi_F zc_X6_areaOf 74 (.goto 9) 3 83 0 0 0 ∧ zi_F zc_X6_areaOf 77 (.aload_n 0) 1 0 0 0 0 ∧ zi_F zc_X6_areaOf 78 (.getfield 22) 3 6 4 883 0 ∧ zi_F zc_X6_areaOf 81 (.iload_n 1) 1 0 0 0 0 ∧ zi_F zc_X6_areaOf 82 .iaload 1 0 0 0 0 ∧ zi_F zc_X6_areaOf 83 .ireturn 1 0 0 0 0 ∧ zi_F zc_X6_areaOf 84 (.aload_n 0) 1 0 0 0 0 ∧ zi_F zc_X6_areaOf 85 (.aload_n 0) 1 0 0 0 0 ∧ zi_F zc_X6_areaOf 86 (.getfield 28) 3 6 6 885 0 ∧ zi_F zc_X6_areaOf 89 (.iload_n 1) 1 0 0 0 0 ∧ zi_F zc_X6_areaOf 90 .iaload 1 0 0 0 0 ∧ zi_F zc_X6_areaOf 91 (.invokevirtual 240) 3 181 2 1107 6 ∧ zi_F zc_X6_areaOf 94 (.aload_n 0) 1 0 0 0 0 ∧ zi_F zc_X6_areaOf 95 (.aload_n 0) 1 0 0 0 0 ∧ zi_F zc_X6_areaOf 96 (.getfield 28) 3 6 6 885 0 ∧ zi_F zc_X6_areaOf 99 (.iload_n 1) 1 0 0 0 0 ∧ zi_F zc_X6_areaOf 100 .iaload 1 0 0 0 0 ∧ zi_F zc_X6_areaOf 101 (.iload_n 1) 1 0 0 0 0 ∧ zi_F zc_X6_areaOf 102 (.invokevirtual 116) 3 173 3 1030 6 ∧ zi_F zc_X6_areaOf 105 (.istore_n 3) 1 0 0 0 0 ∧ zi_F zc_X6_areaOf 106 (.iload_n 2) 1 0 0 0 0 ∧ zi_F zc_X6_areaOf 107 (.iconst 1) 1 0 0 0 0 ∧ zi_F zc_X6_areaOf 108 (.if_icmp .ne 12) 3 120 0 0 0 ∧ zi_F zc_X6_areaOf 111 (.aload_n 0) 1 0 0 0 0 ∧ zi_F zc_X6_areaOf 112 (.getfield 80) 3 6 25 904 0 ∧ zi_F zc_X6_areaOf 115 (.iload_n 3) 1 0 0 0 0 ∧ zi_F zc_X6_areaOf 116 .iaload 1 0 0 0 0 ∧ zi_F zc_X6_areaOf 117 (.goto 37) 3 154 0 0 0 ∧ zi_F zc_X6_areaOf 120 (.iload_n 2) 1 0 0 0 0 ∧ zi_F zc_X6_areaOf 121 (.iconst 2) 1 0 0 0 0 ∧ zi_F zc_X6_areaOf 122 (.if_icmp .ne 12) 3 134 0 0 0 ∧ zi_F zc_X6_areaOf 125 (.aload_n 0) 1 0 0 0 0 ∧ zi_F zc_X6_areaOf 126 (.getfield 83) 3 6 26 905 0 ∧ zi_F zc_X6_areaOf 129 (.iload_n 3) 1 0 0 0 0 ∧ zi_F zc_X6_areaOf 130 .iaload 1 0 0 0 0 ∧ zi_F zc_X6_areaOf 131 (.goto 23) 3 154 0 0 0 ∧ zi_F zc_X6_areaOf 134 (.iload_n 2) 1 0 0 0 0 ∧ zi_F zc_X6_areaOf 135 (.iconst 3) 1 0 0 0 0 ∧ zi_F zc_X6_areaOf 136 (.if_icmp .ne 12) 3 148 0 0 0 ∧ zi_F zc_X6_areaOf 139 (.aload_n 0) 1 0 0 0 0 ∧ zi_F zc_X6_areaOf 140 (.getfield 86) 3 6 27 906 0 ∧ zi_F zc_X6_areaOf 143 (.iload_n 3) 1 0 0 0 0 ∧ zi_F zc_X6_areaOf 144 .iaload 1 0 0 0 0 ∧ zi_F zc_X6_areaOf 145 (.goto 9) 3 154 0 0 0 ∧ zi_F zc_X6_areaOf 148 (.aload_n 0) 1 0 0 0 0 ∧ zi_F zc_X6_areaOf 149 (.getfield 89) 3 6 28 907 0 ∧ zi_F zc_X6_areaOf 152 (.iload_n 3) 1 0 0 0 0 ∧ zi_F zc_X6_areaOf 153 .iaload 1 0 0 0 0 ∧ zi_F zc_X6_areaOf 154 .ireturn 1 0 0 0 0 := zi_fdF (zc := zc_X6_areaOf) (by decide +kernel)
set_option maxRecDepth 100000 in
theorem zf_X6_placeIn : zi_F zc_X6_placeIn 0 (.iconst 0) 1 0 0 0 0 ∧ zi_F zc_X6_placeIn 1 (.istore_n 3) 1 0 0 0 0 ∧ zi_F zc_X6_placeIn 2 (.iload_n 3) 1 0 0 0 0 ∧ zi_F zc_X6_placeIn 3 (.iload_n 1) 1 0 0 0 0 ∧ zi_F zc_X6_placeIn 4 (.if_icmp .ge 18) 3 22 0 0 0 ∧ zi_F zc_X6_placeIn 7 (.aload_n 0) 1 0 0 0 0 ∧ zi_F zc_X6_placeIn 8 (.iload_n 3) 1 0 0 0 0 ∧ zi_F zc_X6_placeIn 9 .iaload 1 0 0 0 0 ∧ zi_F zc_X6_placeIn 10 (.iload_n 2) 1 0 0 0 0 ∧ zi_F zc_X6_placeIn 11 (.if_icmp .ne 5) 3 16 0 0 0 ∧ zi_F zc_X6_placeIn 14 (.iload_n 3) 1 0 0 0 0 ∧ zi_F zc_X6_placeIn 15 .ireturn 1 0 0 0 0 ∧ zi_F zc_X6_placeIn 16 (.iinc 3 1) 3 0 0 0 0 ∧ zi_F zc_X6_placeIn 19 (.goto (-17)) 3 2 0 0 0 ∧ zi_F zc_X6_placeIn 22 (.ldc_w 263) 3 0 0 1123 (-1000000005) ∧ zi_F zc_X6_placeIn 25 .ireturn 1 0 0 0 0 := zi_fdF (zc := zc_X6_placeIn) (by decide +kernel)
set_option maxRecDepth 100000 in
theorem zf_X6_lies : zi_F zc_X6_lies 0 (.aload_n 0) 1 0 0 0 0 ∧ zi_F zc_X6_lies 1 (.getfield 16) 3 6 2 881 0 ∧ zi_F zc_X6_lies 4 (.iload_n 1) 1 0 0 0 0 ∧ zi_F zc_X6_lies 5 .iaload 1 0 0 0 0 ∧ zi_F zc_X6_lies 6 (.iconst 4) 1 0 0 0 0 ∧ zi_F zc_X6_lies 7 (.if_icmp .eq 13) 3 20 0 0 0 ∧ zi_F zc_X6_lies 10 (.aload_n 0) 1 0 0 0 0 ∧ zi_F zc_X6_lies 11 (.getfield 28) 3 6 6 885 0 ∧ zi_F zc_X6_lies 14 (.iload_n 1) 1 0 0 0 0 ∧ zi_F zc_X6_lies 15 .iaload 1 0 0 0 0 ∧ zi_F zc_X6_lies 16 (.iload_n 2) 1 0 0 0 0 ∧ zi_F zc_X6_lies 17 (.if_icmp .ne 33) 3 50 0 0 0 ∧ zi_F zc_X6_lies 20 (.aload_n 0) 1 0 0 0 0 ∧ zi_F zc_X6_lies 21 (.getfield 16) 3 6 2 881 0 ∧ zi_F zc_X6_lies 24 (.iload_n 1) 1 0 0 0 0 ∧ zi_F zc_X6_lies 25 .iaload 1 0 0 0 0 ∧ zi_F zc_X6_lies 26 (.iconst 4) 1 0 0 0 0 ∧ zi_F zc_X6_lies 27 (.if_icmp .ne 25) 3 52 0 0 0 ∧ zi_F zc_X6_lies 30 (.aload_n 0) 1 0 0 0 0 ∧ zi_F zc_X6_lies 31 (.iload_n 1) 1 0 0 0 0 ∧ zi_F zc_X6_lies 32 (.aload_n 0) 1 0 0 0 0 ∧ zi_F zc_X6_lies 33 (.getfield 7) 3 6 0 879 0 ∧ zi_F zc_X6_lies 36 (.iload_n 2) 1 0 0 0 0 ∧ zi_F zc_X6_lies 37 .iaload 1 0 0 0 0 ∧ zi_F zc_X6_lies 38 (.aload_n 0) 1 0 0 0 0 ∧ zi_F zc_X6_lies 39 (.getfield 13) 3 6 1 880 0 ∧ zi_F zc_X6_lies 42 (.iload_n 2) 1 0 0 0 0 ∧ zi_F zc_X6_lies 43 .iaload 1 0 0 0 0 ∧ zi_F zc_X6_lies 44 (.invokevirtual 184) 3 182 4 1010 6 ∧ zi_F zc_X6_lies 47 (.ifCond .ne 5) 3 52 0 0 0 ∧ zi_F zc_X6_lies 50 (.iconst 0) 1 0 0 0 0 ∧ zi_F zc_X6_lies 51 .ireturn 1 0 0 0 0 ∧ zi_F zc_X6_lies 52 (.aload_n 0) 1 0 0 0 0 ∧ zi_F zc_X6_lies 53 (.getfield 16) 3 6 2 881 0 ∧ zi_F zc_X6_lies 56 (.iload_n 1) 1 0 0 0 0 ∧ zi_F zc_X6_lies 57 .iaload 1 0 0 0 0 ∧ zi_F zc_X6_lies 58 (.iconst 4) 1 0 0 0 0 ∧ zi_F zc_X6_lies 59 (.if_icmp .ne 28) 3 87 0 0 0 ∧ zi_F zc_X6_lies 62 (.aload_n 0) 1 0 0 0 0 ∧ zi_F zc_X6_lies 63 (.getfield 31) 3 6 7 886 0 ∧ zi_F zc_X6_lies 66 (.iload_n 1) 1 0 0 0 0 ∧ zi_F zc_X6_lies 67 .iaload 1 0 0 0 0 ∧ zi_F zc_X6_lies 68 (.aload_n 0) 1 0 0 0 0 ∧ zi_F zc_X6_lies 69 (.getfield 7) 3 6 0 879 0 ∧ zi_F zc_X6_lies 72 (.iload_n 2) 1 0 0 0 0 ∧ zi_F zc_X6_lies 73 .iaload 1 0 0 0 0 ∧ zi_F zc_X6_lies 74 (.aload_n 0) 1 0 0 0 0 ∧ zi_F zc_X6_lies 75 (.getfield 19) 3 6 3 882 0 ∧ zi_F zc_X6_lies 78 (.iload_n 1) 1 0 0 0 0 ∧ zi_F zc_X6_lies 79 .iaload 1 0 0 0 0 ∧ zi_F zc_X6_lies 80 .isub 1 0 0 0 0 ∧ zi_F zc_X6_lies 81 (.invokestatic 141) 3 166 2 1054 0 ∧ zi_F zc_X6_lies 84 (.goto 9) 3 93 0 0 0 ∧ zi_F zc_X6_lies 87 (.aload_n 0) 1 0 0 0 0 ∧ zi_F zc_X6_lies 88 (.getfield 31) 3 6 7 886 0 ∧ zi_F zc_X6_lies 91 (.iload_n 1) 1 0 0 0 0 ∧ zi_F zc_X6_lies 92 .iaload 1 0 0 0 0 ∧ zi_F zc_X6_lies 93 (.istore 5) 2 0 0 0 0 ∧ zi_F zc_X6_lies 95 (.aload_n 0) 1 0 0 0 0 ∧ zi_F zc_X6_lies 96 (.getfield 16) 3 6 2 881 0 ∧ zi_F zc_X6_lies 99 (.iload_n 1) 1 0 0 0 0 ∧ zi_F zc_X6_lies 100 .iaload 1 0 0 0 0 ∧ zi_F zc_X6_lies 101 (.iconst 4) 1 0 0 0 0 ∧ zi_F zc_X6_lies 102 (.if_icmp .ne 28) 3 130 0 0 0 ∧ zi_F zc_X6_lies 105 (.aload_n 0) 1 0 0 0 0 ∧ zi_F zc_X6_lies 106 (.getfield 34) 3 6 8 887 0 ∧ zi_F zc_X6_lies 109 (.iload_n 1) 1 0 0 0 0 ∧ zi_F zc_X6_lies 110 .iaload 1 0 0 0 0 ∧ zi_F zc_X6_lies 111 (.aload_n 0) 1 0 0 0 0 ∧ zi_F zc_X6_lies 112 (.getfield 13) 3 6 1 880 0 ∧ zi_F zc_X6_lies 115 (.iload_n 2) 1 0 0 0 0 ∧ zi_F zc_X6_lies 116 .iaload 1 0 0 0 0 ∧ zi_F zc_X6_lies 117 (.aload_n 0) 1 0 0 0 0 ∧ zi_F zc_X6_lies 118 (.getfield 22) 3 6 4 883 0 ∧ zi_F zc_X6_lies 121 (.iload_n 1) 1 0 0 0 0 ∧ zi_F zc_X6_lies 122 .iaload 1 0 0 0 0 ∧ zi_F zc_X6_lies 123 .isub 1 0 0 0 0 ∧ zi_F zc_X6_lies 124 (.invokestatic 141) 3 166 2 1054 0 ∧ zi_F zc_X6_lies 127 (.goto 9) 3 136 0 0 0 ∧ zi_F zc_X6_lies 130 (.aload_n 0) 1 0 0 0 0 ∧ zi_F zc_X6_lies 131 (.getfield 34) 3 6 8 887 0 ∧ zi_F zc_X6_lies 134 (.iload_n 1) 1 0 0 0 0 ∧ zi_F zc_X6_lies 135 .iaload 1 0 0 0 0 ∧ zi_F zc_X6_lies 136 (.istore 6) 2 0 0 0 0 ∧ zi_F zc_X6_lies 138 (.iload_n 3) 1 0 0 0 0 ∧ zi_F zc_X6_lies 139 (.iload 5) 2 0 0 0 0 ∧ zi_F zc_X6_lies 141 (.if_icmp .lt 41) 3 182 0 0 0 ∧ zi_F zc_X6_lies 144 (.iload_n 3) 1 0 0 0 0 ∧ zi_F zc_X6_lies 145 (.iload 5) 2 0 0 0 0 ∧ zi_F zc_X6_lies 147 (.aload_n 0) 1 0 0 0 0 ∧ zi_F zc_X6_lies 148 (.getfield 19) 3 6 3 882 0 ∧ zi_F zc_X6_lies 151 (.iload_n 1) 1 0 0 0 0 ∧ zi_F zc_X6_lies 152 .iaload 1 0 0 0 0 ∧ zi_F zc_X6_lies 153 .iadd 1 0 0 0 0 ∧ zi_F zc_X6_lies 154 (.if_icmp .ge 28) 3 182 0 0 0 ∧ zi_F zc_X6_lies 157 (.iload 4) 2 0 0 0 0 ∧ zi_F zc_X6_lies 159 (.iload 6) 2 0 0 0 0 ∧ zi_F zc_X6_lies 161 (.if_icmp .lt 21) 3 182 0 0 0 ∧ zi_F zc_X6_lies 164 (.iload 4) 2 0 0 0 0 ∧ zi_F zc_X6_lies 166 (.iload 6) 2 0 0 0 0 ∧ zi_F zc_X6_lies 168 (.aload_n 0) 1 0 0 0 0 ∧ zi_F zc_X6_lies 169 (.getfield 22) 3 6 4 883 0 ∧ zi_F zc_X6_lies 172 (.iload_n 1) 1 0 0 0 0 ∧ zi_F zc_X6_lies 173 .iaload 1 0 0 0 0 ∧ zi_F zc_X6_lies 174 .iadd 1 0 0 0 0 ∧ zi_F zc_X6_lies 175 (.if_icmp .ge 7) 3 182 0 0 0 ∧ zi_F zc_X6_lies 178 (.iconst 1) 1 0 0 0 0 ∧ zi_F zc_X6_lies 179 (.goto 4) 3 183 0 0 0 ∧ zi_F zc_X6_lies 182 (.iconst 0) 1 0 0 0 0 ∧ zi_F zc_X6_lies 183 .ireturn 1 0 0 0 0 := zi_fdF (zc := zc_X6_lies) (by decide +kernel)
set_option maxRecDepth 100000 in
theorem zf_J9_floorDiv_7cf53 : zi_F zc_J9_floorDiv_7cf53 0 (.iload_n 0) 1 0 0 0 0 ∧ zi_F zc_J9_floorDiv_7cf53 1 (.iload_n 1) 1 0 0 0 0 ∧ zi_F zc_J9_floorDiv_7cf53 2 .idiv 1 0 0 0 0 ∧ zi_F zc_J9_floorDiv_7cf53 3 (.istore_n 2) 1 0 0 0 0 ∧ zi_F zc_J9_floorDiv_7cf53 4 (.iload_n 0) 1 0 0 0 0 ∧ zi_F zc_J9_floorDiv_7cf53 5 (.iload_n 1) 1 0 0 0 0 ∧ zi_F zc_J9_floorDiv_7cf53 6 .ixor 1 0 0 0 0 ∧ zi_F zc_J9_floorDiv_7cf53 7 (.ifCond .ge 14) 3 21 0 0 0 ∧ zi_F zc_J9_floorDiv_7cf53 10 (.iload_n 2) 1 0 0 0 0 ∧ zi_F zc_J9_floorDiv_7cf53 11 (.iload_n 1) 1 0 0 0 0 ∧ zi_F zc_J9_floorDiv_7cf53 12 .imul 1 0 0 0 0 ∧ zi_F zc_J9_floorDiv_7cf53 13 (.iload_n 0) 1 0 0 0 0 ∧ zi_F zc_J9_floorDiv_7cf53 14 (.if_icmp .eq 7) 3 21 0 0 0 ∧ zi_F zc_J9_floorDiv_7cf53 17 (.iload_n 2) 1 0 0 0 0 ∧ zi_F zc_J9_floorDiv_7cf53 18 (.iconst 1) 1 0 0 0 0 ∧ zi_F zc_J9_floorDiv_7cf53 19 .isub 1 0 0 0 0 ∧ zi_F zc_J9_floorDiv_7cf53 20 .ireturn 1 0 0 0 0 ∧ zi_F zc_J9_floorDiv_7cf53 21 (.iload_n 2) 1 0 0 0 0 ∧ zi_F zc_J9_floorDiv_7cf53 22 .ireturn 1 0 0 0 0 := zi_fdF (zc := zc_J9_floorDiv_7cf53) (by decide +kernel)
set_option maxRecDepth 100000 in
theorem zf_J9_max_7cf53 : zi_F zc_J9_max_7cf53 0 (.iload_n 0) 1 0 0 0 0 ∧ zi_F zc_J9_max_7cf53 1 (.iload_n 1) 1 0 0 0 0 ∧ zi_F zc_J9_max_7cf53 2 (.if_icmp .lt 7) 3 9 0 0 0 ∧ zi_F zc_J9_max_7cf53 5 (.iload_n 0) 1 0 0 0 0 ∧ zi_F zc_J9_max_7cf53 6 (.goto 4) 3 10 0 0 0 ∧ zi_F zc_J9_max_7cf53 9 (.iload_n 1) 1 0 0 0 0 ∧ zi_F zc_J9_max_7cf53 10 .ireturn 1 0 0 0 0 := zi_fdF (zc := zc_J9_max_7cf53) (by decide +kernel)
set_option maxRecDepth 100000 in
theorem zf_J9_min_7cf53 : zi_F zc_J9_min_7cf53 0 (.iload_n 0) 1 0 0 0 0 ∧ zi_F zc_J9_min_7cf53 1 (.iload_n 1) 1 0 0 0 0 ∧ zi_F zc_J9_min_7cf53 2 (.if_icmp .gt 7) 3 9 0 0 0 ∧ zi_F zc_J9_min_7cf53 5 (.iload_n 0) 1 0 0 0 0 ∧ zi_F zc_J9_min_7cf53 6 (.goto 4) 3 10 0 0 0 ∧ zi_F zc_J9_min_7cf53 9 (.iload_n 1) 1 0 0 0 0 ∧ zi_F zc_J9_min_7cf53 10 .ireturn 1 0 0 0 0 := zi_fdF (zc := zc_J9_min_7cf53) (by decide +kernel)
end
section
/-! what abstract cells stand for -/
noncomputable def zi_cv (ρ : Nat → Int32) (b : Nat) (as : List Nat) (v : Value) : Value := match v with
  | .ref 0 => .ref b
  | .ref (i + 1) => .ref (as.getD i 0)
  | .float k => .int (ρ k.toNat)
  | v => v
noncomputable def zi_iv (ρ : Nat → Int32) (v : Value) : Int32 := match v with
  | .int x => x
  | .float k => ρ k.toNat
  | _ => 0
noncomputable def zi_rv (as : List Nat) (v : Value) : Option Nat := match v with
  | .ref (i + 1) => some (as.getD i 0)
  | _ => none
noncomputable def zi_ce (ρ : Nat → Int32) (b : Nat) (as : List Nat) (cy : Nat → ClassId) (c : Nat × List Value) : va_E :=
  if c.1 < 7 then .inr (c.1, c.2.map (zi_cv ρ b as))
  else if c.1 < 9 then .inl (cy c.1, c.2.length, .inl (fun i => zi_iv ρ (c.2.getD i (.int 0))))
  else .inl (cy c.1, c.2.length, .inr (.inr (.inr (.inr (fun i => zi_rv as (c.2.getD i .null))))))
noncomputable def zi_w (ρ : Nat → Int32) (b : Nat) (as : List Nat) (cy : Nat → ClassId) (h : zi_Hp) : va_W := h.mapIdx (fun i c => (as.getD i 0, zi_ce ρ b as cy c))
noncomputable def zi_lc (ρ : Nat → Int32) (b : Nat) (as : List Nat) (L : zi_Lc) : List (Nat × Value) := L.map (fun q => (q.1, zi_cv ρ b as q.2))
noncomputable def zi_mem (x : Int) (l : zi_Iv) : Prop := ∃ q ∈ l, q.1 ≤ x ∧ x ≤ q.2
noncomputable def zi_rho (ρ : Nat → Int32) (d : zi_Dm) : Prop := (∀ (k : Nat) (l : zi_Iv), d[k]? = some l → zi_mem (ρ k).toInt l) ∧ ρ 5 = ρ 0 &&& 31
section ZC
variable {ρ : Nat → Int32} {b : Nat} {as : List Nat} {cy : Nat → ClassId}
theorem zi_w_get {h : zi_Hp} {r : Nat} {c : Nat × List Value} (e : h[r]? = some c) : (zi_w ρ b as cy h)[r]? = some (as.getD r 0, zi_ce ρ b as cy c) := by
  unfold zi_w
  rw [List.getElem?_mapIdx, e]
  rfl
theorem zi_w_set {h : zi_Hp} {r : Nat} {c : Nat × List Value} : zi_w ρ b as cy (h.set r c) = (zi_w ρ b as cy h).set r (as.getD r 0, zi_ce ρ b as cy c) := by
  unfold zi_w
  rw [List.mapIdx_set]
theorem zi_cv_cat (v : Value) : (zi_cv ρ b as v).category = v.category := by
  unfold zi_cv
  split <;> first | rfl | simp [Value.category]
theorem zi_cv_grow {qs : List Nat} {v : Value} (h : zi_wfv as.length v = true) : zi_cv ρ b (as ++ qs) v = zi_cv ρ b as v := by
  unfold zi_cv
  split
  · rfl
  · rename_i i
    have hi : i < as.length := by simpa [zi_wfv] using h
    simp [List.getElem?_append_left hi]
  · rfl
  · rfl
theorem zi_rv_grow {qs : List Nat} {v : Value} (h : zi_wfv as.length v = true) : zi_rv (as ++ qs) v = zi_rv as v := by
  unfold zi_rv
  split
  · rename_i i
    have hi : i < as.length := by simpa [zi_wfv] using h
    simp [List.getElem?_append_left hi]
  · rfl
theorem zi_cvl_grow {qs : List Nat} {l : List Value} (h : zi_wfl as.length l = true) : l.map (zi_cv ρ b (as ++ qs)) = l.map (zi_cv ρ b as) := by
  apply List.map_congr_left
  intro v hv
  exact zi_cv_grow (List.all_eq_true.mp h v hv)
theorem zi_lc_grow {qs : List Nat} {L : zi_Lc} (h : zi_wfc as.length L = true) : zi_lc ρ b (as ++ qs) L = zi_lc ρ b as L := by
  apply List.map_congr_left
  intro q hq
  rw [zi_cv_grow (List.all_eq_true.mp h q hq)]
theorem zi_ce_grow {qs : List Nat} {c : Nat × List Value} (h : (c.1 == 7 || c.1 == 8 || zi_wfl as.length c.2) = true) : zi_ce ρ b (as ++ qs) cy c = zi_ce ρ b as cy c := by
  obtain ⟨t, l⟩ := c
  unfold zi_ce
  dsimp only
  split
  · rename_i ht
    have h2 : zi_wfl as.length l = true := by
      simp only [Bool.or_eq_true, beq_iff_eq] at h
      rcases h with (h | h) | h
      · omega
      · omega
      · exact h
    rw [zi_cvl_grow h2]
  · split
    · rfl
    · rename_i h1 h2
      have h3 : zi_wfl as.length l = true := by
        simp only [Bool.or_eq_true, beq_iff_eq] at h
        rcases h with (h | h) | h
        · omega
        · omega
        · exact h
      have e : (fun i => zi_rv (as ++ qs) (l.getD i .null)) = (fun i => zi_rv as (l.getD i .null)) := by
        funext i
        apply zi_rv_grow
        by_cases hi : i < l.length
        · have : l.getD i .null ∈ l := by simp [List.getD_eq_getElem?_getD, hi]
          exact List.all_eq_true.mp h3 _ this
        · simp [List.getD_eq_getElem?_getD, List.getElem?_eq_none (Nat.not_lt.mp hi), zi_wfv]
      rw [e]
theorem zi_w_grow {qs : List Nat} {h cs : zi_Hp} (hl : as.length = h.length) (hw : zi_wfh h = true) : zi_w ρ b (as ++ qs) cy (h ++ cs) = zi_w ρ b as cy h ++ cs.mapIdx (fun i c => (qs.getD i 0, zi_ce ρ b (as ++ qs) cy c)) := by
  unfold zi_w
  rw [List.mapIdx_append]
  congr 1
  · apply List.ext_getElem?
    intro i
    rw [List.getElem?_mapIdx, List.getElem?_mapIdx]
    cases hi : h[i]? with
    | none => rfl
    | some c =>
      have hlt : i < as.length := by rw [hl]; exact (List.getElem?_eq_some_iff.mp hi).1
      have hm : c ∈ h := List.mem_of_getElem? hi
      have h2 := List.all_eq_true.mp hw c hm
      rw [← hl] at h2
      simp only [Option.map_some]
      rw [zi_ce_grow h2]
      simp [List.getD_eq_getElem?_getD, List.getElem?_append_left hlt]
  · apply List.ext_getElem?
    intro i
    rw [List.getElem?_mapIdx, List.getElem?_mapIdx]
    cases cs[i]? with
    | none => rfl
    | some c =>
      simp [List.getD_eq_getElem?_getD, ← hl, List.getElem?_append_right]
theorem zi_clip_mem {lo hi x : Int} {l : zi_Iv} (h : zi_mem x l) (h1 : lo ≤ x) (h2 : x ≤ hi) : zi_mem x (zi_clip lo hi l) := by
  obtain ⟨q, hq, a, c⟩ := h
  refine ⟨(max q.1 lo, min q.2 hi), List.mem_filterMap.mpr ⟨q, hq, if_pos (by omega)⟩, by dsimp only; omega, by dsimp only; omega⟩
theorem zi_mem_app {x : Int} {l r : zi_Iv} : zi_mem x (l ++ r) ↔ zi_mem x l ∨ zi_mem x r := by
  unfold zi_mem
  constructor
  · rintro ⟨q, hq, h⟩
    rcases List.mem_append.mp hq with h1 | h1
    · exact Or.inl ⟨q, h1, h⟩
    · exact Or.inr ⟨q, h1, h⟩
  · rintro (⟨q, hq, h⟩ | ⟨q, hq, h⟩)
    · exact ⟨q, List.mem_append_left _ hq, h⟩
    · exact ⟨q, List.mem_append_right _ hq, h⟩
/-- the condition over whole numbers -/
noncomputable def zi_hold (c : ClassFile.Cond) (x v : Int) : Prop := match c with
  | .eq => x = v | .ne => ¬ x = v | .lt => x < v | .ge => v ≤ x | .gt => v < x | .le => x ≤ v
theorem zi_T_mem {c : ClassFile.Cond} {x v : Int} {l : zi_Iv} (h : zi_mem x l) (lo : -2147483648 ≤ x) (hi : x ≤ 2147483647) (hc : zi_hold c x v) : zi_mem x (zi_T c v l) := by
  cases c <;> simp only [zi_hold] at hc <;> simp only [zi_T]
  · exact zi_clip_mem h (by omega) (by omega)
  · rw [zi_mem_app]
    rcases Int.lt_or_gt_of_ne hc with h1 | h1
    · exact Or.inl (zi_clip_mem h lo (by omega))
    · exact Or.inr (zi_clip_mem h (by omega) hi)
  · exact zi_clip_mem h lo (by omega)
  · exact zi_clip_mem h (by omega) hi
  · exact zi_clip_mem h (by omega) hi
  · exact zi_clip_mem h lo (by omega)
theorem zi_hold_neg (c : ClassFile.Cond) (x v : Int) : zi_hold c x v ∨ zi_hold (zi_neg c) x v := by
  cases c <;> simp only [zi_hold, zi_neg] <;> omega
theorem zi_cmp_hold {c : ClassFile.Cond} {x y : Int32} : zi_cmp c x y = true ↔ zi_hold c x.toInt y.toInt := by
  cases c <;> simp only [zi_cmp, zi_hold, decide_eq_true_eq, Int32.lt_iff_toInt_lt, Int32.le_iff_toInt_le, Int32.toInt_inj]
theorem zi_hold_swap {c : ClassFile.Cond} {x y : Int} : zi_hold (zi_swap c) x y ↔ zi_hold c y x := by
  cases c <;> simp only [zi_hold, zi_swap] <;> omega
theorem zi_rho_set {d : zi_Dm} {k : Nat} {l : zi_Iv} (h : zi_rho ρ d) (hm : zi_mem (ρ k).toInt l) : zi_rho ρ (d.set k l) := by
  refine ⟨fun j l' hj => ?_, h.2⟩
  rw [List.getElem?_set] at hj
  split at hj
  · rename_i e
    subst e
    split at hj
    · cases hj; exact hm
    · cases hj
  · exact h.1 j l' hj
theorem zi_lo (x : Int32) : -2147483648 ≤ x.toInt := by have := x.le_toInt; simpa using this
theorem zi_hi (x : Int32) : x.toInt ≤ 2147483647 := by have := x.toInt_lt; omega
theorem zi_nm_cv {d : zi_Dm} (h : zi_rho ρ d) (v : Value) : zi_cv ρ b as (zi_nm d v) = zi_cv ρ b as v := by
  unfold zi_nm
  split
  · rename_i k
    split
    · rename_i q hq
      split
      · rename_i e
        obtain ⟨q', hq', h1, h2⟩ := h.1 _ _ hq
        rw [List.mem_singleton.mp hq'] at h1 h2
        have : (ρ k.toNat).toInt = q.1 := by omega
        simp only [zi_cv]
        rw [← this, Int32.ofInt_toInt]
      · rfl
    · rfl
  · rfl
theorem zi_nm_iv {d : zi_Dm} (h : zi_rho ρ d) (v : Value) : zi_iv ρ (zi_nm d v) = zi_iv ρ v := by
  unfold zi_nm
  split
  · rename_i k
    split
    · rename_i q hq
      split
      · rename_i e
        obtain ⟨q', hq', h1, h2⟩ := h.1 _ _ hq
        rw [List.mem_singleton.mp hq'] at h1 h2
        have : (ρ k.toNat).toInt = q.1 := by omega
        simp only [zi_iv]
        rw [← this, Int32.ofInt_toInt]
      · rfl
    · rfl
  · rfl
theorem zi_cv_iv {v : Value} (h : zi_isI v = true) : zi_cv ρ b as v = .int (zi_iv ρ v) := by
  unfold zi_isI at h
  split at h
  · rfl
  · rfl
  · cases h
theorem zi_nm_isI {d : zi_Dm} {k : UInt32} : zi_isI (zi_nm d (.float k)) = true := by
  simp only [zi_nm]
  split
  · split <;> rfl
  · rfl
theorem zi_vals_mem {x : Int} {l : zi_Iv} (h : zi_mem x l) : x ∈ zi_vals l := by
  obtain ⟨q, hq, h1, h2⟩ := h
  refine List.mem_flatMap.mpr ⟨q, hq, List.mem_map.mpr ⟨(x - q.1).toNat, List.mem_range.mpr (by omega), by omega⟩⟩
theorem zi_get_at {L : zi_Lc} {k : Nat} {v : Value} {ls : Array Slot} {nL : Nat} (hl : lv_has ls nL (zi_lc ρ b as L)) (h : zi_get L k = some v) : ls[k]? = some (.val (zi_cv ρ b as v)) := by
  unfold zi_get at h
  obtain ⟨q, hq, e⟩ := Option.map_eq_some_iff.mp h
  have hm := List.mem_of_find?_eq_some hq
  have hk : q.1 = k := by simpa using List.find?_some hq
  have := hl.2.2 (q.1, zi_cv ρ b as q.2) (List.mem_map.mpr ⟨q, hm, rfl⟩)
  rw [← e, ← hk]
  exact this
theorem zi_set_lc {L : zi_Lc} {k : Nat} {v : Value} : (k, zi_cv ρ b as v) :: (zi_lc ρ b as L).filter (fun q => !(q.1 == k) && !(q.1 + 1 == k && q.2.category == 2)) = zi_lc ρ b as (zi_set L k v) := by
  unfold zi_lc zi_set
  rw [List.map_cons, List.filter_map]
  congr 2
  apply List.filter_congr
  intro q _
  simp only [Function.comp, zi_cv_cat]
theorem zi_set2_lc {L : zi_Lc} {k : Nat} {v : Value} : (k, zi_cv ρ b as v) :: (zi_lc ρ b as L).filter (fun q => !(q.1 == k) && (!(q.1 == k + 1) && !(q.1 + 1 == k && q.2.category == 2))) = zi_lc ρ b as (zi_set2 L k v) := by
  unfold zi_lc zi_set2
  rw [List.map_cons, List.filter_map]
  congr 2
  apply List.filter_congr
  intro q _
  simp only [Function.comp, zi_cv_cat]
theorem zi_bind_some {α : Type} {xs : List α} {k : α → Option (List zi_Out)} {os : List zi_Out} (h : zi_bind xs k = some os) : ∀ x ∈ xs, ∃ o, k x = some o ∧ ∀ y ∈ o, y ∈ os := by
  induction xs generalizing os with
  | nil => intro x hx; cases hx
  | cons x xs ih =>
    simp only [zi_bind] at h
    split at h
    · cases h
    · rename_i a ha
      split at h
      · cases h
      · rename_i c hc
        cases h
        intro y hy
        rcases List.mem_cons.mp hy with e | e
        · subst e
          exact ⟨a, ha, fun z hz => List.mem_append_left _ hz⟩
        · obtain ⟨o, h1, h2⟩ := ih hc y e
          exact ⟨o, h1, fun z hz => List.mem_append_right _ (h2 z hz)⟩
end ZC
end
section
/-! the words, and what a row must be -/
noncomputable def zi_Ts : List Cond := lw_tbl.filter goodWord
noncomputable def zi_tb (t : Nat) (w : Cond) : Bool := decide (lw_tbl[t]? = some w) && goodWord w
theorem zi_tb_in {t : Nat} {w : Cond} (h : zi_tb t w = true) : w ∈ zi_Ts := by
  simp only [zi_tb, Bool.and_eq_true, decide_eq_true_eq] at h
  exact List.mem_filter.mpr ⟨List.mem_of_getElem? h.1, h.2⟩
theorem zi_Ts_good {w : Cond} (h : w ∈ zi_Ts) : (w.onTables && w.keeps) = true ∨ ∃ ty, w = .arrayClass ty := good_of_word (List.mem_filter.mp h).2
noncomputable def zi_tys (cy : Nat → ClassId) : List (ClassId × FieldType) := [(cy 7, .int), (cy 8, .boolean), (cy 9, .object RX2), (cy 10, .object RX4), (cy 11, .array .int)]
noncomputable def zi_len (i : Instr) : Nat := match i with
  | .bipush _ | .ldc _ | .iload _ | .aload _ | .istore _ | .astore _ | .newarray _ => 2
  | .sipush _ | .ldc_w _ | .iinc _ _ | .getfield _ | .putfield _ | .goto _ | .ifCond _ _ | .if_icmp _ _ | .invokespecial _ | .invokestatic _ | .invokevirtual _ | .new _ | .anewarray _ | .ldc2_w _ => 3
  | .multianewarray _ _ => 4
  | _ => 1
noncomputable def zi_lok (r : zi_Row) : Bool := match r.2.1 with
  | .tableswitch _ _ _ _ | .lookupswitch _ _ => true
  | i => decide (r.2.2.1 = zi_len i)
noncomputable def zi_lk (own : String) (j t : Nat) (y : MethodName) : Bool := if t < 10000 then zi_tb t (.methodLink own j y) else decide (zi_nest[t - 10000]? = some (.methodLinkNest own j y RX5))
noncomputable def zi_np (y : MethodName) : Option Nat := (parseMethodDescriptor y.desc).map (fun d => d.parameters.length)
noncomputable def zi_ok (own : String) (ini : Bool) (ms : List zi_Me) (r : zi_Row) : Bool := match r with
  | (pc, i, _, a, b, t, v) => match i with
    | .getfield j => (match vwCl[a]? with | some q => decide (b < q.2.2) && decide ((q.2.1 b).1 = q.1) && zi_tb t (.fieldLink own j q.1 (q.2.1 b).2.1 (q.2.1 b).2.2.1) | none => false)
    | .putfield j => (match vwCl[a]? with | some q => decide (b < q.2.2) && decide ((q.2.1 b).1 = q.1) && zi_tb t (.fieldLink own j q.1 (q.2.1 b).2.1 (q.2.1 b).2.2.1) && (decide ((q.2.1 b).2.2.2 = false) || (ini && decide (q.1 = own))) | none => false)
    | .ldc j => zi_tb t (.constant own j (Int32.ofInt v))
    | .ldc_w j => zi_tb t (.constant own j (Int32.ofInt v))
    | .ldc2_w j => zi_tb t (.constantLong own j (Int64.ofInt v))
    | .lookupswitch _ ps => (ps.toList.zip (ps.toList.drop 1)).all (fun (a, next) => a.1 < next.1)
    | .new j => (match vwCl[a]? with | some q => zi_tb t (.classLink own j q.1) | none => false)
    | .anewarray j => zi_tb t (.classLink own j (if a = 9 then RX2 else RX4))
    | .multianewarray j _ => zi_tb t (.classLink own j ("[" ++ (FieldType.array .int).toString))
    | .goto off => decide ((pc : Int) + off = (a : Int))
    | .ifCond _ off => decide ((pc : Int) + off = (a : Int))
    | .if_icmp _ off => decide ((pc : Int) + off = (a : Int))
    | .tableswitch _ lo hi offs => decide (offs.size = (hi - lo + 1).toNat)
    | .invokespecial j => if a = 999 then zi_tb t (.methodLink own j objectInit) else (match ms[a]?, zi_mt[a]? with
      | some m, some g => zi_lk own j t m.1 && decide (m.1.name = "<init>") && decide (zi_np m.1 = some (b - 1)) && decide (1 ≤ b) && decide (m.2.2.2.1 = none) && zi_tb g.2.2.1 (.instanceMethod m.1)
      | none, _ => true
      | some _, none => false)
    | .invokestatic j => if a = 997 then zi_tb t (.methodLink own j arraycopyName) else (match ms[a]?, zi_mt[a]? with
      | some m, some g => zi_lk own j t m.1 && decide (zi_np m.1 = some b) && zi_tb g.2.2.1 (.static m.1)
      | none, _ => true
      | some _, none => false)
    | .invokevirtual j => (match ms[a]?, zi_mt[a]? with
      | some m, some g => zi_tb t (.methodLink own j m.1) && decide (zi_np m.1 = some (b - 1)) && decide (1 ≤ b) && (match vwCl[v.toNat]? with | some q => decide (q.1 = m.1.cls) | none => false) && decide (0 ≤ v) && zi_tb g.2.2.1 (.instanceMethod m.1) && zi_tb g.2.2.2.1 (.selects m.1.cls m.1 m.1)
      | none, _ => true
      | some _, none => false)
    | _ => true
/-! the classes -/
noncomputable def zi_cok (a : Nat) (q : vw_C) : Prop := (∀ w ∈ u_ws q.1 q.2.1 q.2.2, w ∈ zi_Ts) ∧ (∀ k, k < q.2.2 → parseFieldDescriptor (q.2.1 k).2.2.1 = some (zi_ty a k)) ∧ (∀ x, x < q.2.2 → ∀ y, y < q.2.2 → x ≠ y → (q.2.1 x).2.1 ≠ (q.2.1 y).2.1) ∧ q.2.2 = zi_fld a ∧ Cond.instantiable q.1 q.2.2 ∈ zi_Ts ∧ Cond.initialized q.1 ∈ zi_Ts
section ZS
variable {ρ : Nat → Int32} {b0 : Nat} {as : List Nat} {cy : Nat → ClassId}
theorem zi_fit_ok {ty : FieldType} {v : Value} (h : zi_fit ty v = true) : narrow ty (zi_cv ρ b0 as v) = zi_cv ρ b0 as v ∧ fits ty (zi_cv ρ b0 as v) = true := by
  unfold zi_fit at h
  split at h
  · rename_i x
    simp only [Bool.or_eq_true, decide_eq_true_eq] at h
    rcases h with rfl | rfl
    · exact ⟨show narrow .boolean (.int 0) = .int 0 from by decide, show fits .boolean (.int 0) = true from by decide⟩
    · exact ⟨show narrow .boolean (.int 1) = .int 1 from by decide, show fits .boolean (.int 1) = true from by decide⟩
  · exact ⟨rfl, rfl⟩
  · exact ⟨rfl, rfl⟩
  · rename_i n a
    cases a with
    | zero => exact ⟨rfl, rfl⟩
    | succ a => exact ⟨rfl, rfl⟩
  · exact ⟨rfl, rfl⟩
  · rename_i n a
    cases a with
    | zero => exact ⟨rfl, rfl⟩
    | succ a => exact ⟨rfl, rfl⟩
  · exact ⟨rfl, rfl⟩
  · cases h
theorem zi_ce_obj {a : Nat} {fs : List Value} (h : a < 7) : zi_ce ρ b0 as cy (a, fs) = .inr (a, fs.map (zi_cv ρ b0 as)) := by
  unfold zi_ce
  rw [if_pos h]
theorem zi_ce_int {l : List Value} : zi_ce ρ b0 as cy (7, l) = .inl (cy 7, l.length, .inl (fun i => zi_iv ρ (l.getD i (.int 0)))) := by
  unfold zi_ce
  rw [if_neg (by dsimp only; omega), if_pos (by dsimp only; omega)]
theorem zi_ce_boo {l : List Value} : zi_ce ρ b0 as cy (8, l) = .inl (cy 8, l.length, .inl (fun i => zi_iv ρ (l.getD i (.int 0)))) := by
  unfold zi_ce
  rw [if_neg (by dsimp only; omega), if_pos (by dsimp only; omega)]
theorem zi_ce_ref {t : Nat} {l : List Value} (h : 9 ≤ t) : zi_ce ρ b0 as cy (t, l) = .inl (cy t, l.length, .inr (.inr (.inr (.inr (fun i => zi_rv as (l.getD i .null)))))) := by
  unfold zi_ce
  rw [if_neg (by dsimp only; omega), if_neg (by dsimp only; omega)]
theorem zi_in_lt {j : Int32} {n : Nat} (h : zi_in j n = true) : vp_in j n ∧ j.toNatClampNeg < n := by
  have h1 : vp_in j n := by simpa [zi_in, vp_in] using h
  exact ⟨h1, Nat.not_le.mp fun q => h1 (Or.inr q)⟩
theorem zi_upd {l : List Value} {j : Nat} {v : Value} (h : j < l.length) : (fun i => zi_iv ρ ((l.set j v).getD i (.int 0))) = upd (fun i => zi_iv ρ (l.getD i (.int 0))) j (zi_iv ρ v) := by
  funext i
  unfold upd
  by_cases e : i = j
  · subst e
    simp [List.getD_eq_getElem?_getD, h]
  · rw [if_neg e]
    simp [List.getD_eq_getElem?_getD, List.getElem?_set_ne (Ne.symm e)]
theorem zi_updr {l : List Value} {j q : Nat} (h : j < l.length) : (fun i => zi_rv as ((l.set j (.ref (q + 1))).getD i .null)) = va_up (fun i => zi_rv as (l.getD i .null)) j (some (as.getD q 0)) := by
  funext i
  unfold va_up
  by_cases e : i = j
  · subst e
    simp [List.getD_eq_getElem?_getD, h, zi_rv]
  · rw [if_neg e]
    simp [List.getD_eq_getElem?_getD, List.getElem?_set_ne (Ne.symm e)]
theorem zi_ld_at {L : zi_Lc} {d : zi_Dm} {k : Nat} {x : Value} {ls : Array Slot} {nL : Nat} (hr : zi_rho ρ d) (hl : lv_has ls nL (zi_lc ρ b0 as L)) (h : zi_ld L d k = some x) : ls[k]? = some (.val (.int (zi_iv ρ x))) ∧ zi_cv ρ b0 as x = .int (zi_iv ρ x) := by
  unfold zi_ld at h
  split at h
  · rename_i y hy
    cases h
    exact ⟨zi_get_at hl hy, rfl⟩
  · rename_i q hy
    cases h
    refine ⟨?_, zi_cv_iv zi_nm_isI⟩
    rw [zi_nm_iv hr]
    exact zi_get_at hl hy
  · cases h
theorem zi_lda_at {L : zi_Lc} {k : Nat} {x : Value} {ls : Array Slot} {nL : Nat} (hl : lv_has ls nL (zi_lc ρ b0 as L)) (h : zi_lda L k = some x) : ∃ y, ls[k]? = some (.val (.ref y)) ∧ zi_cv ρ b0 as x = .ref y := by
  unfold zi_lda at h
  split at h
  · rename_i r hy
    cases h
    have h1 := zi_get_at hl hy
    cases r with
    | zero => exact ⟨b0, h1, rfl⟩
    | succ r => exact ⟨as.getD r 0, h1, rfl⟩
  · cases h
end ZS
end
section
section ZW
variable {p : Program} {l : Launch} {e : Env} {R : Room} {s : State} {m : MethodId} {args : Array Value} {below : List Frame} {meth : Method} {c : Code} {H : Heap} {locs : List Loc} {cells slots : Nat} {Q : State → Prop}
variable {cc : ByteArray} {ls : Array Slot} {D : va_G} {A : Nat → Prop} {tys : List (ClassId × FieldType)} {H0 : Heap}
variable {ρ : Nat → Int32} {b0 : Nat} {as : List Nat} {cy : Nat → ClassId} {own : String} {ini : Bool} {ms : List zi_Me} {scr : Option (List Value)} {nL : Nat} {d : zi_Dm}
theorem zi_Waald {pc : Nat} {rest : List Value} {cl : List vw_C} {ws : va_W} {a : Nat} (hexec : p.tables.exec = Jvm.exec) (hb : c.code = cc) (hK : va_K D cl tys s) (hP : va_P D cl ws H) (q0 t0 : Nat) {cA : ClassId} {ty : FieldType} (hty : ty.isReference = true) {n : Nat} {f : Nat → Option Nat} (ha : ws[q0]? = some (a, .inl (cA, n, .inr (.inr (.inr (.inr f)))))) (ht : tys[t0]? = some (cA, ty)) {i : Int32} (hin : vp_in i n) (hdg : decode cc pc = .ok (.aaload, 1))
    (kk : W p l e R s m args below meth c H locs cells slots Q (F0 m (pc + 1) ls (va_rf (f i.toNatClampNeg) :: rest))) : W p l e R s m args below meth c H locs cells slots Q (F0 m pc ls (.int i :: .ref a :: rest)) := by
  have hlt : i.toNatClampNeg < n := Nat.not_le.mp fun q => hin (Or.inr q)
  exact W.aald (v := va_rf (f i.toNatClampNeg)) (ty := ty) hexec hb (hP q0 _ ha) ((hK.2 t0 _ ht).1 n (fun j => va_rf (f j))) hty (fun q => by cases q) (by show ¬ (i < 0 ∨ (arrV _ _ _).slots.size ≤ _); rw [arrV_size]; exact hin) (by show (arrV _ _ _).slots[_]? = _; rw [arrV_read _ _ hlt]) rfl rfl hdg kk
noncomputable def zi_tyOf (t : Nat) : FieldType := match t with
  | 7 => .int | 8 => .boolean | 9 => .object RX2 | 10 => .object RX4 | _ => .array .int
theorem zi_tys_at {t : Nat} (h1 : 7 ≤ t) (h2 : t ≤ 11) : (zi_tys cy)[t - 7]? = some (cy t, zi_tyOf t) := by
  match t, h1, h2 with
  | 7, _, _ => rfl
  | 8, _, _ => rfl
  | 9, _, _ => rfl
  | 10, _, _ => rfl
  | 11, _, _ => rfl
set_option maxHeartbeats 4000000 in
/-- an instruction that goes on behind itself -/
theorem zi_step_sound {r : zi_Row} {L L' : zi_Lc} {st st' : List Value} {h h' : zi_Hp}
    (hx : p.tables.exec = Jvm.exec) (hb : c.code = cc) (hown : s.vm.findClass own = some m.cls) (hts : ∀ w ∈ zi_Ts, w.before args s = true) (hcl : ∀ a q, vwCl[a]? = some q → zi_cok a q) (hini : ini = true → meth.name = "<init>")
    (hX : ∀ sl, scr = some sl → va_X b0 sl.length (fun j => zi_iv ρ (sl.getD j (.int 0))) s H0 ∧ b0 < H0.size ∧ ¬ A b0)
    (hK : va_K D vwCl (zi_tys cy) s) (hrho : zi_rho ρ d)
    (hdg : decode cc r.1 = .ok (r.2.1, r.2.2.1)) (hlen : zi_lok r = true) (hok : zi_ok own ini ms r = true) (hst : zi_step scr nL d r L st h = some (L', st', h'))
    (hl : lv_has ls nL (zi_lc ρ b0 as L)) (hP : va_P D vwCl (zi_w ρ b0 as cy h) H) (hD : va_D A (zi_w ρ b0 as cy h)) (hS : va_S A H0 H locs)
    (kk : ∀ (H1 : Heap) (locs1 : List Loc) (ls1 : Array Slot), va_P D vwCl (zi_w ρ b0 as cy h') H1 → va_D A (zi_w ρ b0 as cy h') → va_S A H0 H1 locs1 → lv_has ls1 nL (zi_lc ρ b0 as L') → h'.length = h.length → W p l e R s m args below meth c H1 locs1 cells slots Q (F0 m (r.1 + r.2.2.1) ls1 (st'.map (zi_cv ρ b0 as)))) :
    W p l e R s m args below meth c H locs cells slots Q (F0 m r.1 ls (st.map (zi_cv ρ b0 as))) := by
  obtain ⟨pc, i, ln, a, b, t, v⟩ := r
  dsimp only at hdg hlen hok hst kk ⊢
  unfold zi_step at hst
  dsimp only at hst
  split at hst
  · -- iconst
    simp only [Option.some.injEq, Prod.mk.injEq] at hst
    obtain ⟨rfl, rfl, rfl⟩ := hst
    have e : ln = 1 := of_decide_eq_true hlen
    subst e
    exact lv_iconst hx hb hdg rfl (kk H locs ls hP hD hS hl rfl)
  · -- bipush
    simp only [Option.some.injEq, Prod.mk.injEq] at hst
    obtain ⟨rfl, rfl, rfl⟩ := hst
    have e : ln = 2 := of_decide_eq_true hlen
    subst e
    exact lv_bipush hx hb hdg rfl (kk H locs ls hP hD hS hl rfl)
  · -- sipush
    simp only [Option.some.injEq, Prod.mk.injEq] at hst
    obtain ⟨rfl, rfl, rfl⟩ := hst
    have e : ln = 3 := of_decide_eq_true hlen
    subst e
    exact lv_sipush hx hb hdg rfl (kk H locs ls hP hD hS hl rfl)
  · -- ldc
    simp only [Option.some.injEq, Prod.mk.injEq] at hst
    obtain ⟨rfl, rfl, rfl⟩ := hst
    have e : ln = 2 := of_decide_eq_true hlen
    subst e
    exact lv_ldc hx hb hown (hts _ (zi_tb_in hok)) hdg (kk H locs ls hP hD hS hl rfl)
  · -- ldc_w
    simp only [Option.some.injEq, Prod.mk.injEq] at hst
    obtain ⟨rfl, rfl, rfl⟩ := hst
    have e : ln = 3 := of_decide_eq_true hlen
    subst e
    exact lv_ldcw hx hb hown (hts _ (zi_tb_in hok)) hdg (kk H locs ls hP hD hS hl rfl)
  · -- iload_n
    obtain ⟨x, h1, h2⟩ := Option.map_eq_some_iff.mp hst
    simp only [Prod.mk.injEq] at h2
    obtain ⟨rfl, rfl, rfl⟩ := h2
    have e : ln = 1 := of_decide_eq_true hlen
    subst e
    obtain ⟨h3, h4⟩ := zi_ld_at hrho hl h1
    have h5 := kk H locs ls hP hD hS hl rfl
    rw [List.map_cons, h4] at h5
    exact lv_iload_n hx hb hdg rfl h3 h5
  · -- iload
    obtain ⟨x, h1, h2⟩ := Option.map_eq_some_iff.mp hst
    simp only [Prod.mk.injEq] at h2
    obtain ⟨rfl, rfl, rfl⟩ := h2
    have e : ln = 2 := of_decide_eq_true hlen
    subst e
    obtain ⟨h3, h4⟩ := zi_ld_at hrho hl h1
    have h5 := kk H locs ls hP hD hS hl rfl
    rw [List.map_cons, h4] at h5
    exact lv_iload hx hb hdg h3 h5
  · -- aload_n
    obtain ⟨x, h1, h2⟩ := Option.map_eq_some_iff.mp hst
    simp only [Prod.mk.injEq] at h2
    obtain ⟨rfl, rfl, rfl⟩ := h2
    have e : ln = 1 := of_decide_eq_true hlen
    subst e
    obtain ⟨y, h3, h4⟩ := zi_lda_at hl h1
    have h5 := kk H locs ls hP hD hS hl rfl
    rw [List.map_cons, h4] at h5
    exact lv_aload_n hx hb hdg rfl h3 h5
  · -- aload
    obtain ⟨x, h1, h2⟩ := Option.map_eq_some_iff.mp hst
    simp only [Prod.mk.injEq] at h2
    obtain ⟨rfl, rfl, rfl⟩ := h2
    have e : ln = 2 := of_decide_eq_true hlen
    subst e
    obtain ⟨y, h3, h4⟩ := zi_lda_at hl h1
    have h5 := kk H locs ls hP hD hS hl rfl
    rw [List.map_cons, h4] at h5
    exact lv_aload hx hb hdg h3 h5
  · -- istore_n
    rename_i k
    split at hst
    · rename_i x rest
      split at hst
      · rename_i hc
        simp only [Option.some.injEq, Prod.mk.injEq] at hst
        obtain ⟨rfl, rfl, rfl⟩ := hst
        have e : ln = 1 := of_decide_eq_true hlen
        subst e
        rw [List.map_cons, zi_cv_iv hc.1]
        exact lv_istore_n hx hb hdg rfl hl hc.2 (by rw [← zi_set_lc, zi_cv_iv hc.1]) (fun ls1 hl1 => kk H locs ls1 hP hD hS hl1 rfl)
      · cases hst
    · cases hst
  · -- istore
    rename_i k
    split at hst
    · rename_i x rest
      split at hst
      · rename_i hc
        simp only [Option.some.injEq, Prod.mk.injEq] at hst
        obtain ⟨rfl, rfl, rfl⟩ := hst
        have e : ln = 2 := of_decide_eq_true hlen
        subst e
        rw [List.map_cons, zi_cv_iv hc.1]
        exact lv_istore hx hb hdg hl hc.2 (by rw [← zi_set_lc, zi_cv_iv hc.1]) (fun ls1 hl1 => kk H locs ls1 hP hD hS hl1 rfl)
      · cases hst
    · cases hst
  · -- astore_n
    rename_i k
    split at hst
    · rename_i x rest
      split at hst
      · rename_i hc
        simp only [Option.some.injEq, Prod.mk.injEq] at hst
        obtain ⟨rfl, rfl, rfl⟩ := hst
        have e : ln = 1 := of_decide_eq_true hlen
        subst e
        obtain ⟨y, hy⟩ : ∃ y, zi_cv ρ b0 as (.ref x) = .ref y := by cases x <;> exact ⟨_, rfl⟩
        rw [List.map_cons, hy]
        exact lv_astore_n hx hb hdg rfl hl hc (by rw [← zi_set_lc, hy]) (fun ls1 hl1 => kk H locs ls1 hP hD hS hl1 rfl)
      · cases hst
    · cases hst
  · -- astore
    rename_i k
    split at hst
    · rename_i x rest
      split at hst
      · rename_i hc
        simp only [Option.some.injEq, Prod.mk.injEq] at hst
        obtain ⟨rfl, rfl, rfl⟩ := hst
        have e : ln = 2 := of_decide_eq_true hlen
        subst e
        obtain ⟨y, hy⟩ : ∃ y, zi_cv ρ b0 as (.ref x) = .ref y := by cases x <;> exact ⟨_, rfl⟩
        rw [List.map_cons, hy]
        exact lv_astore hx hb hdg hl hc (by rw [← zi_set_lc, hy]) (fun ls1 hl1 => kk H locs ls1 hP hD hS hl1 rfl)
      · cases hst
    · cases hst
  · -- iinc
    rename_i k n
    split at hst
    · rename_i x hg
      split at hst
      · rename_i hc
        simp only [Option.some.injEq, Prod.mk.injEq] at hst
        obtain ⟨rfl, rfl, rfl⟩ := hst
        have e : ln = 3 := of_decide_eq_true hlen
        subst e
        obtain ⟨j, hj⟩ : ∃ j : Nat, (zi_lc ρ b0 as L)[j]? = some (k, .int x) := by
          unfold zi_get at hg
          obtain ⟨q, hq, e⟩ := Option.map_eq_some_iff.mp hg
          have hm := List.mem_of_find?_eq_some hq
          have hk : q.1 = k := by simpa using List.find?_some hq
          refine List.getElem?_of_mem (List.mem_map.mpr ⟨q, hm, ?_⟩)
          rw [hk, e]
          rfl
        exact lv_iinc hx hb hdg hl hj rfl hc (by rw [← zi_set_lc]; rfl) (fun ls1 hl1 => kk H locs ls1 hP hD hS hl1 rfl)
      · cases hst
    · cases hst
  · -- iadd
    split at hst
    · simp only [Option.some.injEq, Prod.mk.injEq] at hst
      obtain ⟨rfl, rfl, rfl⟩ := hst
      have e : ln = 1 := of_decide_eq_true hlen
      subst e
      exact lv_iadd hx hb hdg (kk H locs ls hP hD hS hl rfl)
    · cases hst
  · -- isub
    split at hst
    · simp only [Option.some.injEq, Prod.mk.injEq] at hst
      obtain ⟨rfl, rfl, rfl⟩ := hst
      have e : ln = 1 := of_decide_eq_true hlen
      subst e
      exact lv_isub hx hb hdg (kk H locs ls hP hD hS hl rfl)
    · cases hst
  · -- imul
    split at hst
    · simp only [Option.some.injEq, Prod.mk.injEq] at hst
      obtain ⟨rfl, rfl, rfl⟩ := hst
      have e : ln = 1 := of_decide_eq_true hlen
      subst e
      exact lv_imul hx hb hdg (kk H locs ls hP hD hS hl rfl)
    · cases hst
  · -- iand
    split at hst
    · simp only [Option.some.injEq, Prod.mk.injEq] at hst
      obtain ⟨rfl, rfl, rfl⟩ := hst
      have e : ln = 1 := of_decide_eq_true hlen
      subst e
      exact lv_iand hx hb hdg (kk H locs ls hP hD hS hl rfl)
    · rename_i y k rest
      split at hst
      · rename_i hc
        simp only [Option.some.injEq, Prod.mk.injEq] at hst
        obtain ⟨rfl, rfl, rfl⟩ := hst
        have e : ln = 1 := of_decide_eq_true hlen
        subst e
        have h5 := kk H locs ls hP hD hS hl rfl
        have e5 : zi_cv ρ b0 as (.float 5) = .int (ρ 0 &&& 31) := by
          rw [← hrho.2]
          rfl
        rw [List.map_cons, e5] at h5
        have e0 : zi_cv ρ b0 as (.float k) = .int (ρ 0) := by
          show Value.int (ρ k.toNat) = _
          rw [hc.2]
        rw [List.map_cons, List.map_cons, e0, hc.1]
        exact lv_iand hx hb hdg h5
      · cases hst
    · cases hst
  · -- idiv
    split at hst
    · split at hst
      · cases hst
      · rename_i hc
        simp only [Option.some.injEq, Prod.mk.injEq] at hst
        obtain ⟨rfl, rfl, rfl⟩ := hst
        have e : ln = 1 := of_decide_eq_true hlen
        subst e
        exact lv_idiv hx hb hdg hc (kk H locs ls hP hD hS hl rfl)
    · cases hst
  · -- irem
    split at hst
    · split at hst
      · cases hst
      · rename_i hc
        simp only [Option.some.injEq, Prod.mk.injEq] at hst
        obtain ⟨rfl, rfl, rfl⟩ := hst
        have e : ln = 1 := of_decide_eq_true hlen
        subst e
        exact lv_irem hx hb hdg hc (kk H locs ls hP hD hS hl rfl)
    · cases hst
  · -- dup
    split at hst
    · split at hst
      · rename_i hc
        simp only [Option.some.injEq, Prod.mk.injEq] at hst
        obtain ⟨rfl, rfl, rfl⟩ := hst
        have e : ln = 1 := of_decide_eq_true hlen
        subst e
        exact lv_dup hx hb hdg (by rw [zi_cv_cat]; exact hc) (kk H locs ls hP hD hS hl rfl)
      · cases hst
    · cases hst
  · -- dup2
    split at hst
    · split at hst
      · rename_i hc
        simp only [Option.some.injEq, Prod.mk.injEq] at hst
        obtain ⟨rfl, rfl, rfl⟩ := hst
        have e : ln = 1 := of_decide_eq_true hlen
        subst e
        exact lv_dup2_11 hx hb hdg (by rw [zi_cv_cat]; exact hc.1) (by rw [zi_cv_cat]; exact hc.2) (kk H locs ls hP hD hS hl rfl)
      · cases hst
    · cases hst
  · -- getfield
    rename_i j
    split at hst
    · rename_i r rest
      obtain ⟨x, h1, h2⟩ := Option.map_eq_some_iff.mp hst
      simp only [Prod.mk.injEq] at h2
      obtain ⟨rfl, rfl, rfl⟩ := h2
      have e : ln = 3 := of_decide_eq_true hlen
      subst e
      unfold zi_gf at h1
      split at h1
      · rename_i t' fs hr
        split at h1
        · rename_i hc
          obtain ⟨rfl, h7⟩ := hc
          unfold zi_ok at hok
          dsimp only at hok
          split at hok
          · rename_i q hq
            simp only [Bool.and_eq_true, decide_eq_true_eq] at hok
            obtain ⟨⟨k1, k2⟩, k3⟩ := hok
            have he := zi_w_get (ρ := ρ) (b := b0) (as := as) (cy := cy) hr
            rw [zi_ce_obj h7] at he
            exact va_get (D := D) (ci := t') (C := q.1) (T := q.2.1) (N := q.2.2) hx hb hts (hcl _ _ hq).1 hown hK hP r he hq b k1 (hts _ (zi_tb_in k3)) (fun y hy => by rw [← k2]; exact hy) (by rw [List.getElem?_map, h1]; rfl) hdg (kk H locs ls hP hD hS hl rfl)
          · cases hok
        · cases h1
      · cases h1
    · cases hst
  · -- putfield
    rename_i j
    split at hst
    · rename_i x r rest
      obtain ⟨hn, h1, h2⟩ := Option.map_eq_some_iff.mp hst
      simp only [Prod.mk.injEq] at h2
      obtain ⟨rfl, rfl, rfl⟩ := h2
      have e : ln = 3 := of_decide_eq_true hlen
      subst e
      unfold zi_pf at h1
      split at h1
      · rename_i t' fs hr
        split at h1
        · rename_i hc
          obtain ⟨rfl, h7, hbl, hfit⟩ := hc
          cases h1
          unfold zi_ok at hok
          dsimp only at hok
          split at hok
          · rename_i q hq
            simp only [Bool.and_eq_true, Bool.or_eq_true, decide_eq_true_eq] at hok
            obtain ⟨⟨⟨k1, k2⟩, k3⟩, k4⟩ := hok
            have he := zi_w_get (ρ := ρ) (b := b0) (as := as) (cy := cy) hr
            rw [zi_ce_obj h7] at he
            have hcq := hcl _ _ hq
            obtain ⟨n1, n2⟩ := zi_fit_ok (ρ := ρ) (b0 := b0) (as := as) hfit
            have ew : (zi_w ρ b0 as cy h).set r (as.getD r 0, .inr (t', (fs.map (zi_cv ρ b0 as)).set b (zi_cv ρ b0 as x))) = zi_w ρ b0 as cy (h.set r (t', fs.set b x)) := by
              rw [zi_w_set, zi_ce_obj h7, List.map_set]
            have k9 : ∀ (H1 : Heap) (locs1 : List Loc), va_P D vwCl ((zi_w ρ b0 as cy h).set r (as.getD r 0, .inr (t', (fs.map (zi_cv ρ b0 as)).set b (zi_cv ρ b0 as x)))) H1 → va_D A ((zi_w ρ b0 as cy h).set r (as.getD r 0, .inr (t', (fs.map (zi_cv ρ b0 as)).set b (zi_cv ρ b0 as x)))) → va_S A H0 H1 locs1 → W p l e R s m args below meth c H1 locs1 cells slots Q (F0 m (pc + 3) ls (rest.map (zi_cv ρ b0 as))) := by
              intro H1 locs1 p1 p2 p3
              rw [ew] at p1 p2
              exact kk H1 locs1 ls p1 p2 p3 hl (List.length_set ..)
            rcases k4 with k4 | ⟨k4, k5⟩
            · exact va_put (D := D) (ci := t') (ty := zi_ty t' b) (C := q.1) (T := q.2.1) (N := q.2.2) hx hb hts hcq.1 (zi_ty t') hcq.2.1 hcq.2.2.1 hown hK hP hD hS r he hq b k1 (hts _ (zi_tb_in k3)) (fun y hy => by rw [← k2]; exact hy) k4 (hcq.2.1 b k1) n1 n2 (by rw [List.length_map]; exact hbl) hdg k9
            · by_cases k6 : (q.2.1 b).2.2.2 = false
              · exact va_put (D := D) (ci := t') (ty := zi_ty t' b) (C := q.1) (T := q.2.1) (N := q.2.2) hx hb hts hcq.1 (zi_ty t') hcq.2.1 hcq.2.2.1 hown hK hP hD hS r he hq b k1 (hts _ (zi_tb_in k3)) (fun y hy => by rw [← k2]; exact hy) k6 (hcq.2.1 b k1) n1 n2 (by rw [List.length_map]; exact hbl) hdg k9
              · exact va_putF (D := D) (ci := t') (ty := zi_ty t' b) (C := q.1) (T := q.2.1) (N := q.2.2) hx hb hts hcq.1 (zi_ty t') hcq.2.1 hcq.2.2.1 hown hK hP hD hS r he hq b k1 (hts _ (zi_tb_in k3)) (fun y hy => by rw [← k2]; exact hy) (by simpa using k6) (hini k4) (k2.trans k5) (hcq.2.1 b k1) n1 n2 (by rw [List.length_map]; exact hbl) hdg k9
          · cases hok
        · cases h1
      · cases h1
    · cases hst
  · -- iaload
    split at hst
    · rename_i j r rest
      obtain ⟨x, h1, h2⟩ := Option.map_eq_some_iff.mp hst
      simp only [Prod.mk.injEq] at h2
      obtain ⟨rfl, rfl, rfl⟩ := h2
      have e : ln = 1 := of_decide_eq_true hlen
      subst e
      have h5 := kk H locs ls hP hD hS hl rfl
      have hval : ∀ (sl : List Value) (y : Value), sl[j.toNatClampNeg]? = some y → zi_isI y = true → zi_cv ρ b0 as (zi_nm d y) = .int (zi_iv ρ (sl.getD j.toNatClampNeg (.int 0))) := by
        intro sl y hy hi
        rw [zi_nm_cv hrho, zi_cv_iv hi, List.getD_eq_getElem?_getD, hy]
        rfl
      unfold zi_iald at h1
      split at h1
      · split at h1
        · rename_i _ sl
          obtain ⟨x1, x2, x3⟩ := hX _ rfl
          split at h1
          · rename_i hin
            have hv : zi_cv ρ b0 as x = .int (zi_iv ρ (sl.getD j.toNatClampNeg (.int 0))) := by
              split at h1
              · rename_i y hy
                cases h1
                exact hval sl _ hy rfl
              · rename_i q hy
                cases h1
                exact hval sl _ hy rfl
              · cases h1
            rw [List.map_cons, hv] at h5
            exact va_sld hx hb x1 x2 x3 hS (zi_in_lt hin).1 hdg h5
          · cases h1
        · cases h1
      · rename_i r
        split at h1
        · rename_i sl hr
          split at h1
          · rename_i hin
            have hv : zi_cv ρ b0 as x = .int (zi_iv ρ (sl.getD j.toNatClampNeg (.int 0))) := by
              split at h1
              · rename_i y hy
                cases h1
                exact hval sl _ hy rfl
              · rename_i q hy
                cases h1
                exact hval sl _ hy rfl
              · cases h1
            rw [List.map_cons, hv] at h5
            have he := zi_w_get (ρ := ρ) (b := b0) (as := as) (cy := cy) hr
            rw [zi_ce_int] at he
            exact va_iald hx hb hK hP r 0 he rfl (zi_in_lt hin).1 hdg h5
          · cases h1
        · cases h1
    · cases hst
  · -- baload
    split at hst
    · rename_i j r rest
      obtain ⟨x, h1, h2⟩ := Option.map_eq_some_iff.mp hst
      simp only [Prod.mk.injEq] at h2
      obtain ⟨rfl, rfl, rfl⟩ := h2
      have e : ln = 1 := of_decide_eq_true hlen
      subst e
      have h5 := kk H locs ls hP hD hS hl rfl
      unfold zi_bald at h1
      split at h1
      · rename_i sl hr
        split at h1
        · rename_i hin
          split at h1
          · rename_i y hy
            cases h1
            have hv : y = zi_iv ρ (sl.getD j.toNatClampNeg (.int 0)) := by
              rw [List.getD_eq_getElem?_getD, hy]
              rfl
            rw [List.map_cons, hv] at h5
            have he := zi_w_get (ρ := ρ) (b := b0) (as := as) (cy := cy) hr
            rw [zi_ce_boo] at he
            exact va_zald hx hb hK hP r 1 he rfl (zi_in_lt hin).1 hdg h5
          · cases h1
        · cases h1
      · cases h1
    · cases hst
  · -- aaload
    split at hst
    · rename_i j r rest
      obtain ⟨x, h1, h2⟩ := Option.map_eq_some_iff.mp hst
      simp only [Prod.mk.injEq] at h2
      obtain ⟨rfl, rfl, rfl⟩ := h2
      have e : ln = 1 := of_decide_eq_true hlen
      subst e
      have h5 := kk H locs ls hP hD hS hl rfl
      unfold zi_aald at h1
      split at h1
      · rename_i t' sl hr
        split at h1
        · rename_i hin
          simp only [Bool.and_eq_true, decide_eq_true_eq] at hin
          have hv : zi_cv ρ b0 as x = va_rf (zi_rv as (sl.getD j.toNatClampNeg .null)) := by
            split at h1
            · rename_i y hy
              cases h1
              rw [List.getD_eq_getElem?_getD, hy]
              rfl
            · rename_i hy
              cases h1
              rw [List.getD_eq_getElem?_getD, hy]
              rfl
            · cases h1
          rw [List.map_cons, hv] at h5
          have he := zi_w_get (ρ := ρ) (b := b0) (as := as) (cy := cy) hr
          rw [zi_ce_ref hin.1.1] at he
          have hty : (zi_tyOf t').isReference = true := by
            obtain ⟨⟨g1, g2⟩, -⟩ := hin
            match t', g1, g2 with
            | 9, _, _ => rfl
            | 10, _, _ => rfl
            | 11, _, _ => rfl
          exact zi_Waald hx hb hK hP r (t' - 7) hty he (zi_tys_at (by omega) hin.1.2) (zi_in_lt hin.2).1 hdg h5
        · cases h1
      · cases h1
    · cases hst
  · -- iastore
    split at hst
    · rename_i x j r rest
      obtain ⟨hn, h1, h2⟩ := Option.map_eq_some_iff.mp hst
      simp only [Prod.mk.injEq] at h2
      obtain ⟨rfl, rfl, rfl⟩ := h2
      have e : ln = 1 := of_decide_eq_true hlen
      subst e
      unfold zi_iast at h1
      split at h1
      · rename_i sl hr
        split at h1
        · rename_i hin
          simp only [Bool.and_eq_true] at hin
          cases h1
          have he := zi_w_get (ρ := ρ) (b := b0) (as := as) (cy := cy) hr
          rw [zi_ce_int] at he
          rw [List.map_cons, zi_cv_iv hin.2]
          refine va_iast hx hb hK hP hD hS r 0 he rfl (zi_in_lt hin.1).1 hdg (fun H1 locs1 p1 p2 p3 => ?_)
          have ew : (zi_w ρ b0 as cy h).set r (as.getD r 0, .inl (cy 7, sl.length, .inl (upd (fun i => zi_iv ρ (sl.getD i (.int 0))) j.toNatClampNeg (zi_iv ρ x)))) = zi_w ρ b0 as cy (h.set r (7, sl.set j.toNatClampNeg x)) := by
            rw [zi_w_set, zi_ce_int, zi_upd (zi_in_lt hin.1).2, List.length_set]
          rw [ew] at p1 p2
          exact kk H1 locs1 ls p1 p2 p3 hl (List.length_set ..)
        · cases h1
      · cases h1
    · cases hst
  · -- bastore
    split at hst
    · rename_i x j r rest
      obtain ⟨hn, h1, h2⟩ := Option.map_eq_some_iff.mp hst
      simp only [Prod.mk.injEq] at h2
      obtain ⟨rfl, rfl, rfl⟩ := h2
      have e : ln = 1 := of_decide_eq_true hlen
      subst e
      unfold zi_bast at h1
      split at h1
      · rename_i sl hr
        split at h1
        · rename_i hin
          simp only [Bool.and_eq_true, Bool.or_eq_true, decide_eq_true_eq] at hin
          cases h1
          have he := zi_w_get (ρ := ρ) (b := b0) (as := as) (cy := cy) hr
          rw [zi_ce_boo] at he
          have hx1 : vp_nar .boolean x = x := by
            rcases hin.2 with rfl | rfl
            · decide
            · decide
          refine va_zast (x := x) hx hb hK hP hD hS r 1 he rfl (zi_in_lt hin.1).1 hdg (fun H1 locs1 p1 p2 p3 => ?_)
          have ew : (zi_w ρ b0 as cy h).set r (as.getD r 0, .inl (cy 8, sl.length, .inl (upd (fun i => zi_iv ρ (sl.getD i (.int 0))) j.toNatClampNeg (vp_nar .boolean x)))) = zi_w ρ b0 as cy (h.set r (8, sl.set j.toNatClampNeg (.int x))) := by
            rw [zi_w_set, zi_ce_boo, zi_upd (zi_in_lt hin.1).2, List.length_set, hx1]
            rfl
          rw [ew] at p1 p2
          exact kk H1 locs1 ls p1 p2 p3 hl (List.length_set ..)
        · cases h1
      · cases h1
    · cases hst
  · -- aastore
    split at hst
    · rename_i q j r rest
      obtain ⟨hn, h1, h2⟩ := Option.map_eq_some_iff.mp hst
      simp only [Prod.mk.injEq] at h2
      obtain ⟨rfl, rfl, rfl⟩ := h2
      have e : ln = 1 := of_decide_eq_true hlen
      subst e
      unfold zi_aast at h1
      split at h1
      · rename_i t' sl hr
        split at h1
        · rename_i hin
          simp only [Bool.and_eq_true, decide_eq_true_eq] at hin
          split at h1
          · rename_i ci vs hq
            split at h1
            · rename_i hci
              cases h1
              have h9 : 9 ≤ t' := by omega
              have he := zi_w_get (ρ := ρ) (b := b0) (as := as) (cy := cy) hr
              rw [zi_ce_ref h9] at he
              have hv := zi_w_get (ρ := ρ) (b := b0) (as := as) (cy := cy) hq
              have ew : (zi_w ρ b0 as cy h).set r (as.getD r 0, .inl (cy t', sl.length, .inr (.inr (.inr (.inr (va_up (fun i => zi_rv as (sl.getD i .null)) j.toNatClampNeg (some (as.getD q 0)))))))) = zi_w ρ b0 as cy (h.set r (t', sl.set j.toNatClampNeg (.ref (q + 1)))) := by
                rw [zi_w_set, zi_ce_ref h9, zi_updr (zi_in_lt hin.2).2, List.length_set]
              rcases hin.1 with rfl | rfl
              · have hci : ci = 2 := hci
                subst hci
                rw [zi_ce_obj (by omega)] at hv
                refine va_astq hx hb hK hP hD hS r 2 q 2 (r := (RX2, TX2, 4)) he rfl hv rfl (zi_in_lt hin.2).1 hdg (fun H1 locs1 p1 p2 p3 => ?_)
                rw [ew] at p1 p2
                exact kk H1 locs1 ls p1 p2 p3 hl (List.length_set ..)
              · have hci : ci = 4 := hci
                subst hci
                rw [zi_ce_obj (by omega)] at hv
                refine va_astq hx hb hK hP hD hS r 3 q 4 (r := (RX4, TX4, 6)) he rfl hv rfl (zi_in_lt hin.2).1 hdg (fun H1 locs1 p1 p2 p3 => ?_)
                rw [ew] at p1 p2
                exact kk H1 locs1 ls p1 p2 p3 hl (List.length_set ..)
            · cases h1
          · cases h1
        · cases h1
      · cases h1
    · cases hst
  · -- arraylength
    split at hst
    · rename_i r rest
      obtain ⟨x, h1, h2⟩ := Option.map_eq_some_iff.mp hst
      simp only [Prod.mk.injEq] at h2
      obtain ⟨rfl, rfl, rfl⟩ := h2
      have e : ln = 1 := of_decide_eq_true hlen
      subst e
      unfold zi_alen at h1
      split at h1
      · split at h1
        · rename_i sl hsl
          cases h1
          obtain ⟨x1, x2, x3⟩ := hX _ rfl
          exact va_slen hx hb x1 x2 x3 hS hdg (kk H locs ls hP hD hS hl rfl)
        · cases h1
      · rename_i r
        split at h1
        · rename_i t' sl hr
          split at h1
          · rename_i hc
            cases h1
            have he := zi_w_get (ρ := ρ) (b := b0) (as := as) (cy := cy) hr
            have h5 := kk H locs ls hP hD hS hl rfl
            by_cases h9 : 9 ≤ t'
            · rw [zi_ce_ref h9] at he
              exact va_alen hx hb hK hP r (t' - 7) he (zi_tys_at hc.1 hc.2) rfl hdg h5
            · have h78 : t' = 7 ∨ t' = 8 := by omega
              rcases h78 with rfl | rfl
              · rw [zi_ce_int] at he
                exact va_alen hx hb hK hP r 0 he rfl rfl hdg h5
              · rw [zi_ce_boo] at he
                exact va_alen hx hb hK hP r 1 he rfl rfl hdg h5
          · cases h1
        · cases h1
    · cases hst
  · -- pop
    split at hst
    · split at hst
      · rename_i hc
        simp only [Option.some.injEq, Prod.mk.injEq] at hst
        obtain ⟨rfl, rfl, rfl⟩ := hst
        have e : ln = 1 := of_decide_eq_true hlen
        subst e
        exact lv_pop hx hb hdg (by rw [zi_cv_cat]; exact hc) (kk H locs ls hP hD hS hl rfl)
      · cases hst
    · cases hst
  · -- ixor
    split at hst
    · simp only [Option.some.injEq, Prod.mk.injEq] at hst
      obtain ⟨rfl, rfl, rfl⟩ := hst
      have e : ln = 1 := of_decide_eq_true hlen
      subst e
      exact lv_ixor hx hb hdg (kk H locs ls hP hD hS hl rfl)
    · cases hst
  · -- lconst
    simp only [Option.some.injEq, Prod.mk.injEq] at hst
    obtain ⟨rfl, rfl, rfl⟩ := hst
    have e : ln = 1 := of_decide_eq_true hlen
    subst e
    exact lv_lconst hx hb hdg rfl (kk H locs ls hP hD hS hl rfl)
  · -- ldc2_w
    simp only [Option.some.injEq, Prod.mk.injEq] at hst
    obtain ⟨rfl, rfl, rfl⟩ := hst
    have e : ln = 3 := of_decide_eq_true hlen
    subst e
    exact lv_ldc2 hx hb hown (hts _ (zi_tb_in hok)) hdg (kk H locs ls hP hD hS hl rfl)
  · -- lload_n
    split at hst
    · rename_i x hg
      simp only [Option.some.injEq, Prod.mk.injEq] at hst
      obtain ⟨rfl, rfl, rfl⟩ := hst
      have e : ln = 1 := of_decide_eq_true hlen
      subst e
      exact lv_lload_n hx hb hdg rfl (zi_get_at hl hg) (kk H locs ls hP hD hS hl rfl)
    · cases hst
  · -- lstore_n
    split at hst
    · rename_i x rest
      split at hst
      · rename_i hc
        simp only [Option.some.injEq, Prod.mk.injEq] at hst
        obtain ⟨rfl, rfl, rfl⟩ := hst
        have e : ln = 1 := of_decide_eq_true hlen
        subst e
        exact lv_lstore_n hx hb hdg rfl hl hc (by rw [← zi_set2_lc]; rfl) (fun ls1 hl1 => kk H locs ls1 hP hD hS hl1 rfl)
      · cases hst
    · cases hst
  · -- i2l
    split at hst
    · simp only [Option.some.injEq, Prod.mk.injEq] at hst
      obtain ⟨rfl, rfl, rfl⟩ := hst
      have e : ln = 1 := of_decide_eq_true hlen
      subst e
      exact lv_i2l hx hb hdg rfl (kk H locs ls hP hD hS hl rfl)
    · cases hst
  · -- l2i
    split at hst
    · simp only [Option.some.injEq, Prod.mk.injEq] at hst
      obtain ⟨rfl, rfl, rfl⟩ := hst
      have e : ln = 1 := of_decide_eq_true hlen
      subst e
      exact lv_l2i hx hb hdg rfl (kk H locs ls hP hD hS hl rfl)
    · cases hst
  · -- lshl
    split at hst
    · simp only [Option.some.injEq, Prod.mk.injEq] at hst
      obtain ⟨rfl, rfl, rfl⟩ := hst
      have e : ln = 1 := of_decide_eq_true hlen
      subst e
      exact lv_lshl hx hb hdg rfl (kk H locs ls hP hD hS hl rfl)
    · cases hst
  · -- lshr
    split at hst
    · simp only [Option.some.injEq, Prod.mk.injEq] at hst
      obtain ⟨rfl, rfl, rfl⟩ := hst
      have e : ln = 1 := of_decide_eq_true hlen
      subst e
      exact lv_lshr hx hb hdg rfl (kk H locs ls hP hD hS hl rfl)
    · cases hst
  · -- lor
    split at hst
    · simp only [Option.some.injEq, Prod.mk.injEq] at hst
      obtain ⟨rfl, rfl, rfl⟩ := hst
      have e : ln = 1 := of_decide_eq_true hlen
      subst e
      exact lv_lor hx hb hdg (kk H locs ls hP hD hS hl rfl)
    · cases hst
  · -- land
    split at hst
    · simp only [Option.some.injEq, Prod.mk.injEq] at hst
      obtain ⟨rfl, rfl, rfl⟩ := hst
      have e : ln = 1 := of_decide_eq_true hlen
      subst e
      exact lv_land hx hb hdg (kk H locs ls hP hD hS hl rfl)
    · cases hst
  · cases hst
end ZW
end
section
section ZN
variable {p : Program} {l : Launch} {e : Env} {R : Room} {s : State} {m : MethodId} {args : Array Value} {below : List Frame} {meth : Method} {c : Code} {H : Heap} {locs : List Loc} {cells slots : Nat} {Q : State → Prop}
variable {cc : ByteArray} {ls : Array Slot} {D : va_G} {A : Nat → Prop} {H0 : Heap}
variable {ρ : Nat → Int32} {b0 : Nat} {as : List Nat} {cy : Nat → ClassId} {own : String} {ini : Bool} {ms : List zi_Me}
theorem zi_zero (n : Nat) : (fun i => zi_iv ρ ((List.replicate n (Value.int 0)).getD i (.int 0))) = fun _ => 0 := by
  funext i
  rw [List.getD_eq_getElem?_getD, List.getElem?_replicate]
  split <;> rfl
theorem zi_nulls (n : Nat) : (fun i => zi_rv as ((List.replicate n Value.null).getD i .null)) = fun _ => none := by
  funext i
  rw [List.getD_eq_getElem?_getD, List.getElem?_replicate]
  split <;> rfl
theorem zi_defs {a : Nat} (h : a < 7) : ((List.range (zi_fld a)).map (fun k => defaultValue (zi_ty a k))).map (zi_cv ρ b0 as) = (List.range (zi_fld a)).map (fun k => defaultValue (zi_ty a k)) := by
  match a, h with
  | 0, _ => rfl
  | 1, _ => rfl
  | 2, _ => rfl
  | 3, _ => rfl
  | 4, _ => rfl
  | 5, _ => rfl
  | 6, _ => rfl
theorem zi_top (q : Nat) (qs : List Nat) {h : zi_Hp} (hl : as.length = h.length) : zi_cv ρ b0 (as ++ q :: qs) (.ref (h.length + 1)) = .ref q := by
  show Value.ref ((as ++ q :: qs).getD h.length 0) = _
  rw [← hl]
  simp [List.getD_eq_getElem?_getD]
theorem zi_one_new {q : Nat} {h : zi_Hp} {c : Nat × List Value} (hl : as.length = h.length) (hw : zi_wfh h = true) : zi_w ρ b0 (as ++ [q]) cy (h ++ [c]) = zi_w ρ b0 as cy h ++ [(q, zi_ce ρ b0 (as ++ [q]) cy c)] := by
  rw [zi_w_grow hl hw]
  rfl
set_option maxHeartbeats 4000000 in
theorem zi_new_sound {r : zi_Row} {L : zi_Lc} {st st' : List Value} {h h' : zi_Hp} {k1 k2 nL : Nat}
    (hx : p.tables.exec = Jvm.exec) (hb : c.code = cc) (hown : s.vm.findClass own = some m.cls) (hts : ∀ w ∈ zi_Ts, w.before args s = true) (hcl : ∀ a q, vwCl[a]? = some q → zi_cok a q)
    (hAI : Cond.arrayClass .int ∈ zi_Ts) (hAZ : Cond.arrayClass .boolean ∈ zi_Ts) (hA2 : va_AO RX2 s) (hA4 : va_AO RX4 s) (hAA : va_AOA .int s)
    (hK : va_K D vwCl (zi_tys cy) s) (hA : ∀ q, H0.size ≤ q → A q)
    (hdg : decode cc r.1 = .ok (r.2.1, r.2.2.1)) (hlen : zi_lok r = true) (hok : zi_ok own ini ms r = true) (hst : zi_new r st h = some (st', h', k1, k2)) (hC : cells + k1 ≤ R.cells) (hSl : slots + k2 ≤ R.slots)
    (hwh : zi_wfh h = true) (hwc : zi_wfc h.length L = true) (hws : zi_wfl h.length st = true) (hln : as.length = h.length)
    (hl : lv_has ls nL (zi_lc ρ b0 as L)) (hP : va_P D vwCl (zi_w ρ b0 as cy h) H) (hD : va_D A (zi_w ρ b0 as cy h)) (hS : va_S A H0 H locs)
    (kk : ∀ (qs : List Nat) (H1 : Heap), va_P D vwCl (zi_w ρ b0 (as ++ qs) cy h') H1 → va_D A (zi_w ρ b0 (as ++ qs) cy h') → va_S A H0 H1 locs → lv_has ls nL (zi_lc ρ b0 (as ++ qs) L) → (as ++ qs).length = h'.length → qs.length ≤ k1 → W p l e R s m args below meth c H1 locs (cells + k1) (slots + k2) Q (F0 m (r.1 + r.2.2.1) ls (st'.map (zi_cv ρ b0 (as ++ qs))))) :
    W p l e R s m args below meth c H locs cells slots Q (F0 m r.1 ls (st.map (zi_cv ρ b0 as))) := by
  obtain ⟨pc, i, ln, a, b, t, v⟩ := r
  dsimp only at hdg hlen hok hst kk ⊢
  unfold zi_new at hst
  dsimp only at hst
  rw [← hln] at hwc hws
  have hlc : ∀ qs : List Nat, lv_has ls nL (zi_lc ρ b0 (as ++ qs) L) := fun qs => by rw [zi_lc_grow hwc]; exact hl
  split at hst
  · -- new
    rename_i j
    split at hst
    · rename_i h7
      simp only [Option.some.injEq, Prod.mk.injEq] at hst
      obtain ⟨rfl, rfl, rfl, rfl⟩ := hst
      have e : ln = 3 := of_decide_eq_true hlen
      subst e
      unfold zi_ok at hok
      dsimp only at hok
      split at hok
      · rename_i q hq
        obtain ⟨u1, u2, u3, u4, u5, u6⟩ := hcl _ _ hq
        obtain ⟨C, T, N⟩ := q
        dsimp only at u1 u2 u3 u4 u5 u6 hok
        subst u4
        refine va_new (C := C) (T := T) (N := zi_fld a) (ci := a) (fs := (List.range (zi_fld a)).map (fun k => defaultValue (zi_ty a k))) hx hb hts u1 (zi_ty a) u2 hown (hts _ (zi_tb_in hok)) (hts _ u5) (hts _ u6) hK hP hD hS hA hq (fun k hk => by simp [vp_V, List.getD_eq_getElem?_getD, hk]) hC hSl hdg (fun q H1 p1 p2 p3 => ?_)
        have ew := zi_one_new (ρ := ρ) (b0 := b0) (cy := cy) (q := q) (c := (a, (List.range (zi_fld a)).map (fun k => defaultValue (zi_ty a k)))) hln hwh
        rw [zi_ce_obj h7, zi_defs h7] at ew
        rw [← ew] at p1 p2
        have h5 := kk [q] H1 p1 p2 p3 (hlc _) (by simp [hln]) (Nat.le_refl _)
        rw [List.map_cons, zi_top q [] hln, zi_cvl_grow hws] at h5
        exact h5
      · cases hok
    · cases hst
  · -- newarray int
    split at hst
    · rename_i n rest
      split at hst
      · cases hst
      · rename_i hn
        simp only [Option.some.injEq, Prod.mk.injEq] at hst
        obtain ⟨rfl, rfl, rfl, rfl⟩ := hst
        have e : ln = 2 := of_decide_eq_true hlen
        subst e
        have hn0 : ¬ n < 0 := fun q => hn (Or.inl q)
        have hn1 : n.toNatClampNeg ≤ 100000 := Nat.not_lt.mp fun q => hn (Or.inr q)
        refine va_newa (atype := .int) (ty := .int) (a0 := (n.toNatClampNeg, .inl (fun _ => 0))) hx hb (hts _ hAI) rfl hK hP hD hS hA (fun cA => rfl) hn0 rfl (by show _ * 4 ≤ _; omega) hC hSl hdg (fun q cA H1 hK1 p1 p2 p3 => ?_)
        have e : cA = cy 7 := Option.some.inj ((hK1.2 5 _ rfl).2.symm.trans (hK.2 0 _ rfl).2)
        subst e
        have ew := zi_one_new (ρ := ρ) (b0 := b0) (cy := cy) (q := q) (c := (7, List.replicate n.toNatClampNeg (.int 0))) hln hwh
        rw [zi_ce_int, zi_zero, List.length_replicate] at ew
        rw [← ew] at p1 p2
        have h5 := kk [q] H1 p1 p2 p3 (hlc _) (by simp [hln]) (Nat.le_refl _)
        rw [List.map_cons, zi_top q [] hln, zi_cvl_grow (by simp only [zi_wfl, List.all_cons, Bool.and_eq_true] at hws ⊢; exact hws.2)] at h5
        exact h5
    · cases hst
  · -- newarray boolean
    split at hst
    · rename_i n rest
      split at hst
      · cases hst
      · rename_i hn
        simp only [Option.some.injEq, Prod.mk.injEq] at hst
        obtain ⟨rfl, rfl, rfl, rfl⟩ := hst
        have e : ln = 2 := of_decide_eq_true hlen
        subst e
        have hn0 : ¬ n < 0 := fun q => hn (Or.inl q)
        have hn1 : n.toNatClampNeg ≤ 100000 := Nat.not_lt.mp fun q => hn (Or.inr q)
        refine va_newa (atype := .boolean) (ty := .boolean) (a0 := (n.toNatClampNeg, .inl (fun _ => 0))) hx hb (hts _ hAZ) rfl hK hP hD hS hA (fun cA => rfl) hn0 rfl (by show _ * 1 ≤ _; omega) hC hSl hdg (fun q cA H1 hK1 p1 p2 p3 => ?_)
        have e : cA = cy 8 := Option.some.inj ((hK1.2 5 _ rfl).2.symm.trans (hK.2 1 _ rfl).2)
        subst e
        have ew := zi_one_new (ρ := ρ) (b0 := b0) (cy := cy) (q := q) (c := (8, List.replicate n.toNatClampNeg (.int 0))) hln hwh
        rw [zi_ce_boo, zi_zero, List.length_replicate] at ew
        rw [← ew] at p1 p2
        have h5 := kk [q] H1 p1 p2 p3 (hlc _) (by simp [hln]) (Nat.le_refl _)
        rw [List.map_cons, zi_top q [] hln, zi_cvl_grow (by simp only [zi_wfl, List.all_cons, Bool.and_eq_true] at hws ⊢; exact hws.2)] at h5
        exact h5
    · cases hst
  · -- anewarray
    rename_i j
    split at hst
    · rename_i n rest
      split at hst
      · cases hst
      · rename_i hn
        simp only [Option.some.injEq, Prod.mk.injEq] at hst
        obtain ⟨rfl, rfl, rfl, rfl⟩ := hst
        have e : ln = 3 := of_decide_eq_true hlen
        subst e
        have hn0 : ¬ n < 0 := fun q => hn (Or.inl q)
        have hn1 : n.toNatClampNeg ≤ 100000 := Nat.not_lt.mp fun q => hn (Or.inr (Or.inl q))
        have ha : a = 9 ∨ a = 10 := Classical.not_not.mp fun q => hn (Or.inr (Or.inr q))
        have hok : zi_tb t (.classLink own j (if a = 9 then RX2 else RX4)) = true := hok
        have h9 : 9 ≤ a := by omega
        have kq : ∀ (q : Nat) (H1 : Heap), va_P D vwCl (zi_w ρ b0 as cy h ++ [(q, .inl (cy a, n.toNatClampNeg, .inr (.inr (.inr (.inr (fun _ => none))))))]) H1 → va_D A (zi_w ρ b0 as cy h ++ [(q, .inl (cy a, n.toNatClampNeg, .inr (.inr (.inr (.inr (fun _ => none))))))]) → va_S A H0 H1 locs → W p l e R s m args below meth c H1 locs (cells + 1) (slots + n.toNatClampNeg) Q (F0 m (pc + 3) ls (.ref q :: rest.map (zi_cv ρ b0 as))) := by
          intro q H1 p1 p2 p3
          have ew := zi_one_new (ρ := ρ) (b0 := b0) (cy := cy) (q := q) (c := (a, List.replicate n.toNatClampNeg .null)) hln hwh
          rw [zi_ce_ref h9, zi_nulls, List.length_replicate] at ew
          rw [← ew] at p1 p2
          have h5 := kk [q] H1 p1 p2 p3 (hlc _) (by simp [hln]) (Nat.le_refl _)
          rw [List.map_cons, zi_top q [] hln, zi_cvl_grow (by simp only [zi_wfl, List.all_cons, Bool.and_eq_true] at hws ⊢; exact hws.2)] at h5
          exact h5
        rcases ha with rfl | rfl
        · refine va_newq (C := RX2) hx hb hown (hts _ (zi_tb_in hok)) hA2 hK hP hD hS hA hn0 rfl (by omega) hC hSl hdg (fun q cA H1 hK1 p1 p2 p3 => ?_)
          obtain ⟨-, -, -, -, -, f1⟩ := (hK1.2 5 _ rfl).2
          obtain ⟨-, -, -, -, -, f2⟩ := (hK.2 2 _ rfl).2
          have e : cA = cy 9 := Option.some.inj (f1.symm.trans f2)
          subst e
          exact kq q H1 p1 p2 p3
        · refine va_newq (C := RX4) hx hb hown (hts _ (zi_tb_in hok)) hA4 hK hP hD hS hA hn0 rfl (by omega) hC hSl hdg (fun q cA H1 hK1 p1 p2 p3 => ?_)
          obtain ⟨-, -, -, -, -, f1⟩ := (hK1.2 5 _ rfl).2
          obtain ⟨-, -, -, -, -, f2⟩ := (hK.2 3 _ rfl).2
          have e : cA = cy 10 := Option.some.inj (f1.symm.trans f2)
          subst e
          exact kq q H1 p1 p2 p3
    · cases hst
  · -- multianewarray
    rename_i j
    split at hst
    · rename_i k n rest
      split at hst
      · cases hst
      · rename_i hn
        simp only [Option.some.injEq, Prod.mk.injEq] at hst
        obtain ⟨rfl, rfl, rfl, rfl⟩ := hst
        have e : ln = 4 := of_decide_eq_true hlen
        subst e
        have hn0 : ¬ n < 0 := fun q => hn (Or.inl q)
        have hk0 : ¬ k < 0 := fun q => hn (Or.inr (Or.inl q))
        have hn1 : n.toNatClampNeg ≤ 100000 := Nat.not_lt.mp fun q => hn (Or.inr (Or.inr (Or.inl q)))
        have hk1 : k.toNatClampNeg ≤ 100000 := Nat.not_lt.mp fun q => hn (Or.inr (Or.inr (Or.inr q)))
        have hok : zi_tb t (.classLink own j ("[" ++ (FieldType.array .int).toString)) = true := hok
        have f7 : s.vm.findClass (FieldType.array .int).toString = some (cy 7) := (hK.2 0 _ rfl).2
        refine va_mna (X := zi_w ρ b0 as cy h) (L := []) (f := fun _ => .inr (0, [])) (ty := .int) (cy := cy 7) (z := (k.toNatClampNeg, .inl (fun _ => 0))) hx hb hown (hts _ (zi_tb_in hok)) hAA (hts _ hAI) f7 hK (by simpa [va_pl] using hP) (by simpa [va_pl] using hD) hS hA hn0 hk0 rfl rfl (by omega) (by show _ * 4 ≤ _; omega) (by omega) rfl rfl hC hSl (fun c0 => arrV_new c0 _ _) hdg (fun q r cA H1 hinj hnot hK1 p1 p2 p3 => ?_)
        have e : cA = cy 11 := Option.some.inj ((hK1.2 5 _ rfl).2.symm.trans (hK.2 4 _ rfl).2)
        subst e
        have ew : (zi_w ρ b0 as cy h ++ [(q, .inl (cy 11, n.toNatClampNeg, .inr (.inr (.inr (.inr (fun i => if i < n.toNatClampNeg then some (r i) else none))))))]) ++ va_pl ([] ++ (List.range n.toNatClampNeg).map r) (vr_up (fun _ => .inr (0, [])) ((List.range n.toNatClampNeg).map r) (.inl (cy 7, (k.toNatClampNeg, .inl (fun _ => 0))))) = zi_w ρ b0 (as ++ q :: (List.range n.toNatClampNeg).map r) cy (h ++ (11, (List.range n.toNatClampNeg).map (fun i => .ref (h.length + 2 + i))) :: List.replicate n.toNatClampNeg (7, List.replicate k.toNatClampNeg (.int 0))) := by
          rw [zi_w_grow hln hwh, List.append_assoc, List.mapIdx_cons]
          congr 1
          rw [List.singleton_append]
          congr 1
          · rw [zi_ce_ref (by omega)]
            have e1 : (fun i => zi_rv (as ++ q :: (List.range n.toNatClampNeg).map r) (((List.range n.toNatClampNeg).map (fun i => Value.ref (h.length + 2 + i))).getD i .null)) = (fun i => if i < n.toNatClampNeg then some (r i) else none) := by
              funext i
              by_cases hi : i < n.toNatClampNeg
              · rw [if_pos hi]
                have e2 : ((List.range n.toNatClampNeg).map (fun i => Value.ref (h.length + 2 + i))).getD i .null = .ref ((h.length + 1 + i) + 1) := by
                  rw [List.getD_eq_getElem?_getD, List.getElem?_map, List.getElem?_range hi]
                  have e9 : h.length + 2 + i = h.length + 1 + i + 1 := by omega
                  exact congrArg Value.ref e9
                rw [e2]
                show some ((as ++ q :: (List.range n.toNatClampNeg).map r).getD (h.length + 1 + i) 0) = _
                rw [← hln, List.getD_eq_getElem?_getD, List.getElem?_append_right (by omega)]
                have e3 : as.length + 1 + i - as.length = i + 1 := by omega
                rw [e3]
                simp [hi]
              · rw [if_neg hi]
                have e2 : ((List.range n.toNatClampNeg).map (fun i => Value.ref (h.length + 2 + i))).getD i .null = .null := by
                  simp [List.getD_eq_getElem?_getD, hi]
                rw [e2]
                rfl
            rw [e1]
            simp
          · apply List.ext_getElem?
            intro i
            unfold va_pl
            rw [List.getElem?_mapIdx]
            have e7 : ∀ xs : List Nat, zi_ce ρ b0 xs cy (7, List.replicate k.toNatClampNeg (.int 0)) = .inl (cy 7, k.toNatClampNeg, .inl (fun _ => 0)) := fun xs => by rw [zi_ce_int, zi_zero, List.length_replicate]
            by_cases hi : i < n.toNatClampNeg
            · simp only [List.nil_append, List.getElem?_map, List.getElem?_range hi, List.getElem?_replicate, if_pos hi, Option.map_some, e7, List.getD_eq_getElem?_getD, List.getElem?_cons_succ, Option.getD_some]
              rw [vr_up_in (List.mem_map.mpr ⟨i, List.mem_range.mpr hi, rfl⟩)]
            · simp [hi]
        rw [ew] at p1 p2
        have h5 := kk (q :: (List.range n.toNatClampNeg).map r) H1 p1 p2 p3 (hlc _) (by simp [hln]) (by simp; omega)
        rw [List.map_cons, zi_top q _ hln, zi_cvl_grow (by simp only [zi_wfl, List.all_cons, Bool.and_eq_true] at hws ⊢; exact hws.2.2), ← Nat.add_assoc, ← Nat.add_assoc] at h5
        exact h5
    · cases hst
  · cases hst
end ZN
end
section
/-! what the tables say beside the words -/
noncomputable def zi_Nst (U : State) : Prop := (∀ w ∈ zi_nest, va_Nw w U) ∧ va_AO RX2 U ∧ va_AO RX4 U ∧ va_AOA .int U
theorem zi_nest_k : ∀ w ∈ zi_nest, ∃ (a : String) (i : Nat) (x : MethodName) (h : String), w = Cond.methodLinkNest a i x h := by
  intro w hw
  simp only [zi_nest, List.mem_cons, List.not_mem_nil, or_false] at hw
  rcases hw with rfl | rfl | rfl | rfl | rfl | rfl | rfl | rfl | rfl <;> exact ⟨_, _, _, _, rfl⟩
theorem zi_Nst.warm {s U : State} (hW : s.WarmedH U.vm) (h : zi_Nst s) : zi_Nst U := by
  refine ⟨fun w hw => ?_, h.2.1.moved hW.alike, h.2.2.1.moved hW.alike, Jvm.Stand.arrayOver_alikeB hW.alike h.2.2.2⟩
  obtain ⟨a, i, x, g, rfl⟩ := zi_nest_k w hw
  exact va_Nw.warmM hW (h.1 _ hw)
theorem zi_Nst.same {u U : State} (e : u.vm = U.vm) (h : zi_Nst u) : zi_Nst U := by
  have ha : u.vm.Alike U.vm := by rw [← e]; exact Vm.Alike.refl u.vm
  refine ⟨fun w hw => ?_, h.2.1.moved ha, h.2.2.1.moved ha, Jvm.Stand.arrayOver_alikeB ha h.2.2.2⟩
  obtain ⟨a, i, x, g, rfl⟩ := zi_nest_k w hw
  exact va_Nw.same rfl e (h.1 _ hw)
/-! a method's contract -/
noncomputable def zi_Pc (ρ : Nat → Int32) (b0 : Nat) (as : List Nat) (cy : Nat → ClassId) (D : va_G) (sz : Nat) (h : zi_Hp) (vs : List Value) : Array Value → State → Prop :=
  va_Pc (vs.map (zi_cv ρ b0 as)) (fun U => U.heap.size = sz ∧ va_P D vwCl (zi_w ρ b0 as cy h) U.heap ∧ va_K D vwCl (zi_tys cy) U ∧ va_D (fun _ => True) (zi_w ρ b0 as cy h) ∧ zi_Nst U)
noncomputable def zi_Qc (ρ : Nat → Int32) (b0 : Nat) (as : List Nat) (cy : Nat → ClassId) (D : va_G) (sz : Nat) (h : zi_Hp) (mc : Nat) (os : List zi_Out) : Array Value → State → Outcome → State → Prop :=
  fun _ st oc t => ∃ o ∈ os, zi_rho ρ o.1 ∧ ∃ qs : List Nat, qs.length ≤ mc ∧ (as ++ qs).length = o.2.2.length ∧ oc = .returned (o.2.1.map (zi_cv ρ b0 (as ++ qs))) ∧ va_P D vwCl (zi_w ρ b0 (as ++ qs) cy o.2.2) t.heap ∧ va_D (va_A (zi_w ρ b0 as cy h) sz) (zi_w ρ b0 (as ++ qs) cy o.2.2) ∧ va_F (va_A (zi_w ρ b0 as cy h) sz) st t
noncomputable abbrev zi_wsM (mt : zi_Me) : List Cond := Cond.code mt.1 mt.2.1 mt.2.2.1 mt.2.2.2.1 :: zi_Ts
noncomputable abbrev zi_rm (mt : zi_Me) (dp : Nat) : Room := { frames := dp, cells := mt.2.2.2.2.2.1, slots := mt.2.2.2.2.2.2, locals := 40 * dp }
noncomputable def zi_callOk (l : Launch) (ms : List zi_Me) (call : Nat → List Value → zi_Hp → zi_Dm → Option (List zi_Out)) (dp : Nat) : Prop :=
  ∀ (a : Nat) (mt : zi_Me), ms[a]? = some mt → ∀ (vs : List Value) (h : zi_Hp) (d : zi_Dm) (os : List zi_Out), call a vs h d = some os → ∀ (ρ : Nat → Int32) (b0 : Nat) (as : List Nat) (cy : Nat → ClassId) (D : va_G) (sz : Nat), zi_rho ρ d → as.length = h.length →
    Met l mt.1 (zi_wsM mt) (zi_rm mt dp) (zi_Pc ρ b0 as cy D sz h vs) (zi_Qc ρ b0 as cy D sz h mt.2.2.2.2.2.1 os) mt.2.2.2.2.2.1 mt.2.2.2.2.2.2 (va_A (zi_w ρ b0 as cy h) sz)
/-- what is known of each method -/
noncomputable def zi_mOk (ms : List zi_Me) : Prop := ∀ (a : Nat) (mt : zi_Me), ms[a]? = some mt → Cond.code mt.1 mt.2.1 mt.2.2.1 mt.2.2.2.1 ∈ zi_Ts ∧ Cond.initialized mt.1.cls ∈ zi_Ts ∧ plainFor mt.1 = true ∧ (mt.1.cls ≠ "java/lang/invoke/MethodHandle" ∧ mt.1.cls ≠ "java/lang/invoke/VarHandle") ∧ mt.2.2.1 ≤ 21 ∧
  ∀ r ∈ mt.2.2.2.2.1, decode mt.2.1 r.1 = .ok (r.2.1, r.2.2.1) ∧ zi_lok r = true ∧ zi_ok mt.1.cls (decide (mt.1.name = "<init>")) ms r = true
theorem zi_goodM {ms : List zi_Me} (h : zi_mOk ms) {a : Nat} {mt : zi_Me} (e : ms[a]? = some mt) : GoodIn zi_Ts (zi_wsM mt) := by
  intro w hw
  rcases List.mem_cons.mp hw with rfl | hw
  · exact ⟨(h a mt e).1, zi_Ts_good (h a mt e).1⟩
  · exact ⟨hw, zi_Ts_good hw⟩
theorem zi_catsum (l : List Value) : (l.map fun v => v.category).sum ≤ 2 * l.length := by
  induction l with
  | nil => simp
  | cons v l ih =>
    have : v.category ≤ 2 := by rcases lv_cat v with h | h <;> omega
    simp only [List.map_cons, List.sum_cons, List.length_cons]
    omega
section ZB
variable {p : Program} {l : Launch} {e : Env} {R : Room} {s : State} {m : MethodId} {args : Array Value} {below : List Frame} {meth : Method} {c : Code} {H : Heap} {locs : List Loc} {cells slots : Nat} {Q : State → Prop}
variable {cc : ByteArray} {ls : Array Slot} {D : va_G} {A : Nat → Prop} {pc : Nat} {rest : List Value}
variable {ρ : Nat → Int32} {b0 : Nat} {as : List Nat} {cy : Nat → ClassId}
theorem zi_Wif {cnd : ClassFile.Cond} {x : Int32} {off : Int} {tgt : Nat} (hx : p.tables.exec = Jvm.exec) (hb : c.code = cc) (hdg : decode cc pc = .ok (.ifCond cnd off, 3)) (ht : (pc : Int) + off = (tgt : Int))
    (kt : zi_cmp cnd x 0 = true → W p l e R s m args below meth c H locs cells slots Q (F0 m tgt ls rest)) (kf : ¬ zi_cmp cnd x 0 = true → W p l e R s m args below meth c H locs cells slots Q (F0 m (pc + 3) ls rest)) : W p l e R s m args below meth c H locs cells slots Q (F0 m pc ls (.int x :: rest)) := by
  cases cnd <;> simp only [zi_cmp, decide_eq_true_eq] at kt kf
  · exact lv_if_eq hx hb hdg ht kt kf
  · exact lv_if_ne hx hb hdg ht kt (fun h => kf (fun n => n h))
  · exact lv_if_lt hx hb hdg ht kt kf
  · exact lv_if_ge hx hb hdg ht kt kf
  · exact lv_if_gt hx hb hdg ht kt kf
  · exact lv_if_le hx hb hdg ht kt kf
theorem zi_Wicmp {cnd : ClassFile.Cond} {x y : Int32} {off : Int} {tgt : Nat} (hx : p.tables.exec = Jvm.exec) (hb : c.code = cc) (hdg : decode cc pc = .ok (.if_icmp cnd off, 3)) (ht : (pc : Int) + off = (tgt : Int))
    (kt : zi_cmp cnd x y = true → W p l e R s m args below meth c H locs cells slots Q (F0 m tgt ls rest)) (kf : ¬ zi_cmp cnd x y = true → W p l e R s m args below meth c H locs cells slots Q (F0 m (pc + 3) ls rest)) : W p l e R s m args below meth c H locs cells slots Q (F0 m pc ls (.int y :: .int x :: rest)) := by
  cases cnd <;> simp only [zi_cmp, decide_eq_true_eq] at kt kf
  · exact lv_icmp_eq hx hb hdg ht kt kf
  · exact lv_icmp_ne hx hb hdg ht kt (fun h => kf (fun n => n h))
  · exact lv_icmp_lt hx hb hdg ht kt kf
  · exact lv_icmp_ge hx hb hdg ht kt kf
  · exact lv_icmp_gt hx hb hdg ht kt kf
  · exact lv_icmp_le hx hb hdg ht kt kf
/-- behind a call -/
theorem zi_Wcall {a : Array Value} {h : zi_Hp} {os : List zi_Out} {mc mS : Nat} {st0 : List Value}
    (hr : va_Run p l e R s m args below meth c H locs cells slots mc mS (F0 m pc ls st0) rest (zi_Qc ρ b0 as cy D H.size h mc os a) (va_A (zi_w ρ b0 as cy h) H.size))
    (hA : ∀ q, s.heap.size ≤ q → A q) (hD : va_D A (zi_w ρ b0 as cy h)) (hS : va_S A s.heap H locs)
    (kk : ∀ o ∈ os, zi_rho ρ o.1 → ∀ (qs : List Nat) (H1 : Heap) (locs1 : List Loc), qs.length ≤ mc → (as ++ qs).length = o.2.2.length → va_P D vwCl (zi_w ρ b0 (as ++ qs) cy o.2.2) H1 → va_D A (zi_w ρ b0 (as ++ qs) cy o.2.2) → va_S A s.heap H1 locs1 → W p l e R s m args below meth c H1 locs1 (cells + mc) (slots + mS) Q (F0 m (pc + 3) ls ((o.2.1.map (zi_cv ρ b0 (as ++ qs))).toList ++ rest))) :
    W p l e R s m args below meth c H locs cells slots Q (F0 m pc ls st0) := by
  have hF : ∀ q, va_A (zi_w ρ b0 as cy h) H.size q → A q := fun q hq => by
    rcases hq with ⟨k, x, hk⟩ | hq
    · exact hD.2 k (q, x) hk
    · exact hA q (Nat.le_trans hS.1 hq)
  intro T hT X
  obtain ⟨v, st₀, t, T', L, h0, X', hL, e1, e2, ⟨o, ho, hrho, qs, q1, q2, hv, hp, hd, hz, hk⟩, st⟩ := hr T hT X
  have hv : v = o.2.1.map (zi_cv ρ b0 (as ++ qs)) := by injection hv
  subst hv
  rw [h0] at hz hk
  obtain ⟨t2, a1, b1⟩ := kk o ho hrho qs T'.heap (locs ++ L) q1 q2 (by rw [e1]; exact hp) (hd.weaken (fun _ q _ h => hF q.1 h))
    ⟨Nat.le_trans hS.1 (by rw [e1]; exact hz), fun q h1 h2 => by rw [e1, hk q (Nat.lt_of_lt_of_le h1 hS.1) (fun z => h2 (hF q z))]; exact hS.2.1 q h1 h2, fun q hq => by
      rcases List.mem_append.mp hq with h | h
      · exact hS.2.2 q h
      · exact hF _ (hL q h)⟩ T' rfl X'
  exact ⟨t2, st t2 a1, b1⟩
theorem zi_blind {sz : Nat} {h : zi_Hp} {vs : List Value} : FrameBlind (zi_Pc ρ b0 as cy D sz h vs) := by
  intro a U g mk q
  obtain ⟨q0, q1, qP, qK, qD, qN⟩ := q
  exact ⟨q0, q1, qP, va_K.moved (u := U) (U := U.calling g mk a) (Vm.Alike.refl U.vm) qK, qD, zi_Nst.same (u := U) (U := U.calling g mk a) rfl qN⟩
theorem zi_pre {h : zi_Hp} {vs : List Value} (hP : va_P D vwCl (zi_w ρ b0 as cy h) H) (hK : va_K D vwCl (zi_tys cy) s) (hD : va_D A (zi_w ρ b0 as cy h)) (hN : zi_Nst s) :
    ∀ U : State, U.heap = H → s.WarmedH U.vm → zi_Pc ρ b0 as cy D H.size h vs (vs.map (zi_cv ρ b0 as)).toArray U := fun U hU hW =>
  ⟨rfl, by rw [hU], by rw [hU]; exact hP, va_K.moved hW.alike hK, hD.weaken (fun _ _ _ _ => trivial), hN.warm hW⟩
end ZB
theorem zi_ask_st {ρ : Nat → Int32} {b0 : Nat} {as : List Nat} {i : Instr} {st : List Value} {k : UInt32} {f : Int32 → List Value} (h : zi_ask i st = some (k, f)) : (f (ρ k.toNat)).map (zi_cv ρ b0 as) = st.map (zi_cv ρ b0 as) := by
  unfold zi_ask at h
  split at h
  all_goals first
    | cases h; done
    | (split at h
       · cases h; rfl
       · cases h)
theorem zi_cpyl {l0 l1 : List Value} {sp dp n : Nat} (h4 : sp + n ≤ l0.length) (h5 : dp + n ≤ l1.length) : (l1.take dp ++ ((l0.drop sp).take n ++ l1.drop (dp + n))).length = l1.length := by
  simp only [List.length_append, List.length_take, List.length_drop]
  omega
theorem zi_cpyf {ρ : Nat → Int32} {l0 l1 : List Value} {sp dp n : Nat} (h4 : sp + n ≤ l0.length) (h5 : dp + n ≤ l1.length) : (fun i => zi_iv ρ ((l1.take dp ++ ((l0.drop sp).take n ++ l1.drop (dp + n))).getD i (.int 0))) = va_cpy (fun i => zi_iv ρ (l0.getD i (.int 0))) (fun i => zi_iv ρ (l1.getD i (.int 0))) sp dp n := by
  funext i
  unfold va_cpy
  have e1 : (l1.take dp).length = dp := by rw [List.length_take]; omega
  have e2 : ((l0.drop sp).take n).length = n := by rw [List.length_take, List.length_drop]; omega
  simp only [List.getD_eq_getElem?_getD]
  by_cases c1 : i < dp
  · rw [if_neg (by omega), List.getElem?_append_left (by omega), List.getElem?_take, if_pos c1]
  · by_cases c2 : i < dp + n
    · rw [if_pos ⟨by omega, c2⟩, List.getElem?_append_right (by omega), List.getElem?_append_left (by omega), List.getElem?_take, if_pos (by omega), List.getElem?_drop, e1]
    · rw [if_neg (by omega), List.getElem?_append_right (by omega), List.getElem?_append_right (by omega), List.getElem?_drop, e1, e2]
      congr 3
      omega
theorem zi_lc_call {ρ : Nat → Int32} {b0 : Nat} {as qs : List Nat} {h : zi_Hp} {L : zi_Lc} {st : List Value} {mc : Nat} (c : mc = 0 ∨ (zi_wfc h.length L = true ∧ zi_wfl h.length st = true)) (hln : as.length = h.length) (hq : qs.length ≤ mc) : zi_lc ρ b0 (as ++ qs) L = zi_lc ρ b0 as L := by
  rcases c with rfl | c
  · rw [List.eq_nil_of_length_eq_zero (Nat.le_zero.mp hq), List.append_nil]
  · rw [← hln] at c
    exact zi_lc_grow c.1
theorem zi_cvl_call {ρ : Nat → Int32} {b0 : Nat} {as qs : List Nat} {h : zi_Hp} {L : zi_Lc} {st : List Value} {mc : Nat} (c : mc = 0 ∨ (zi_wfc h.length L = true ∧ zi_wfl h.length st = true)) (hln : as.length = h.length) (hq : qs.length ≤ mc) : st.map (zi_cv ρ b0 (as ++ qs)) = st.map (zi_cv ρ b0 as) := by
  rcases c with rfl | c
  · rw [List.eq_nil_of_length_eq_zero (Nat.le_zero.mp hq), List.append_nil]
  · rw [← hln] at c
    exact zi_cvl_grow c.2
end
section
section ZA
variable {p : Program} {l : Launch} {e : Env} {R : Room} {s : State} {m : MethodId} {args : Array Value} {below : List Frame} {meth : Method} {c : Code} {Q : State → Prop}
variable {cc : ByteArray} {D : va_G} {A : Nat → Prop} {ρ : Nat → Int32} {b0 : Nat} {as0 : List Nat} {cy : Nat → ClassId} {own : String} {ini : Bool} {ms : List zi_Me} {scr : Option (List Value)} {nL mc mS dp : Nat} {ret : Option FieldType} {code0 : List zi_Row}
variable {call : Nat → List Value → zi_Hp → zi_Dm → Option (List zi_Out)} {OUT : List zi_Out}
set_option maxHeartbeats 8000000 in
theorem zi_go_sound
    (hx : p.tables.exec = Jvm.exec) (hb : c.code = cc) (hml : c.maxLocals = nL) (hown : s.vm.findClass own = some m.cls) (hts : ∀ w ∈ zi_Ts, w.before args s = true) (hcl : ∀ a q, vwCl[a]? = some q → zi_cok a q) (hini : ini = true → meth.name = "<init>")
    (hX : ∀ sl, scr = some sl → va_X b0 sl.length (fun j => zi_iv ρ (sl.getD j (.int 0))) s s.heap ∧ b0 < s.heap.size ∧ ¬ A b0)
    (hN : zi_Nst s) (hAI : Cond.arrayClass .int ∈ zi_Ts) (hAZ : Cond.arrayClass .boolean ∈ zi_Ts) (hoI : Cond.instanceMethod objectInit ∈ zi_Ts) (hoC : Cond.code objectInit ⟨#[0xb1]⟩ 1 none ∈ zi_Ts) (hcN : Cond.native arraycopyName ∈ zi_Ts) (hcS : Cond.static arraycopyName ∈ zi_Ts) (hcI : Cond.initialized "java/lang/System" ∈ zi_Ts)
    (hK : va_K D vwCl (zi_tys cy) s) (hA : ∀ q, s.heap.size ≤ q → A q)
    (hRf : dp + 1 ≤ R.frames) (hRl : 40 * (dp + 1) ≤ R.locals) (hRc : mc ≤ R.cells) (hRs : mS ≤ R.slots)
    (hcode : ∀ r ∈ code0, decode cc r.1 = .ok (r.2.1, r.2.2.1) ∧ zi_lok r = true ∧ zi_ok own ini ms r = true)
    (hms : zi_mOk ms) (hcall : zi_callOk l ms call dp)
    (hleaf : ∀ (pc : Nat) (ls : Array Slot) (st : List Value) (o : zi_Out) (H : Heap) (locs : List Loc) (kc ks : Nat) (as : List Nat), o ∈ OUT → zi_rho ρ o.1 → (∃ qs, as = as0 ++ qs ∧ qs.length ≤ kc) → as.length = o.2.2.length → kc ≤ mc → ks ≤ mS →
      va_P D vwCl (zi_w ρ b0 as cy o.2.2) H → va_D A (zi_w ρ b0 as cy o.2.2) → va_S A s.heap H locs →
      ((decode cc pc = .ok (.ireturn, 1) ∧ ∃ v, o.2.1 = some v ∧ zi_retOk ret v = true ∧ st = [v]) ∨ (decode cc pc = .ok (.areturn, 1) ∧ ∃ x, o.2.1 = some (.ref x) ∧ zi_retA ret = true ∧ st = [.ref x]) ∨ (decode cc pc = .ok (.return_, 1) ∧ o.2.1 = none ∧ ret = none ∧ st = [])) →
      W p l e R s m args below meth c H locs kc ks Q (F0 m pc ls (st.map (zi_cv ρ b0 as)))) :
    ∀ (n pc : Nat) (L : zi_Lc) (st : List Value) (h : zi_Hp) (d : zi_Dm) (kc ks : Nat) (os : List zi_Out), zi_go ms scr nL ret code0 mc mS call n pc L st h d kc ks = some os → (∀ o ∈ os, o ∈ OUT) → zi_rho ρ d → kc ≤ mc → ks ≤ mS →
      ∀ (as : List Nat) (H : Heap) (locs : List Loc) (ls : Array Slot), (∃ qs, as = as0 ++ qs ∧ qs.length ≤ kc) → as.length = h.length → lv_has ls nL (zi_lc ρ b0 as L) → va_P D vwCl (zi_w ρ b0 as cy h) H → va_D A (zi_w ρ b0 as cy h) → va_S A s.heap H locs →
      W p l e R s m args below meth c H locs kc ks Q (F0 m pc ls (st.map (zi_cv ρ b0 as))) := by
  intro n
  induction n with
  | zero =>
    intro pc L st h d kc ks os hgo
    simp only [zi_go] at hgo
    cases hgo
  | succ n ih =>
    intro pc L st h d kc ks os hgo hos hrho hkc hks as H locs ls has hln hl hP hD hS
    unfold zi_go at hgo
    split at hgo
    · cases hgo
    rename_i r hfind
    have hrm : r ∈ code0 := List.mem_of_find?_eq_some hfind
    have hpc : r.1 = pc := by simpa using List.find?_some hfind
    obtain ⟨hdg, hlen, hok⟩ := hcode r hrm
    subst hpc
    split at hgo
    · -- an unknown index
      rename_i k f hask
      split at hgo
      · cases hgo
      rename_i dl hdl
      split at hgo
      · have hm := hrho.1 _ _ hdl
        obtain ⟨o, h1, h2⟩ := zi_bind_some hgo _ (zi_vals_mem hm)
        have h3 := ih _ _ _ _ _ _ _ _ h1 (fun y hy => hos y (h2 y hy)) (zi_rho_set hrho ⟨_, List.mem_singleton.mpr rfl, Int.le_refl _, Int.le_refl _⟩) hkc hks as H locs ls has hln hl hP hD hS
        rw [Int32.ofInt_toInt, zi_ask_st hask] at h3
        exact h3
      · cases hgo
    rename_i hask
    split at hgo
    · -- ireturn
      rename_i hi
      have hdg' : decode cc r.1 = .ok (.ireturn, 1) := by
        have e1 : r.2.2.1 = 1 := by
          have h := hlen
          unfold zi_lok at h
          rw [hi] at h
          exact of_decide_eq_true h
        rw [hdg, hi, e1]
      split at hgo
      · rename_i v
        split at hgo
        · rename_i hr
          cases hgo
          exact hleaf _ ls [v] _ H locs kc ks as (hos _ (List.mem_singleton.mpr rfl)) hrho has hln hkc hks hP hD hS (Or.inl ⟨hdg', v, rfl, hr, rfl⟩)
        · cases hgo
      · cases hgo
    · -- areturn
      rename_i hi
      have hdg' : decode cc r.1 = .ok (.areturn, 1) := by
        have e1 : r.2.2.1 = 1 := by
          have h := hlen
          unfold zi_lok at h
          rw [hi] at h
          exact of_decide_eq_true h
        rw [hdg, hi, e1]
      split at hgo
      · rename_i x
        split at hgo
        · rename_i hr
          cases hgo
          exact hleaf _ ls [.ref x] _ H locs kc ks as (hos _ (List.mem_singleton.mpr rfl)) hrho has hln hkc hks hP hD hS (Or.inr (Or.inl ⟨hdg', x, rfl, hr, rfl⟩))
        · cases hgo
      · cases hgo
    · -- return
      rename_i hi
      have hdg' : decode cc r.1 = .ok (.return_, 1) := by
        have e1 : r.2.2.1 = 1 := by
          have h := hlen
          unfold zi_lok at h
          rw [hi] at h
          exact of_decide_eq_true h
        rw [hdg, hi, e1]
      split at hgo
      · split at hgo
        · rename_i hr
          cases hgo
          exact hleaf _ ls [] _ H locs kc ks as (hos _ (List.mem_singleton.mpr rfl)) hrho has hln hkc hks hP hD hS (Or.inr (Or.inr ⟨hdg', rfl, hr, rfl⟩))
        · cases hgo
      · cases hgo
    · -- goto
      rename_i off hi
      obtain ⟨pc, i, ln, a, b, t, v⟩ := r
      dsimp only at hi hgo hdg hlen hok hask hfind hrm ⊢
      subst hi
      have e1 : ln = 3 := of_decide_eq_true hlen
      subst e1
      have e2 : (pc : Int) + off = (a : Int) := of_decide_eq_true hok
      exact lv_goto hx hb hdg e2 (ih _ _ _ _ _ _ _ _ hgo hos hrho hkc hks as H locs ls has hln hl hP hD hS)
    · -- if
      rename_i cnd off hi
      obtain ⟨pc, i, ln, a, b, t, v⟩ := r
      dsimp only at hi hgo hdg hlen hok hask hfind hrm ⊢
      subst hi
      have e1 : ln = 3 := of_decide_eq_true hlen
      subst e1
      have e2 : (pc : Int) + off = (a : Int) := of_decide_eq_true hok
      split at hgo
      · rename_i x rest
        refine zi_Wif hx hb hdg e2 (fun hc => ?_) (fun hc => ?_)
        · rw [if_pos hc] at hgo
          exact ih _ _ _ _ _ _ _ _ hgo hos hrho hkc hks as H locs ls has hln hl hP hD hS
        · rw [if_neg hc] at hgo
          exact ih _ _ _ _ _ _ _ _ hgo hos hrho hkc hks as H locs ls has hln hl hP hD hS
      · rename_i k rest
        split at hgo
        · cases hgo
        rename_i dl hdl
        have hm := hrho.1 _ _ hdl
        have key : ∀ (q : zi_Iv × Nat), q ∈ [(zi_T cnd 0 dl, a), (zi_T (zi_neg cnd) 0 dl, pc + 3)] → zi_mem (ρ k.toNat).toInt q.1 → W p l e R s m args below meth c H locs kc ks Q (F0 m q.2 ls (rest.map (zi_cv ρ b0 as))) := by
          intro q hq hqm
          obtain ⟨o, h1, h2⟩ := zi_bind_some hgo q hq
          have hne : q.1.isEmpty = false := by
            obtain ⟨y, hy, -⟩ := hqm
            cases hq1 : q.1 with
            | nil => rw [hq1] at hy; cases hy
            | cons _ _ => rfl
          rw [hne] at h1
          exact ih _ _ _ _ _ _ _ _ h1 (fun y hy => hos y (h2 y hy)) (zi_rho_set hrho hqm) hkc hks as H locs ls has hln hl hP hD hS
        refine zi_Wif (x := ρ k.toNat) hx hb hdg e2 (fun hc => ?_) (fun hc => ?_)
        · exact key (_, _) List.mem_cons_self (zi_T_mem hm (zi_lo _) (zi_hi _) (zi_cmp_hold.mp hc))
        · refine key (_, _) (List.mem_cons_of_mem _ List.mem_cons_self) (zi_T_mem hm (zi_lo _) (zi_hi _) ?_)
          rcases zi_hold_neg cnd (ρ k.toNat).toInt 0 with h1 | h1
          · exact absurd (zi_cmp_hold.mpr h1) hc
          · exact h1
      · cases hgo
    · -- if_icmp
      rename_i cnd off hi
      obtain ⟨pc, i, ln, a, b, t, v⟩ := r
      dsimp only at hi hgo hdg hlen hok hask hfind hrm ⊢
      subst hi
      have e1 : ln = 3 := of_decide_eq_true hlen
      subst e1
      have e2 : (pc : Int) + off = (a : Int) := of_decide_eq_true hok
      split at hgo
      · rename_i y x rest
        refine zi_Wicmp hx hb hdg e2 (fun hc => ?_) (fun hc => ?_)
        · rw [if_pos hc] at hgo
          exact ih _ _ _ _ _ _ _ _ hgo hos hrho hkc hks as H locs ls has hln hl hP hD hS
        · rw [if_neg hc] at hgo
          exact ih _ _ _ _ _ _ _ _ hgo hos hrho hkc hks as H locs ls has hln hl hP hD hS
      · rename_i y k rest
        split at hgo
        · cases hgo
        rename_i dl hdl
        have hm := hrho.1 _ _ hdl
        have key : ∀ (q : zi_Iv × Nat), q ∈ [(zi_T cnd y.toInt dl, a), (zi_T (zi_neg cnd) y.toInt dl, pc + 3)] → zi_mem (ρ k.toNat).toInt q.1 → W p l e R s m args below meth c H locs kc ks Q (F0 m q.2 ls (rest.map (zi_cv ρ b0 as))) := by
          intro q hq hqm
          obtain ⟨o, h1, h2⟩ := zi_bind_some hgo q hq
          have hne : q.1.isEmpty = false := by
            obtain ⟨y, hy, -⟩ := hqm
            cases hq1 : q.1 with
            | nil => rw [hq1] at hy; cases hy
            | cons _ _ => rfl
          rw [hne] at h1
          exact ih _ _ _ _ _ _ _ _ h1 (fun y hy => hos y (h2 y hy)) (zi_rho_set hrho hqm) hkc hks as H locs ls has hln hl hP hD hS
        refine zi_Wicmp (x := ρ k.toNat) (y := y) hx hb hdg e2 (fun hc => ?_) (fun hc => ?_)
        · exact key (_, _) List.mem_cons_self (zi_T_mem hm (zi_lo _) (zi_hi _) (zi_cmp_hold.mp hc))
        · refine key (_, _) (List.mem_cons_of_mem _ List.mem_cons_self) (zi_T_mem hm (zi_lo _) (zi_hi _) ?_)
          rcases zi_hold_neg cnd (ρ k.toNat).toInt y.toInt with h1 | h1
          · exact absurd (zi_cmp_hold.mpr h1) hc
          · exact h1
      · rename_i k x rest
        split at hgo
        · cases hgo
        rename_i dl hdl
        have hm := hrho.1 _ _ hdl
        have key : ∀ (q : zi_Iv × Nat), q ∈ [(zi_T (zi_swap cnd) x.toInt dl, a), (zi_T (zi_neg (zi_swap cnd)) x.toInt dl, pc + 3)] → zi_mem (ρ k.toNat).toInt q.1 → W p l e R s m args below meth c H locs kc ks Q (F0 m q.2 ls (rest.map (zi_cv ρ b0 as))) := by
          intro q hq hqm
          obtain ⟨o, h1, h2⟩ := zi_bind_some hgo q hq
          have hne : q.1.isEmpty = false := by
            obtain ⟨y, hy, -⟩ := hqm
            cases hq1 : q.1 with
            | nil => rw [hq1] at hy; cases hy
            | cons _ _ => rfl
          rw [hne] at h1
          exact ih _ _ _ _ _ _ _ _ h1 (fun y hy => hos y (h2 y hy)) (zi_rho_set hrho hqm) hkc hks as H locs ls has hln hl hP hD hS
        refine zi_Wicmp (x := x) (y := ρ k.toNat) hx hb hdg e2 (fun hc => ?_) (fun hc => ?_)
        · exact key (_, _) List.mem_cons_self (zi_T_mem hm (zi_lo _) (zi_hi _) (zi_hold_swap.mpr (zi_cmp_hold.mp hc)))
        · refine key (_, _) (List.mem_cons_of_mem _ List.mem_cons_self) (zi_T_mem hm (zi_lo _) (zi_hi _) ?_)
          rcases zi_hold_neg (zi_swap cnd) (ρ k.toNat).toInt x.toInt with h1 | h1
          · exact absurd (zi_cmp_hold.mpr (zi_hold_swap.mp h1)) hc
          · exact h1
      · cases hgo
    · -- tableswitch
      rename_i dflt lo hi' offs hi
      obtain ⟨pc, i, ln, a, b, t, v⟩ := r
      dsimp only at hi hgo hdg hlen hok hask hfind hrm ⊢
      subst hi
      have e2 : offs.size = (hi' - lo + 1).toNat := of_decide_eq_true hok
      split at hgo
      · rename_i x rest
        split at hgo
        · rename_i hc
          split at hgo
          · rename_i ht
            exact lv_tableOut hx hb hdg hc ht (ih _ _ _ _ _ _ _ _ hgo hos hrho hkc hks as H locs ls has hln hl hP hD hS)
          · cases hgo
        · rename_i hc
          split at hgo
          · rename_i off hoff
            split at hgo
            · rename_i ht
              exact lv_tableIn hx hb hdg (fun q => hc (Or.inl q)) (fun q => hc (Or.inr q)) hoff ht (ih _ _ _ _ _ _ _ _ hgo hos hrho hkc hks as H locs ls has hln hl hP hD hS)
            · cases hgo
          · cases hgo
      · rename_i k rest
        split at hgo
        · cases hgo
        rename_i dl hdl
        have hm := hrho.1 _ _ hdl
        have key : ∀ (q : zi_Iv × Int), q ∈ ((zi_T .lt lo dl, dflt) :: (zi_T .gt hi' dl, dflt) :: (List.range (hi' - lo + 1).toNat).map (fun (j : Nat) => (zi_T .eq (lo + (j : Int)) dl, offs[j]?.getD 0))) → zi_mem (ρ k.toNat).toInt q.1 → ∃ tg : Nat, (pc : Int) + q.2 = (tg : Int) ∧ W p l e R s m args below meth c H locs kc ks Q (F0 m tg ls (rest.map (zi_cv ρ b0 as))) := by
          intro q hq hqm
          obtain ⟨o, h1, h2⟩ := zi_bind_some hgo q hq
          have hne : q.1.isEmpty = false := by
            obtain ⟨y, hy, -⟩ := hqm
            cases hq1 : q.1 with
            | nil => rw [hq1] at hy; cases hy
            | cons _ _ => rfl
          rw [hne] at h1
          simp only [Bool.false_eq_true, if_false] at h1
          split at h1
          · rename_i ht
            exact ⟨_, ht, ih _ _ _ _ _ _ _ _ h1 (fun y hy => hos y (h2 y hy)) (zi_rho_set hrho hqm) hkc hks as H locs ls has hln hl hP hD hS⟩
          · cases h1
        by_cases c1 : (ρ k.toNat).toInt < lo
        · obtain ⟨tg, g1, g2⟩ := key (_, _) List.mem_cons_self (zi_T_mem (c := .lt) hm (zi_lo _) (zi_hi _) c1)
          exact lv_tableOut (x := ρ k.toNat) hx hb hdg (Or.inl c1) g1 g2
        · by_cases c2 : hi' < (ρ k.toNat).toInt
          · obtain ⟨tg, g1, g2⟩ := key (_, _) (List.mem_cons_of_mem _ List.mem_cons_self) (zi_T_mem (c := .gt) hm (zi_lo _) (zi_hi _) c2)
            exact lv_tableOut (x := ρ k.toNat) hx hb hdg (Or.inr c2) g1 g2
          · have hj : ((ρ k.toNat).toInt - lo).toNat < (hi' - lo + 1).toNat := by omega
            obtain ⟨tg, g1, g2⟩ := key (_, _) (List.mem_cons_of_mem _ (List.mem_cons_of_mem _ (List.mem_map.mpr ⟨((ρ k.toNat).toInt - lo).toNat, List.mem_range.mpr hj, rfl⟩))) (zi_T_mem (c := .eq) hm (zi_lo _) (zi_hi _) (show (ρ k.toNat).toInt = lo + (((ρ k.toNat).toInt - lo).toNat : Int) by omega))
            have hs : offs[((ρ k.toNat).toInt - lo).toNat]? = some (offs[((ρ k.toNat).toInt - lo).toNat]?.getD 0) := by
              rw [← e2] at hj
              simp [hj]
            exact lv_tableIn (x := ρ k.toNat) hx hb hdg c1 c2 hs g1 g2
      · cases hgo
    · -- invokespecial
      rename_i j hi
      obtain ⟨pc, i, ln, a, b, t, v⟩ := r
      dsimp only at hi hgo hdg hlen hok hask hfind hrm ⊢
      subst hi
      have e1 : ln = 3 := of_decide_eq_true hlen
      subst e1
      split at hgo
      · rename_i ha
        subst ha
        split at hgo
        · rename_i x rest
          split at hgo
          · rename_i hr4
            have hok : zi_tb t (.methodLink own j objectInit) = true := hok
            have hcs := zi_catsum (rest.map (zi_cv ρ b0 as))
            rw [List.length_map] at hcs
            refine W.objInit (a := as.getD x 0) (rest := rest.map (zi_cv ρ b0 as)) hx hb hown (hts _ (zi_tb_in hok)) (hts _ hoI) (hts _ hoC) rfl (by rw [hml]; exact hl.1) rfl hdg (by omega) (by show 2 * 0 + _ + 12 ≤ _; omega) ?_
            exact ih _ _ _ _ _ _ _ _ hgo hos hrho hkc hks as H locs ls has hln hl hP hD hS
          · cases hgo
        · cases hgo
      · rename_i ha
        split at hgo
        · cases hgo
        rename_i mt hmt
        split at hgo
        · rename_i hc
          obtain ⟨c1, c2, c3, c4, c56⟩ := hc
          split at hgo
          · rename_i x tl hvs
            have key : ∀ os1, call a (.ref (x + 1) :: tl) h d = some os1 → zi_bind os1 (fun o => zi_go ms scr nL ret code0 mc mS call n (pc + 3) L (o.2.1.toList ++ st.drop b) o.2.2 o.1 (kc + mt.2.2.2.2.2.1) (ks + mt.2.2.2.2.2.2)) = some os → W p l e R s m args below meth c H locs kc ks Q (F0 m pc ls (st.map (zi_cv ρ b0 as))) := by
              intro os1 hcl1 hgo
              obtain ⟨m1, m2, m3, m4, m5, -⟩ := hms a mt hmt
              unfold zi_ok at hok
              dsimp only at hok
              rw [if_neg ha, hmt] at hok
              have hst : st = st.take b ++ st.drop b := (List.take_append_drop b st).symm
              have hcs := zi_catsum ((st.drop b).map (zi_cv ρ b0 as))
              rw [List.length_map] at hcs
              have hM := hcall a mt hmt (.ref (x + 1) :: tl) h d os1 hcl1 ρ b0 as cy D H.size hrho hln
              have hblind := zi_blind (ρ := ρ) (b0 := b0) (as := as) (cy := cy) (D := D) (sz := H.size) (h := h) (vs := .ref (x + 1) :: tl)
              have hpre := zi_pre (vs := .ref (x + 1) :: tl) hP hK hD hN
              have hgood := zi_goodM hms hmt
              have hR : (zi_rm mt dp).frames + 1 ≤ R.frames ∧ 8 + (mt.2.2.1 + 11) + (zi_rm mt dp).locals ≤ R.locals := ⟨hRf, by show 8 + (mt.2.2.1 + 11) + 40 * dp ≤ R.locals; omega⟩
              have hvl : (st.take b).reverse.length = b := by simp [c4]
              have htk : st.take b = tl.reverse ++ [.ref (x + 1)] := by
                have := congrArg List.reverse hvs
                simpa using this
              have hstk : (st.map (zi_cv ρ b0 as)) = (tl.map (zi_cv ρ b0 as)).reverse ++ .ref (as.getD x 0) :: (st.drop b).map (zi_cv ρ b0 as) := by
                conv => lhs; rw [hst, htk]
                simp [zi_cv]
              have hnl : (tl.map (zi_cv ρ b0 as)).length = b - 1 := by
                rw [hvs] at hvl
                simp only [List.length_cons] at hvl
                rw [List.length_map]
                omega
              cases hmt2 : zi_mt[a]? with
              | none => rw [hmt2] at hok; cases hok
              | some g =>
                rw [hmt2] at hok
                simp only [Bool.and_eq_true, decide_eq_true_eq] at hok
                obtain ⟨⟨⟨⟨⟨k1, k2⟩, k3⟩, k4⟩, k5⟩, k6⟩ := hok
                have kfin : ∀ (hr : va_Run p l e R s m args below meth c H locs kc ks mt.2.2.2.2.2.1 mt.2.2.2.2.2.2 (F0 m pc ls (st.map (zi_cv ρ b0 as))) ((st.drop b).map (zi_cv ρ b0 as)) (zi_Qc ρ b0 as cy D H.size h mt.2.2.2.2.2.1 os1 ((Value.ref (x + 1) :: tl).map (zi_cv ρ b0 as)).toArray) (va_A (zi_w ρ b0 as cy h) H.size)), W p l e R s m args below meth c H locs kc ks Q (F0 m pc ls (st.map (zi_cv ρ b0 as))) := by
                  intro hr
                  refine zi_Wcall hr hA hD hS (fun o ho ro qs H1 locs1 q1 q2 p1 p2 p3 => ?_)
                  obtain ⟨o1, g1, g2⟩ := zi_bind_some hgo o ho
                  obtain ⟨q0, e0, l0⟩ := has
                  have h3 := ih _ _ _ _ _ _ _ _ g1 (fun y hy => hos y (g2 y hy)) ro c2 c3 (as ++ qs) H1 locs1 ls ⟨q0 ++ qs, by rw [e0, List.append_assoc], by rw [List.length_append]; omega⟩ q2 (by rw [zi_lc_call c56 hln q1]; exact hl) p1 p2 p3
                  rw [List.map_append] at h3
                  rw [zi_cvl_call c56 hln q1] at h3
                  have e9 : (o.2.1.map (zi_cv ρ b0 (as ++ qs))).toList = o.2.1.toList.map (zi_cv ρ b0 (as ++ qs)) := by
                    cases o.2.1 <;> rfl
                  rw [e9]
                  exact h3
                apply kfin
                have hn : mt.2.2.2.1 = none := k5
                have hws : zi_wsM mt = Cond.code mt.1 mt.2.1 mt.2.2.1 none :: zi_Ts := by rw [← hn]
                unfold zi_lk at k1
                split at k1
                · exact va_runI (As := tl.map (zi_cv ρ b0 as)) (b := as.getD x 0) ⟨hx, hb, hml, hown, hts⟩ hM ⟨callB_of (b - 1) hts hgood hws rfl rfl (hts _ m2) (hts _ (zi_tb_in k1)) ⟨m4.1, m4.2, k3⟩ hR, k2, hts _ (zi_tb_in k6)⟩ ⟨hblind, hpre⟩ rfl hnl hl.1 hstk (lv_room (by omega)) hdg ⟨by omega, by omega⟩
                · have k1 := of_decide_eq_true k1
                  exact va_runIN (As := tl.map (zi_cv ρ b0 as)) (b := as.getD x 0) (host := RX5) ⟨hx, hb, hml, hown, hts⟩ hM ⟨va_cnB (b - 1) hts hgood hws rfl rfl (hN.1 _ (List.mem_of_getElem? k1)) (hts _ m2) ⟨m4.1, m4.2, k3⟩ hR, k2, hts _ (zi_tb_in k6)⟩ ⟨hblind, hpre⟩ rfl hnl hl.1 hstk (lv_room (by omega)) hdg ⟨by omega, by omega⟩
            split at hgo
            · cases hgo
            · rename_i o1 hcl1
              exact key [o1] hcl1 (by rw [zi_bind_one]; exact hgo)
            · rename_i os1 hnone hcl1
              exact key os1 (by assumption) hgo
          · cases hgo
        · cases hgo
    · -- lookupswitch
      rename_i dflt ps hi
      obtain ⟨pc, i, ln, a, b, t, v⟩ := r
      dsimp only at hi hgo hdg hlen hok hask hfind hrm ⊢
      subst hi
      split at hgo
      · rename_i x rest
        split at hgo
        · rename_i ht
          exact lv_lookup hx hb hdg hok rfl ht (ih _ _ _ _ _ _ _ _ hgo hos hrho hkc hks as H locs ls has hln hl hP hD hS)
        · cases hgo
      · cases hgo
    · -- invokestatic
      rename_i j hi
      obtain ⟨pc, i, ln, a, b, t, v⟩ := r
      dsimp only at hi hgo hdg hlen hok hask hfind hrm ⊢
      subst hi
      have e1 : ln = 3 := of_decide_eq_true hlen
      subst e1
      split at hgo
      · rename_i ha
        subst ha
        split at hgo
        · rename_i n0 dpp r1 sp r0 rest
          split at hgo
          · rename_i hr4
            split at hgo
            · rename_i h' hcp
              have hok : zi_tb t (.methodLink own j arraycopyName) = true := hok
              have hcs := zi_catsum (rest.map (zi_cv ρ b0 as))
              rw [List.length_map] at hcs
              unfold zi_cpy at hcp
              split at hcp
              · rename_i l0 l1 h0 h1
                split at hcp
                · cases hcp
                · rename_i hc
                  cases hcp
                  have he0 := zi_w_get (ρ := ρ) (b := b0) (as := as) (cy := cy) h0
                  have he1 := zi_w_get (ρ := ρ) (b := b0) (as := as) (cy := cy) h1
                  rw [zi_ce_int] at he0 he1
                  have hnf : nativeFrameWords "java/lang/System" "arraycopy" 5 ≤ 21 := by decide
                  refine va_copyi hx hb (by rw [hml]; exact hl.1.symm) hown (hts _ (zi_tb_in hok)) (hts _ hcN) (hts _ hcS) (hts _ hcI) hK hP hD hS r0 r1 0 0 he0 he1 rfl rfl rfl (fun q => hc (Or.inl q)) (fun q => hc (Or.inr (Or.inl q))) (fun q => hc (Or.inr (Or.inr (Or.inl q)))) (Nat.not_lt.mp fun q => hc (Or.inr (Or.inr (Or.inr (Or.inl q))))) (Nat.not_lt.mp fun q => hc (Or.inr (Or.inr (Or.inr (Or.inr q))))) (fun _ _ => rfl) (by omega) (by show ((rest.map (zi_cv ρ b0 as)).map fun v => v.category).sum + _ ≤ _; omega) hdg (fun H1 locs1 p1 p2 p3 => ?_)
                  have h4 : sp.toNatClampNeg + n0.toNatClampNeg ≤ l0.length := Nat.not_lt.mp fun q => hc (Or.inr (Or.inr (Or.inr (Or.inl q))))
                  have h5 : dpp.toNatClampNeg + n0.toNatClampNeg ≤ l1.length := Nat.not_lt.mp fun q => hc (Or.inr (Or.inr (Or.inr (Or.inr q))))
                  have ew : (zi_w ρ b0 as cy h).set r1 (as.getD r1 0, .inl (cy 7, l1.length, .inl (va_cpy (fun i => zi_iv ρ (l0.getD i (.int 0))) (fun i => zi_iv ρ (l1.getD i (.int 0))) sp.toNatClampNeg dpp.toNatClampNeg n0.toNatClampNeg))) = zi_w ρ b0 as cy (h.set r1 (7, l1.take dpp.toNatClampNeg ++ ((l0.drop sp.toNatClampNeg).take n0.toNatClampNeg ++ l1.drop (dpp.toNatClampNeg + n0.toNatClampNeg)))) := by
                    rw [zi_w_set, zi_ce_int, zi_cpyf h4 h5, zi_cpyl h4 h5]
                  rw [ew] at p1 p2
                  exact ih _ _ _ _ _ _ _ _ hgo hos hrho hkc hks as H1 locs1 ls has (by rw [List.length_set]; exact hln) hl p1 p2 p3
              · cases hcp
            · cases hgo
          · cases hgo
        · cases hgo
      · rename_i ha
        split at hgo
        · cases hgo
        rename_i mt hmt
        split at hgo
        · rename_i hc
          obtain ⟨c1, c2, c3, c4, c56⟩ := hc
          have key : ∀ os1, call a ((st.take b).reverse) h d = some os1 → zi_bind os1 (fun o => zi_go ms scr nL ret code0 mc mS call n (pc + 3) L (o.2.1.toList ++ st.drop b) o.2.2 o.1 (kc + mt.2.2.2.2.2.1) (ks + mt.2.2.2.2.2.2)) = some os → W p l e R s m args below meth c H locs kc ks Q (F0 m pc ls (st.map (zi_cv ρ b0 as))) := by
            intro os1 hcl1 hgo
            obtain ⟨m1, m2, m3, m4, m5, -⟩ := hms a mt hmt
            unfold zi_ok at hok
            dsimp only at hok
            rw [if_neg ha, hmt] at hok
            have hvl : (st.take b).reverse.length = b := by simp [c4]
            have hst : st = st.take b ++ st.drop b := (List.take_append_drop b st).symm
            have hcs := zi_catsum ((st.drop b).map (zi_cv ρ b0 as))
            rw [List.length_map] at hcs
            have hM := hcall a mt hmt ((st.take b).reverse) h d os1 hcl1 ρ b0 as cy D H.size hrho hln
            have hblind := zi_blind (ρ := ρ) (b0 := b0) (as := as) (cy := cy) (D := D) (sz := H.size) (h := h) (vs := (st.take b).reverse)
            have hpre := zi_pre (vs := (st.take b).reverse) hP hK hD hN
            have hgood := zi_goodM hms hmt
            have hR : (zi_rm mt dp).frames + 1 ≤ R.frames ∧ 8 + (mt.2.2.1 + 11) + (zi_rm mt dp).locals ≤ R.locals := ⟨hRf, by show 8 + (mt.2.2.1 + 11) + 40 * dp ≤ R.locals; omega⟩
            have hstk : (st.map (zi_cv ρ b0 as)) = ((st.take b).reverse.map (zi_cv ρ b0 as)).reverse ++ (st.drop b).map (zi_cv ρ b0 as) := by
              conv => lhs; rw [hst]
              rw [List.map_append]
              congr 1
              rw [← List.map_reverse, List.reverse_reverse]
            have hnl : ((st.take b).reverse.map (zi_cv ρ b0 as)).length = b := by rw [List.length_map]; exact hvl
            cases hmt2 : zi_mt[a]? with
            | none => rw [hmt2] at hok; cases hok
            | some g =>
              rw [hmt2] at hok
              simp only [Bool.and_eq_true, decide_eq_true_eq] at hok
              obtain ⟨⟨k1, k3⟩, k6⟩ := hok
              have kfin : ∀ (hr : va_Run p l e R s m args below meth c H locs kc ks mt.2.2.2.2.2.1 mt.2.2.2.2.2.2 (F0 m pc ls (st.map (zi_cv ρ b0 as))) ((st.drop b).map (zi_cv ρ b0 as)) (zi_Qc ρ b0 as cy D H.size h mt.2.2.2.2.2.1 os1 ((st.take b).reverse.map (zi_cv ρ b0 as)).toArray) (va_A (zi_w ρ b0 as cy h) H.size)), W p l e R s m args below meth c H locs kc ks Q (F0 m pc ls (st.map (zi_cv ρ b0 as))) := by
                intro hr
                refine zi_Wcall hr hA hD hS (fun o ho ro qs H1 locs1 q1 q2 p1 p2 p3 => ?_)
                obtain ⟨o1, g1, g2⟩ := zi_bind_some hgo o ho
                obtain ⟨q0, e0, l0⟩ := has
                have h3 := ih _ _ _ _ _ _ _ _ g1 (fun y hy => hos y (g2 y hy)) ro c2 c3 (as ++ qs) H1 locs1 ls ⟨q0 ++ qs, by rw [e0, List.append_assoc], by rw [List.length_append]; omega⟩ q2 (by rw [zi_lc_call c56 hln q1]; exact hl) p1 p2 p3
                rw [List.map_append] at h3
                rw [zi_cvl_call c56 hln q1] at h3
                have e9 : (o.2.1.map (zi_cv ρ b0 (as ++ qs))).toList = o.2.1.toList.map (zi_cv ρ b0 (as ++ qs)) := by
                  cases o.2.1 <;> rfl
                rw [e9]
                exact h3
              apply kfin
              unfold zi_lk at k1
              split at k1
              · exact va_runS (As := (st.take b).reverse.map (zi_cv ρ b0 as)) ⟨hx, hb, hml, hown, hts⟩ hM ⟨callB_of b hts hgood rfl rfl rfl (hts _ m2) (hts _ (zi_tb_in k1)) ⟨m4.1, m4.2, k3⟩ hR, hts _ (zi_tb_in k6)⟩ ⟨hblind, hpre⟩ rfl hnl hl.1 hstk (lv_room (by omega)) hdg ⟨by omega, by omega⟩
              · have k1 := of_decide_eq_true k1
                exact va_runSN (As := (st.take b).reverse.map (zi_cv ρ b0 as)) (host := RX5) ⟨hx, hb, hml, hown, hts⟩ hM ⟨va_cnB b hts hgood rfl rfl rfl (hN.1 _ (List.mem_of_getElem? k1)) (hts _ m2) ⟨m4.1, m4.2, k3⟩ hR, hts _ (zi_tb_in k6), trivial⟩ ⟨hblind, hpre⟩ rfl hnl hl.1 hstk (lv_room (by omega)) hdg ⟨by omega, by omega⟩
          split at hgo
          · cases hgo
          · rename_i o1 hcl1
            exact key [o1] hcl1 (by rw [zi_bind_one]; exact hgo)
          · rename_i os1 hnone hcl1
            exact key os1 (by assumption) hgo
        · cases hgo
    · -- invokevirtual
      rename_i j hi
      obtain ⟨pc, i, ln, a, b, t, v⟩ := r
      dsimp only at hi hgo hdg hlen hok hask hfind hrm ⊢
      subst hi
      have e1 : ln = 3 := of_decide_eq_true hlen
      subst e1
      split at hgo
      · cases hgo
      rename_i mt hmt
      split at hgo
      · rename_i hc
        obtain ⟨c1, c2, c3, c4, c56⟩ := hc
        split at hgo
        · rename_i x tl hvs
          split at hgo
          · rename_i t' fs hxc
            split at hgo
            · rename_i hcx
              have key : ∀ os1, call a (.ref (x + 1) :: tl) h d = some os1 → zi_bind os1 (fun o => zi_go ms scr nL ret code0 mc mS call n (pc + 3) L (o.2.1.toList ++ st.drop b) o.2.2 o.1 (kc + mt.2.2.2.2.2.1) (ks + mt.2.2.2.2.2.2)) = some os → W p l e R s m args below meth c H locs kc ks Q (F0 m pc ls (st.map (zi_cv ρ b0 as))) := by
                intro os1 hcl1 hgo
                obtain ⟨m1, m2, m3, m4, m5, -⟩ := hms a mt hmt
                unfold zi_ok at hok
                dsimp only at hok
                rw [hmt] at hok
                have hst : st = st.take b ++ st.drop b := (List.take_append_drop b st).symm
                have hcs := zi_catsum ((st.drop b).map (zi_cv ρ b0 as))
                rw [List.length_map] at hcs
                have hM := hcall a mt hmt (.ref (x + 1) :: tl) h d os1 hcl1 ρ b0 as cy D H.size hrho hln
                have hblind := zi_blind (ρ := ρ) (b0 := b0) (as := as) (cy := cy) (D := D) (sz := H.size) (h := h) (vs := .ref (x + 1) :: tl)
                have hpre := zi_pre (vs := .ref (x + 1) :: tl) hP hK hD hN
                have hgood := zi_goodM hms hmt
                have hR : (zi_rm mt dp).frames + 1 ≤ R.frames ∧ 8 + (mt.2.2.1 + 11) + (zi_rm mt dp).locals ≤ R.locals := ⟨hRf, by show 8 + (mt.2.2.1 + 11) + 40 * dp ≤ R.locals; omega⟩
                have hvl : (st.take b).reverse.length = b := by simp [c4]
                have htk : st.take b = tl.reverse ++ [.ref (x + 1)] := by
                  have := congrArg List.reverse hvs
                  simpa using this
                have hstk : (st.map (zi_cv ρ b0 as)) = (tl.map (zi_cv ρ b0 as)).reverse ++ .ref (as.getD x 0) :: (st.drop b).map (zi_cv ρ b0 as) := by
                  conv => lhs; rw [hst, htk]
                  simp [zi_cv]
                have hnl : (tl.map (zi_cv ρ b0 as)).length = b - 1 := by
                  rw [hvs] at hvl
                  simp only [List.length_cons] at hvl
                  rw [List.length_map]
                  omega
                cases hmt2 : zi_mt[a]? with
                | none => rw [hmt2] at hok; cases hok
                | some g =>
                  rw [hmt2] at hok
                  simp only [Bool.and_eq_true, decide_eq_true_eq] at hok
                  obtain ⟨⟨⟨⟨⟨⟨k1, k3⟩, k4⟩, k5⟩, k7⟩, k6⟩, k8⟩ := hok
                  split at k5
                  · rename_i q hq
                    have k5 : q.1 = mt.1.cls := of_decide_eq_true k5
                    have e7 : v.toNat = t' := by omega
                    rw [e7] at hq
                    have he := zi_w_get (ρ := ρ) (b := b0) (as := as) (cy := cy) hxc
                    rw [zi_ce_obj hcx.2] at he
                    have hrv := va_recv hK hP hq he
                    rw [k5] at hrv
                    have kfin : ∀ (hr : va_Run p l e R s m args below meth c H locs kc ks mt.2.2.2.2.2.1 mt.2.2.2.2.2.2 (F0 m pc ls (st.map (zi_cv ρ b0 as))) ((st.drop b).map (zi_cv ρ b0 as)) (zi_Qc ρ b0 as cy D H.size h mt.2.2.2.2.2.1 os1 ((Value.ref (x + 1) :: tl).map (zi_cv ρ b0 as)).toArray) (va_A (zi_w ρ b0 as cy h) H.size)), W p l e R s m args below meth c H locs kc ks Q (F0 m pc ls (st.map (zi_cv ρ b0 as))) := by
                      intro hr
                      refine zi_Wcall hr hA hD hS (fun o ho ro qs H1 locs1 q1 q2 p1 p2 p3 => ?_)
                      obtain ⟨o1, g1, g2⟩ := zi_bind_some hgo o ho
                      obtain ⟨q0, e0, l0⟩ := has
                      have h3 := ih _ _ _ _ _ _ _ _ g1 (fun y hy => hos y (g2 y hy)) ro c2 c3 (as ++ qs) H1 locs1 ls ⟨q0 ++ qs, by rw [e0, List.append_assoc], by rw [List.length_append]; omega⟩ q2 (by rw [zi_lc_call c56 hln q1]; exact hl) p1 p2 p3
                      rw [List.map_append] at h3
                      rw [zi_cvl_call c56 hln q1] at h3
                      have e9 : (o.2.1.map (zi_cv ρ b0 (as ++ qs))).toList = o.2.1.toList.map (zi_cv ρ b0 (as ++ qs)) := by
                        cases o.2.1 <;> rfl
                      rw [e9]
                      exact h3
                    apply kfin
                    exact va_runV (As := tl.map (zi_cv ρ b0 as)) (b := as.getD x 0) (C := mt.1.cls) ⟨hx, hb, hml, hown, hts⟩ hM ⟨callB_of (b - 1) hts hgood rfl rfl rfl (hts _ m2) (hts _ (zi_tb_in k1)) ⟨m4.1, m4.2, k3⟩ hR, hts _ (zi_tb_in k6), hts _ (zi_tb_in k8)⟩ ⟨hblind, hrv, hpre⟩ rfl hnl hl.1 hstk (lv_room (by omega)) hdg ⟨by omega, by omega⟩
                  · cases k5
              split at hgo
              · cases hgo
              · rename_i o1 hcl1
                exact key [o1] hcl1 (by rw [zi_bind_one]; exact hgo)
              · rename_i os1 hnone hcl1
                exact key os1 (by assumption) hgo
            · cases hgo
          · cases hgo
        · cases hgo
      · cases hgo
    · -- the rest
      split at hgo
      · rename_i st' h' k1 k2 hnew
        split at hgo
        · rename_i hc
          obtain ⟨c1, c2, c3, c4, c5⟩ := hc
          refine zi_new_sound hx hb hown hts hcl hAI hAZ hN.2.1 hN.2.2.1 hN.2.2.2 hK hA hdg hlen hok hnew (by omega) (by omega) c3 c4 c5 hln hl hP hD hS (fun qs H1 p1 p2 p3 p4 p5 p6 => ?_)
          obtain ⟨q0, e0, l0⟩ := has
          exact ih _ _ _ _ _ _ _ _ hgo hos hrho c1 c2 (as ++ qs) H1 locs ls ⟨q0 ++ qs, by rw [e0, List.append_assoc], by rw [List.length_append]; omega⟩ p5 p4 p1 p2 p3
        · cases hgo
      · split at hgo
        · rename_i L' st' h' hstep
          exact zi_step_sound hx hb hown hts hcl hini hX hK hrho hdg hlen hok hstep hl hP hD hS (fun H1 locs1 ls1 p1 p2 p3 p4 p5 => ih _ _ _ _ _ _ _ _ hgo hos hrho hkc hks as H1 locs1 ls1 has (by rw [p5]; exact hln) p4 p1 p2 p3)
        · cases hgo
end ZA
end
