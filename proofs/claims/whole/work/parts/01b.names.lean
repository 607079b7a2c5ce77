theorem dX0_init_0 : decode cX0_init 0 = .ok (.aload_n 0, 1) := by decide +kernel
theorem dX0_init_1 : decode cX0_init 1 = .ok (.invokespecial 3, 3) := by decide +kernel
theorem dX0_init_4 : decode cX0_init 4 = .ok (.aload_n 0, 1) := by decide +kernel
theorem dX0_init_5 : decode cX0_init 5 = .ok (.bipush 16, 2) := by decide +kernel
theorem dX0_init_7 : decode cX0_init 7 = .ok (.newarray .int, 2) := by decide +kernel
theorem dX0_init_9 : decode cX0_init 9 = .ok (.putfield 9, 3) := by decide +kernel
theorem dX0_init_12 : decode cX0_init 12 = .ok (.return_, 1) := by decide +kernel
theorem dX0_begin_0 : decode cX0_begin 0 = .ok (.aload_n 0, 1) := by decide +kernel
theorem dX0_begin_1 : decode cX0_begin 1 = .ok (.iconst 1, 1) := by decide +kernel
theorem dX0_begin_2 : decode cX0_begin 2 = .ok (.putfield 15, 3) := by decide +kernel
theorem dX0_begin_5 : decode cX0_begin 5 = .ok (.aload_n 0, 1) := by decide +kernel
theorem dX0_begin_6 : decode cX0_begin 6 = .ok (.iload_n 1, 1) := by decide +kernel
theorem dX0_begin_7 : decode cX0_begin 7 = .ok (.putfield 19, 3) := by decide +kernel
theorem dX0_begin_10 : decode cX0_begin 10 = .ok (.aload_n 0, 1) := by decide +kernel
theorem dX0_begin_11 : decode cX0_begin 11 = .ok (.iload_n 2, 1) := by decide +kernel
theorem dX0_begin_12 : decode cX0_begin 12 = .ok (.putfield 23, 3) := by decide +kernel
theorem dX0_begin_15 : decode cX0_begin 15 = .ok (.aload_n 0, 1) := by decide +kernel
theorem dX0_begin_16 : decode cX0_begin 16 = .ok (.iconst 0, 1) := by decide +kernel
theorem dX0_begin_17 : decode cX0_begin 17 = .ok (.putfield 26, 3) := by decide +kernel
theorem dX0_begin_20 : decode cX0_begin 20 = .ok (.iconst 0, 1) := by decide +kernel
theorem dX0_begin_21 : decode cX0_begin 21 = .ok (.istore_n 3, 1) := by decide +kernel
theorem dX0_begin_22 : decode cX0_begin 22 = .ok (.iload_n 3, 1) := by decide +kernel
theorem dX0_begin_23 : decode cX0_begin 23 = .ok (.bipush 16, 2) := by decide +kernel
theorem dX0_begin_25 : decode cX0_begin 25 = .ok (.if_icmp .ge 16, 3) := by decide +kernel
theorem dX0_begin_28 : decode cX0_begin 28 = .ok (.aload_n 0, 1) := by decide +kernel
theorem dX0_begin_29 : decode cX0_begin 29 = .ok (.getfield 9, 3) := by decide +kernel
theorem dX0_begin_32 : decode cX0_begin 32 = .ok (.iload_n 3, 1) := by decide +kernel
theorem dX0_begin_33 : decode cX0_begin 33 = .ok (.iload_n 3, 1) := by decide +kernel
theorem dX0_begin_34 : decode cX0_begin 34 = .ok (.iastore, 1) := by decide +kernel
theorem dX0_begin_35 : decode cX0_begin 35 = .ok (.iinc 3 1, 3) := by decide +kernel
theorem dX0_begin_38 : decode cX0_begin 38 = .ok (.goto (-16), 3) := by decide +kernel
theorem dX0_begin_41 : decode cX0_begin 41 = .ok (.return_, 1) := by decide +kernel
set_option maxRecDepth 20000 in
theorem ggX0_addEffect_X3_isIn : GoodIn wsX0_addEffect wsX3_isIn := goodIn_r _ [5] (by decide +kernel) (by decide +kernel)
set_option maxRecDepth 20000 in
theorem gX0_addEffect_X3_isIn_n29 : GoodIn wsX0_addEffect (wsX3_isIn) := ggX0_addEffect_X3_isIn
theorem dX0_addEffect_0 : decode cX0_addEffect 0 = .ok (.iconst 0, 1) := by decide +kernel
theorem dX0_addEffect_1 : decode cX0_addEffect 1 = .ok (.istore 4, 2) := by decide +kernel
theorem dX0_addEffect_3 : decode cX0_addEffect 3 = .ok (.iload 4, 2) := by decide +kernel
theorem dX0_addEffect_5 : decode cX0_addEffect 5 = .ok (.bipush 16, 2) := by decide +kernel
theorem dX0_addEffect_7 : decode cX0_addEffect 7 = .ok (.if_icmp .ge 52, 3) := by decide +kernel
theorem dX0_addEffect_10 : decode cX0_addEffect 10 = .ok (.iload 4, 2) := by decide +kernel
theorem dX0_addEffect_12 : decode cX0_addEffect 12 = .ok (.iload_n 3, 1) := by decide +kernel
theorem dX0_addEffect_13 : decode cX0_addEffect 13 = .ok (.invokestatic 29, 3) := by decide +kernel
theorem dX0_addEffect_16 : decode cX0_addEffect 16 = .ok (.ifCond .eq 37, 3) := by decide +kernel
theorem dX0_addEffect_19 : decode cX0_addEffect 19 = .ok (.aload_n 0, 1) := by decide +kernel
theorem dX0_addEffect_20 : decode cX0_addEffect 20 = .ok (.getfield 9, 3) := by decide +kernel
theorem dX0_addEffect_23 : decode cX0_addEffect 23 = .ok (.iload 4, 2) := by decide +kernel
theorem dX0_addEffect_25 : decode cX0_addEffect 25 = .ok (.iload_n 2, 1) := by decide +kernel
theorem dX0_addEffect_26 : decode cX0_addEffect 26 = .ok (.ifCond .eq 15, 3) := by decide +kernel
theorem dX0_addEffect_29 : decode cX0_addEffect 29 = .ok (.aload_n 0, 1) := by decide +kernel
theorem dX0_addEffect_30 : decode cX0_addEffect 30 = .ok (.getfield 9, 3) := by decide +kernel
theorem dX0_addEffect_33 : decode cX0_addEffect 33 = .ok (.iload 4, 2) := by decide +kernel
theorem dX0_addEffect_35 : decode cX0_addEffect 35 = .ok (.iaload, 1) := by decide +kernel
theorem dX0_addEffect_36 : decode cX0_addEffect 36 = .ok (.iload_n 1, 1) := by decide +kernel
theorem dX0_addEffect_37 : decode cX0_addEffect 37 = .ok (.ior, 1) := by decide +kernel
theorem dX0_addEffect_38 : decode cX0_addEffect 38 = .ok (.goto 14, 3) := by decide +kernel
theorem dX0_addEffect_41 : decode cX0_addEffect 41 = .ok (.aload_n 0, 1) := by decide +kernel
theorem dX0_addEffect_42 : decode cX0_addEffect 42 = .ok (.getfield 9, 3) := by decide +kernel
theorem dX0_addEffect_45 : decode cX0_addEffect 45 = .ok (.iload 4, 2) := by decide +kernel
theorem dX0_addEffect_47 : decode cX0_addEffect 47 = .ok (.iaload, 1) := by decide +kernel
theorem dX0_addEffect_48 : decode cX0_addEffect 48 = .ok (.iload_n 1, 1) := by decide +kernel
theorem dX0_addEffect_49 : decode cX0_addEffect 49 = .ok (.iconst (-1), 1) := by decide +kernel
theorem dX0_addEffect_50 : decode cX0_addEffect 50 = .ok (.ixor, 1) := by decide +kernel
theorem dX0_addEffect_51 : decode cX0_addEffect 51 = .ok (.iand, 1) := by decide +kernel
theorem dX0_addEffect_52 : decode cX0_addEffect 52 = .ok (.iastore, 1) := by decide +kernel
theorem dX0_addEffect_53 : decode cX0_addEffect 53 = .ok (.iinc 4 1, 3) := by decide +kernel
theorem dX0_addEffect_56 : decode cX0_addEffect 56 = .ok (.goto (-53), 3) := by decide +kernel
theorem dX0_addEffect_59 : decode cX0_addEffect 59 = .ok (.aload_n 0, 1) := by decide +kernel
theorem dX0_addEffect_60 : decode cX0_addEffect 60 = .ok (.dup, 1) := by decide +kernel
theorem dX0_addEffect_61 : decode cX0_addEffect 61 = .ok (.getfield 26, 3) := by decide +kernel
theorem dX0_addEffect_64 : decode cX0_addEffect 64 = .ok (.iconst 1, 1) := by decide +kernel
theorem dX0_addEffect_65 : decode cX0_addEffect 65 = .ok (.iadd, 1) := by decide +kernel
theorem dX0_addEffect_66 : decode cX0_addEffect 66 = .ok (.putfield 26, 3) := by decide +kernel
theorem dX0_addEffect_69 : decode cX0_addEffect 69 = .ok (.return_, 1) := by decide +kernel
theorem dX0_usable_0 : decode cX0_usable 0 = .ok (.aload_n 0, 1) := by decide +kernel
theorem dX0_usable_1 : decode cX0_usable 1 = .ok (.getfield 15, 3) := by decide +kernel
theorem dX0_usable_4 : decode cX0_usable 4 = .ok (.ifCond .eq 18, 3) := by decide +kernel
theorem dX0_usable_7 : decode cX0_usable 7 = .ok (.iload_n 1, 1) := by decide +kernel
theorem dX0_usable_8 : decode cX0_usable 8 = .ok (.aload_n 0, 1) := by decide +kernel
theorem dX0_usable_9 : decode cX0_usable 9 = .ok (.getfield 19, 3) := by decide +kernel
theorem dX0_usable_12 : decode cX0_usable 12 = .ok (.iconst (-1), 1) := by decide +kernel
theorem dX0_usable_13 : decode cX0_usable 13 = .ok (.ixor, 1) := by decide +kernel
theorem dX0_usable_14 : decode cX0_usable 14 = .ok (.iand, 1) := by decide +kernel
theorem dX0_usable_15 : decode cX0_usable 15 = .ok (.ifCond .ne 7, 3) := by decide +kernel
theorem dX0_usable_18 : decode cX0_usable 18 = .ok (.iconst 1, 1) := by decide +kernel
theorem dX0_usable_19 : decode cX0_usable 19 = .ok (.goto 4, 3) := by decide +kernel
theorem dX0_usable_22 : decode cX0_usable 22 = .ok (.iconst 0, 1) := by decide +kernel
theorem dX0_usable_23 : decode cX0_usable 23 = .ok (.ireturn, 1) := by decide +kernel
set_option maxRecDepth 20000 in
theorem ggX0_after_X3_isIn : GoodIn wsX0_after wsX3_isIn := goodIn_r _ [4] (by decide +kernel) (by decide +kernel)
set_option maxRecDepth 20000 in
theorem gX0_after_X3_isIn_n29 : GoodIn wsX0_after (wsX3_isIn) := ggX0_after_X3_isIn
theorem dX0_after_0 : decode cX0_after 0 = .ok (.iconst 0, 1) := by decide +kernel
theorem dX0_after_1 : decode cX0_after 1 = .ok (.istore_n 2, 1) := by decide +kernel
theorem dX0_after_2 : decode cX0_after 2 = .ok (.iconst 0, 1) := by decide +kernel
theorem dX0_after_3 : decode cX0_after 3 = .ok (.istore_n 3, 1) := by decide +kernel
theorem dX0_after_4 : decode cX0_after 4 = .ok (.iload_n 3, 1) := by decide +kernel
theorem dX0_after_5 : decode cX0_after 5 = .ok (.bipush 16, 2) := by decide +kernel
theorem dX0_after_7 : decode cX0_after 7 = .ok (.if_icmp .ge 28, 3) := by decide +kernel
theorem dX0_after_10 : decode cX0_after 10 = .ok (.iload_n 3, 1) := by decide +kernel
theorem dX0_after_11 : decode cX0_after 11 = .ok (.iload_n 1, 1) := by decide +kernel
theorem dX0_after_12 : decode cX0_after 12 = .ok (.invokestatic 29, 3) := by decide +kernel
theorem dX0_after_15 : decode cX0_after 15 = .ok (.ifCond .eq 14, 3) := by decide +kernel
theorem dX0_after_18 : decode cX0_after 18 = .ok (.iload_n 2, 1) := by decide +kernel
theorem dX0_after_19 : decode cX0_after 19 = .ok (.iconst 1, 1) := by decide +kernel
theorem dX0_after_20 : decode cX0_after 20 = .ok (.aload_n 0, 1) := by decide +kernel
theorem dX0_after_21 : decode cX0_after 21 = .ok (.getfield 9, 3) := by decide +kernel
theorem dX0_after_24 : decode cX0_after 24 = .ok (.iload_n 3, 1) := by decide +kernel
theorem dX0_after_25 : decode cX0_after 25 = .ok (.iaload, 1) := by decide +kernel
theorem dX0_after_26 : decode cX0_after 26 = .ok (.ishl, 1) := by decide +kernel
theorem dX0_after_27 : decode cX0_after 27 = .ok (.ior, 1) := by decide +kernel
theorem dX0_after_28 : decode cX0_after 28 = .ok (.istore_n 2, 1) := by decide +kernel
theorem dX0_after_29 : decode cX0_after 29 = .ok (.iinc 3 1, 3) := by decide +kernel
theorem dX0_after_32 : decode cX0_after 32 = .ok (.goto (-28), 3) := by decide +kernel
theorem dX0_after_35 : decode cX0_after 35 = .ok (.iload_n 2, 1) := by decide +kernel
theorem dX0_after_36 : decode cX0_after 36 = .ok (.ireturn, 1) := by decide +kernel
theorem dX0_part_0 : decode cX0_part 0 = .ok (.iload_n 2, 1) := by decide +kernel
theorem dX0_part_1 : decode cX0_part 1 = .ok (.ifCond .ne 14, 3) := by decide +kernel
theorem dX0_part_4 : decode cX0_part 4 = .ok (.iload_n 1, 1) := by decide +kernel
theorem dX0_part_5 : decode cX0_part 5 = .ok (.aload_n 0, 1) := by decide +kernel
theorem dX0_part_6 : decode cX0_part 6 = .ok (.getfield 23, 3) := by decide +kernel
theorem dX0_part_9 : decode cX0_part 9 = .ok (.iconst (-1), 1) := by decide +kernel
theorem dX0_part_10 : decode cX0_part 10 = .ok (.ixor, 1) := by decide +kernel
theorem dX0_part_11 : decode cX0_part 11 = .ok (.iand, 1) := by decide +kernel
theorem dX0_part_12 : decode cX0_part 12 = .ok (.goto 9, 3) := by decide +kernel
theorem dX0_part_15 : decode cX0_part 15 = .ok (.iload_n 1, 1) := by decide +kernel
theorem dX0_part_16 : decode cX0_part 16 = .ok (.aload_n 0, 1) := by decide +kernel
theorem dX0_part_17 : decode cX0_part 17 = .ok (.getfield 23, 3) := by decide +kernel
theorem dX0_part_20 : decode cX0_part 20 = .ok (.iand, 1) := by decide +kernel
theorem dX0_part_21 : decode cX0_part 21 = .ok (.ireturn, 1) := by decide +kernel
set_option maxRecDepth 20000 in
theorem ggX0_sensed_X3_isIn : GoodIn wsX0_sensed wsX3_isIn := goodIn_r _ [4] (by decide +kernel) (by decide +kernel)
set_option maxRecDepth 20000 in
theorem gX0_sensed_X3_isIn_n29 : GoodIn wsX0_sensed (wsX3_isIn) := ggX0_sensed_X3_isIn
theorem dX0_sensed_0 : decode cX0_sensed 0 = .ok (.iload_n 1, 1) := by decide +kernel
theorem dX0_sensed_1 : decode cX0_sensed 1 = .ok (.aload_n 0, 1) := by decide +kernel
theorem dX0_sensed_2 : decode cX0_sensed 2 = .ok (.getfield 23, 3) := by decide +kernel
theorem dX0_sensed_5 : decode cX0_sensed 5 = .ok (.invokestatic 29, 3) := by decide +kernel
theorem dX0_sensed_8 : decode cX0_sensed 8 = .ok (.ifCond .eq 7, 3) := by decide +kernel
theorem dX0_sensed_11 : decode cX0_sensed 11 = .ok (.iconst 1, 1) := by decide +kernel
theorem dX0_sensed_12 : decode cX0_sensed 12 = .ok (.goto 4, 3) := by decide +kernel
theorem dX0_sensed_15 : decode cX0_sensed 15 = .ok (.iconst 0, 1) := by decide +kernel
theorem dX0_sensed_16 : decode cX0_sensed 16 = .ok (.ireturn, 1) := by decide +kernel
theorem dX1_init_0 : decode cX1_init 0 = .ok (.aload_n 0, 1) := by decide +kernel
theorem dX1_init_1 : decode cX1_init 1 = .ok (.invokespecial 3, 3) := by decide +kernel
theorem dX1_init_4 : decode cX1_init 4 = .ok (.aload_n 0, 1) := by decide +kernel
theorem dX1_init_5 : decode cX1_init 5 = .ok (.bipush 64, 2) := by decide +kernel
theorem dX1_init_7 : decode cX1_init 7 = .ok (.newarray .int, 2) := by decide +kernel
theorem dX1_init_9 : decode cX1_init 9 = .ok (.putfield 9, 3) := by decide +kernel
theorem dX1_init_12 : decode cX1_init 12 = .ok (.aload_n 0, 1) := by decide +kernel
theorem dX1_init_13 : decode cX1_init 13 = .ok (.bipush 16, 2) := by decide +kernel
theorem dX1_init_15 : decode cX1_init 15 = .ok (.newarray .int, 2) := by decide +kernel
theorem dX1_init_17 : decode cX1_init 17 = .ok (.putfield 15, 3) := by decide +kernel
theorem dX1_init_20 : decode cX1_init 20 = .ok (.return_, 1) := by decide +kernel
theorem dX1_open_0 : decode cX1_open 0 = .ok (.aload_n 0, 1) := by decide +kernel
theorem dX1_open_1 : decode cX1_open 1 = .ok (.iload_n 1, 1) := by decide +kernel
theorem dX1_open_2 : decode cX1_open 2 = .ok (.putfield 18, 3) := by decide +kernel
theorem dX1_open_5 : decode cX1_open 5 = .ok (.iconst 0, 1) := by decide +kernel
theorem dX1_open_6 : decode cX1_open 6 = .ok (.istore_n 2, 1) := by decide +kernel
theorem dX1_open_7 : decode cX1_open 7 = .ok (.iload_n 2, 1) := by decide +kernel
theorem dX1_open_8 : decode cX1_open 8 = .ok (.bipush 16, 2) := by decide +kernel
theorem dX1_open_10 : decode cX1_open 10 = .ok (.if_icmp .ge 23, 3) := by decide +kernel
theorem dX1_open_13 : decode cX1_open 13 = .ok (.aload_n 0, 1) := by decide +kernel
theorem dX1_open_14 : decode cX1_open 14 = .ok (.getfield 9, 3) := by decide +kernel
theorem dX1_open_17 : decode cX1_open 17 = .ok (.iload_n 2, 1) := by decide +kernel
theorem dX1_open_18 : decode cX1_open 18 = .ok (.iload_n 2, 1) := by decide +kernel
theorem dX1_open_19 : decode cX1_open 19 = .ok (.iastore, 1) := by decide +kernel
theorem dX1_open_20 : decode cX1_open 20 = .ok (.aload_n 0, 1) := by decide +kernel
theorem dX1_open_21 : decode cX1_open 21 = .ok (.getfield 15, 3) := by decide +kernel
theorem dX1_open_24 : decode cX1_open 24 = .ok (.iload_n 2, 1) := by decide +kernel
theorem dX1_open_25 : decode cX1_open 25 = .ok (.iconst 0, 1) := by decide +kernel
theorem dX1_open_26 : decode cX1_open 26 = .ok (.iastore, 1) := by decide +kernel
theorem dX1_open_27 : decode cX1_open 27 = .ok (.iinc 2 1, 3) := by decide +kernel
theorem dX1_open_30 : decode cX1_open 30 = .ok (.goto (-23), 3) := by decide +kernel
theorem dX1_open_33 : decode cX1_open 33 = .ok (.return_, 1) := by decide +kernel
set_option maxRecDepth 20000 in
theorem ggX1_step_X0_sensed : GoodIn wsX1_step wsX0_sensed := goodIn_r _ [7, 8, 9, 10, 11, 12, 13, 14, 15, 16] (by decide +kernel) (by decide +kernel)
set_option maxRecDepth 20000 in
theorem gX1_step_X0_sensed : GoodIn wsX1_step (wsV RX1 27 RX0 yX0_sensed wsX0_sensed) := goodIn_app (goodIn_of _ (by decide +kernel)) ggX1_step_X0_sensed
set_option maxRecDepth 20000 in
theorem ggX1_step_X3_isIn : GoodIn wsX1_step wsX3_isIn := goodIn_r _ [11] (by decide +kernel) (by decide +kernel)
set_option maxRecDepth 20000 in
theorem gX1_step_X3_isIn_n31 : GoodIn wsX1_step (wsX3_isIn) := ggX1_step_X3_isIn
theorem dX1_step_0 : decode cX1_step 0 = .ok (.bipush 16, 2) := by decide +kernel
theorem dX1_step_2 : decode cX1_step 2 = .ok (.iload_n 2, 1) := by decide +kernel
theorem dX1_step_3 : decode cX1_step 3 = .ok (.imul, 1) := by decide +kernel
theorem dX1_step_4 : decode cX1_step 4 = .ok (.istore_n 3, 1) := by decide +kernel
theorem dX1_step_5 : decode cX1_step 5 = .ok (.iconst 0, 1) := by decide +kernel
theorem dX1_step_6 : decode cX1_step 6 = .ok (.istore 4, 2) := by decide +kernel
theorem dX1_step_8 : decode cX1_step 8 = .ok (.iconst 0, 1) := by decide +kernel
theorem dX1_step_9 : decode cX1_step 9 = .ok (.istore 5, 2) := by decide +kernel
theorem dX1_step_11 : decode cX1_step 11 = .ok (.iload 5, 2) := by decide +kernel
theorem dX1_step_13 : decode cX1_step 13 = .ok (.bipush 16, 2) := by decide +kernel
theorem dX1_step_15 : decode cX1_step 15 = .ok (.if_icmp .ge 53, 3) := by decide +kernel
theorem dX1_step_18 : decode cX1_step 18 = .ok (.aload_n 1, 1) := by decide +kernel
theorem dX1_step_19 : decode cX1_step 19 = .ok (.getfield 22, 3) := by decide +kernel
theorem dX1_step_22 : decode cX1_step 22 = .ok (.aload_n 0, 1) := by decide +kernel
theorem dX1_step_23 : decode cX1_step 23 = .ok (.getfield 9, 3) := by decide +kernel
theorem dX1_step_26 : decode cX1_step 26 = .ok (.iload_n 3, 1) := by decide +kernel
theorem dX1_step_27 : decode cX1_step 27 = .ok (.iload 5, 2) := by decide +kernel
theorem dX1_step_29 : decode cX1_step 29 = .ok (.iadd, 1) := by decide +kernel
theorem dX1_step_30 : decode cX1_step 30 = .ok (.iaload, 1) := by decide +kernel
theorem dX1_step_31 : decode cX1_step 31 = .ok (.iaload, 1) := by decide +kernel
theorem dX1_step_32 : decode cX1_step 32 = .ok (.istore 6, 2) := by decide +kernel
theorem dX1_step_34 : decode cX1_step 34 = .ok (.aload_n 0, 1) := by decide +kernel
theorem dX1_step_35 : decode cX1_step 35 = .ok (.getfield 9, 3) := by decide +kernel
theorem dX1_step_38 : decode cX1_step 38 = .ok (.iload_n 3, 1) := by decide +kernel
theorem dX1_step_39 : decode cX1_step 39 = .ok (.bipush 16, 2) := by decide +kernel
theorem dX1_step_41 : decode cX1_step 41 = .ok (.iadd, 1) := by decide +kernel
theorem dX1_step_42 : decode cX1_step 42 = .ok (.iload 5, 2) := by decide +kernel
theorem dX1_step_44 : decode cX1_step 44 = .ok (.iadd, 1) := by decide +kernel
theorem dX1_step_45 : decode cX1_step 45 = .ok (.iload 6, 2) := by decide +kernel
theorem dX1_step_47 : decode cX1_step 47 = .ok (.iastore, 1) := by decide +kernel
theorem dX1_step_48 : decode cX1_step 48 = .ok (.iload 4, 2) := by decide +kernel
theorem dX1_step_50 : decode cX1_step 50 = .ok (.aload_n 1, 1) := by decide +kernel
theorem dX1_step_51 : decode cX1_step 51 = .ok (.iload 6, 2) := by decide +kernel
theorem dX1_step_53 : decode cX1_step 53 = .ok (.invokevirtual 27, 3) := by decide +kernel
theorem dX1_step_56 : decode cX1_step 56 = .ok (.iload 5, 2) := by decide +kernel
theorem dX1_step_58 : decode cX1_step 58 = .ok (.ishl, 1) := by decide +kernel
theorem dX1_step_59 : decode cX1_step 59 = .ok (.ior, 1) := by decide +kernel
theorem dX1_step_60 : decode cX1_step 60 = .ok (.istore 4, 2) := by decide +kernel
theorem dX1_step_62 : decode cX1_step 62 = .ok (.iinc 5 1, 3) := by decide +kernel
theorem dX1_step_65 : decode cX1_step 65 = .ok (.goto (-54), 3) := by decide +kernel
theorem dX1_step_68 : decode cX1_step 68 = .ok (.iconst 0, 1) := by decide +kernel
theorem dX1_step_69 : decode cX1_step 69 = .ok (.istore 5, 2) := by decide +kernel
theorem dX1_step_71 : decode cX1_step 71 = .ok (.iload 5, 2) := by decide +kernel
theorem dX1_step_73 : decode cX1_step 73 = .ok (.bipush 16, 2) := by decide +kernel
theorem dX1_step_75 : decode cX1_step 75 = .ok (.if_icmp .ge 38, 3) := by decide +kernel
theorem dX1_step_78 : decode cX1_step 78 = .ok (.aload_n 0, 1) := by decide +kernel
theorem dX1_step_79 : decode cX1_step 79 = .ok (.getfield 15, 3) := by decide +kernel
theorem dX1_step_82 : decode cX1_step 82 = .ok (.iload 5, 2) := by decide +kernel
theorem dX1_step_84 : decode cX1_step 84 = .ok (.dup2, 1) := by decide +kernel
theorem dX1_step_85 : decode cX1_step 85 = .ok (.iaload, 1) := by decide +kernel
theorem dX1_step_86 : decode cX1_step 86 = .ok (.iload 5, 2) := by decide +kernel
theorem dX1_step_88 : decode cX1_step 88 = .ok (.iload 4, 2) := by decide +kernel
theorem dX1_step_90 : decode cX1_step 90 = .ok (.invokestatic 31, 3) := by decide +kernel
theorem dX1_step_93 : decode cX1_step 93 = .ok (.ifCond .eq 10, 3) := by decide +kernel
theorem dX1_step_96 : decode cX1_step 96 = .ok (.iload 4, 2) := by decide +kernel
theorem dX1_step_98 : decode cX1_step 98 = .ok (.iconst (-1), 1) := by decide +kernel
theorem dX1_step_99 : decode cX1_step 99 = .ok (.ixor, 1) := by decide +kernel
theorem dX1_step_100 : decode cX1_step 100 = .ok (.goto 5, 3) := by decide +kernel
theorem dX1_step_103 : decode cX1_step 103 = .ok (.iload 4, 2) := by decide +kernel
theorem dX1_step_105 : decode cX1_step 105 = .ok (.ior, 1) := by decide +kernel
theorem dX1_step_106 : decode cX1_step 106 = .ok (.iastore, 1) := by decide +kernel
theorem dX1_step_107 : decode cX1_step 107 = .ok (.iinc 5 1, 3) := by decide +kernel
theorem dX1_step_110 : decode cX1_step 110 = .ok (.goto (-39), 3) := by decide +kernel
theorem dX1_step_113 : decode cX1_step 113 = .ok (.return_, 1) := by decide +kernel
set_option maxRecDepth 20000 in
theorem ggX1_firstAlike_X3_isIn : GoodIn wsX1_firstAlike wsX3_isIn := goodIn_r _ [5] (by decide +kernel) (by decide +kernel)
set_option maxRecDepth 20000 in
theorem gX1_firstAlike_X3_isIn_n31 : GoodIn wsX1_firstAlike (wsX3_isIn) := ggX1_firstAlike_X3_isIn
theorem dX1_firstAlike_0 : decode cX1_firstAlike 0 = .ok (.iconst 0, 1) := by decide +kernel
theorem dX1_firstAlike_1 : decode cX1_firstAlike 1 = .ok (.istore_n 1, 1) := by decide +kernel
theorem dX1_firstAlike_2 : decode cX1_firstAlike 2 = .ok (.iload_n 1, 1) := by decide +kernel
theorem dX1_firstAlike_3 : decode cX1_firstAlike 3 = .ok (.bipush 16, 2) := by decide +kernel
theorem dX1_firstAlike_5 : decode cX1_firstAlike 5 = .ok (.if_icmp .ge 67, 3) := by decide +kernel
theorem dX1_firstAlike_8 : decode cX1_firstAlike 8 = .ok (.iload_n 1, 1) := by decide +kernel
theorem dX1_firstAlike_9 : decode cX1_firstAlike 9 = .ok (.iconst 1, 1) := by decide +kernel
theorem dX1_firstAlike_10 : decode cX1_firstAlike 10 = .ok (.iadd, 1) := by decide +kernel
theorem dX1_firstAlike_11 : decode cX1_firstAlike 11 = .ok (.istore_n 2, 1) := by decide +kernel
theorem dX1_firstAlike_12 : decode cX1_firstAlike 12 = .ok (.iload_n 2, 1) := by decide +kernel
theorem dX1_firstAlike_13 : decode cX1_firstAlike 13 = .ok (.bipush 16, 2) := by decide +kernel
theorem dX1_firstAlike_15 : decode cX1_firstAlike 15 = .ok (.if_icmp .ge 51, 3) := by decide +kernel
theorem dX1_firstAlike_18 : decode cX1_firstAlike 18 = .ok (.iload_n 1, 1) := by decide +kernel
theorem dX1_firstAlike_19 : decode cX1_firstAlike 19 = .ok (.aload_n 0, 1) := by decide +kernel
theorem dX1_firstAlike_20 : decode cX1_firstAlike 20 = .ok (.getfield 18, 3) := by decide +kernel
theorem dX1_firstAlike_23 : decode cX1_firstAlike 23 = .ok (.invokestatic 31, 3) := by decide +kernel
theorem dX1_firstAlike_26 : decode cX1_firstAlike 26 = .ok (.ifCond .eq 34, 3) := by decide +kernel
theorem dX1_firstAlike_29 : decode cX1_firstAlike 29 = .ok (.iload_n 2, 1) := by decide +kernel
theorem dX1_firstAlike_30 : decode cX1_firstAlike 30 = .ok (.aload_n 0, 1) := by decide +kernel
theorem dX1_firstAlike_31 : decode cX1_firstAlike 31 = .ok (.getfield 18, 3) := by decide +kernel
theorem dX1_firstAlike_34 : decode cX1_firstAlike 34 = .ok (.invokestatic 31, 3) := by decide +kernel
theorem dX1_firstAlike_37 : decode cX1_firstAlike 37 = .ok (.ifCond .eq 23, 3) := by decide +kernel
theorem dX1_firstAlike_40 : decode cX1_firstAlike 40 = .ok (.iload_n 2, 1) := by decide +kernel
theorem dX1_firstAlike_41 : decode cX1_firstAlike 41 = .ok (.aload_n 0, 1) := by decide +kernel
theorem dX1_firstAlike_42 : decode cX1_firstAlike 42 = .ok (.getfield 15, 3) := by decide +kernel
theorem dX1_firstAlike_45 : decode cX1_firstAlike 45 = .ok (.iload_n 1, 1) := by decide +kernel
theorem dX1_firstAlike_46 : decode cX1_firstAlike 46 = .ok (.iaload, 1) := by decide +kernel
theorem dX1_firstAlike_47 : decode cX1_firstAlike 47 = .ok (.invokestatic 31, 3) := by decide +kernel
theorem dX1_firstAlike_50 : decode cX1_firstAlike 50 = .ok (.ifCond .ne 10, 3) := by decide +kernel
theorem dX1_firstAlike_53 : decode cX1_firstAlike 53 = .ok (.bipush 16, 2) := by decide +kernel
theorem dX1_firstAlike_55 : decode cX1_firstAlike 55 = .ok (.iload_n 1, 1) := by decide +kernel
theorem dX1_firstAlike_56 : decode cX1_firstAlike 56 = .ok (.imul, 1) := by decide +kernel
theorem dX1_firstAlike_57 : decode cX1_firstAlike 57 = .ok (.iload_n 2, 1) := by decide +kernel
theorem dX1_firstAlike_58 : decode cX1_firstAlike 58 = .ok (.iadd, 1) := by decide +kernel
theorem dX1_firstAlike_59 : decode cX1_firstAlike 59 = .ok (.ireturn, 1) := by decide +kernel
theorem dX1_firstAlike_60 : decode cX1_firstAlike 60 = .ok (.iinc 2 1, 3) := by decide +kernel
theorem dX1_firstAlike_63 : decode cX1_firstAlike 63 = .ok (.goto (-51), 3) := by decide +kernel
theorem dX1_firstAlike_66 : decode cX1_firstAlike 66 = .ok (.iinc 1 1, 3) := by decide +kernel
theorem dX1_firstAlike_69 : decode cX1_firstAlike 69 = .ok (.goto (-67), 3) := by decide +kernel
theorem dX1_firstAlike_72 : decode cX1_firstAlike 72 = .ok (.iconst (-1), 1) := by decide +kernel
theorem dX1_firstAlike_73 : decode cX1_firstAlike 73 = .ok (.ireturn, 1) := by decide +kernel
theorem dX2_init_0 : decode cX2_init 0 = .ok (.aload_n 0, 1) := by decide +kernel
theorem dX2_init_1 : decode cX2_init 1 = .ok (.invokespecial 1, 3) := by decide +kernel
theorem dX2_init_4 : decode cX2_init 4 = .ok (.aload_n 0, 1) := by decide +kernel
theorem dX2_init_5 : decode cX2_init 5 = .ok (.bipush 93, 2) := by decide +kernel
theorem dX2_init_7 : decode cX2_init 7 = .ok (.newarray .int, 2) := by decide +kernel
theorem dX2_init_9 : decode cX2_init 9 = .ok (.putfield 9, 3) := by decide +kernel
theorem dX2_init_12 : decode cX2_init 12 = .ok (.return_, 1) := by decide +kernel
theorem dX2_empty_0 : decode cX2_empty 0 = .ok (.aload_n 0, 1) := by decide +kernel
theorem dX2_empty_1 : decode cX2_empty 1 = .ok (.iconst 0, 1) := by decide +kernel
theorem dX2_empty_2 : decode cX2_empty 2 = .ok (.putfield 13, 3) := by decide +kernel
theorem dX2_empty_5 : decode cX2_empty 5 = .ok (.return_, 1) := by decide +kernel
theorem dX2_cell_0 : decode cX2_cell 0 = .ok (.aload_n 0, 1) := by decide +kernel
theorem dX2_cell_1 : decode cX2_cell 1 = .ok (.getfield 9, 3) := by decide +kernel
theorem dX2_cell_4 : decode cX2_cell 4 = .ok (.iconst 3, 1) := by decide +kernel
theorem dX2_cell_5 : decode cX2_cell 5 = .ok (.iload_n 1, 1) := by decide +kernel
theorem dX2_cell_6 : decode cX2_cell 6 = .ok (.imul, 1) := by decide +kernel
theorem dX2_cell_7 : decode cX2_cell 7 = .ok (.iload_n 2, 1) := by decide +kernel
theorem dX2_cell_8 : decode cX2_cell 8 = .ok (.iadd, 1) := by decide +kernel
theorem dX2_cell_9 : decode cX2_cell 9 = .ok (.iaload, 1) := by decide +kernel
theorem dX2_cell_10 : decode cX2_cell 10 = .ok (.ireturn, 1) := by decide +kernel
theorem dX2_setAction_0 : decode cX2_setAction 0 = .ok (.aload_n 0, 1) := by decide +kernel
theorem dX2_setAction_1 : decode cX2_setAction 1 = .ok (.getfield 9, 3) := by decide +kernel
theorem dX2_setAction_4 : decode cX2_setAction 4 = .ok (.iconst 3, 1) := by decide +kernel
theorem dX2_setAction_5 : decode cX2_setAction 5 = .ok (.iload_n 1, 1) := by decide +kernel
theorem dX2_setAction_6 : decode cX2_setAction 6 = .ok (.imul, 1) := by decide +kernel
theorem dX2_setAction_7 : decode cX2_setAction 7 = .ok (.iload_n 2, 1) := by decide +kernel
theorem dX2_setAction_8 : decode cX2_setAction 8 = .ok (.iastore, 1) := by decide +kernel
theorem dX2_setAction_9 : decode cX2_setAction 9 = .ok (.return_, 1) := by decide +kernel
set_option maxRecDepth 20000 in
theorem ggX2_open_X2_setAction : GoodIn wsX2_open wsX2_setAction := goodIn_r _ [6, 7, 8, 9] (by decide +kernel) (by decide +kernel)
set_option maxRecDepth 20000 in
theorem gX2_open_X2_setAction : GoodIn wsX2_open (wsV RX2 17 RX2 yX2_setAction wsX2_setAction) := goodIn_app (goodIn_of _ (by decide +kernel)) ggX2_open_X2_setAction
theorem dX2_open_0 : decode cX2_open 0 = .ok (.aload_n 0, 1) := by decide +kernel
theorem dX2_open_1 : decode cX2_open 1 = .ok (.aload_n 0, 1) := by decide +kernel
theorem dX2_open_2 : decode cX2_open 2 = .ok (.getfield 13, 3) := by decide +kernel
theorem dX2_open_5 : decode cX2_open 5 = .ok (.bipush (-2), 2) := by decide +kernel
theorem dX2_open_7 : decode cX2_open 7 = .ok (.invokevirtual 17, 3) := by decide +kernel
theorem dX2_open_10 : decode cX2_open 10 = .ok (.aload_n 0, 1) := by decide +kernel
theorem dX2_open_11 : decode cX2_open 11 = .ok (.dup, 1) := by decide +kernel
theorem dX2_open_12 : decode cX2_open 12 = .ok (.getfield 13, 3) := by decide +kernel
theorem dX2_open_15 : decode cX2_open 15 = .ok (.iconst 1, 1) := by decide +kernel
theorem dX2_open_16 : decode cX2_open 16 = .ok (.iadd, 1) := by decide +kernel
theorem dX2_open_17 : decode cX2_open 17 = .ok (.putfield 13, 3) := by decide +kernel
theorem dX2_open_20 : decode cX2_open 20 = .ok (.aload_n 0, 1) := by decide +kernel
theorem dX2_open_21 : decode cX2_open 21 = .ok (.getfield 13, 3) := by decide +kernel
theorem dX2_open_24 : decode cX2_open 24 = .ok (.iconst 1, 1) := by decide +kernel
theorem dX2_open_25 : decode cX2_open 25 = .ok (.isub, 1) := by decide +kernel
theorem dX2_open_26 : decode cX2_open 26 = .ok (.ireturn, 1) := by decide +kernel
set_option maxRecDepth 20000 in
theorem ggX2_close_X2_cell : GoodIn wsX2_close wsX2_cell := goodIn_r _ [7, 2, 12, 13] (by decide +kernel) (by decide +kernel)
set_option maxRecDepth 20000 in
theorem gX2_close_X2_cell : GoodIn wsX2_close (wsV RX2 21 RX2 yX2_cell wsX2_cell) := goodIn_app (goodIn_of _ (by decide +kernel)) ggX2_close_X2_cell
set_option maxRecDepth 20000 in
theorem ggX2_close_X2_setAction : GoodIn wsX2_close wsX2_setAction := goodIn_r _ [11, 2, 12, 13] (by decide +kernel) (by decide +kernel)
set_option maxRecDepth 20000 in
theorem gX2_close_X2_setAction : GoodIn wsX2_close (wsV RX2 17 RX2 yX2_setAction wsX2_setAction) := goodIn_app (goodIn_of _ (by decide +kernel)) ggX2_close_X2_setAction
theorem dX2_close_0 : decode cX2_close 0 = .ok (.iconst 0, 1) := by decide +kernel
theorem dX2_close_1 : decode cX2_close 1 = .ok (.istore 5, 2) := by decide +kernel
theorem dX2_close_3 : decode cX2_close 3 = .ok (.iload 5, 2) := by decide +kernel
theorem dX2_close_5 : decode cX2_close 5 = .ok (.iload_n 1, 1) := by decide +kernel
theorem dX2_close_6 : decode cX2_close 6 = .ok (.if_icmp .ge 51, 3) := by decide +kernel
theorem dX2_close_9 : decode cX2_close 9 = .ok (.aload_n 0, 1) := by decide +kernel
theorem dX2_close_10 : decode cX2_close 10 = .ok (.iload 5, 2) := by decide +kernel
theorem dX2_close_12 : decode cX2_close 12 = .ok (.iconst 0, 1) := by decide +kernel
theorem dX2_close_13 : decode cX2_close 13 = .ok (.invokevirtual 21, 3) := by decide +kernel
theorem dX2_close_16 : decode cX2_close 16 = .ok (.iload_n 2, 1) := by decide +kernel
theorem dX2_close_17 : decode cX2_close 17 = .ok (.if_icmp .ne 34, 3) := by decide +kernel
theorem dX2_close_20 : decode cX2_close 20 = .ok (.aload_n 0, 1) := by decide +kernel
theorem dX2_close_21 : decode cX2_close 21 = .ok (.iload 5, 2) := by decide +kernel
theorem dX2_close_23 : decode cX2_close 23 = .ok (.iconst 1, 1) := by decide +kernel
theorem dX2_close_24 : decode cX2_close 24 = .ok (.invokevirtual 21, 3) := by decide +kernel
theorem dX2_close_27 : decode cX2_close 27 = .ok (.iload_n 3, 1) := by decide +kernel
theorem dX2_close_28 : decode cX2_close 28 = .ok (.if_icmp .ne 23, 3) := by decide +kernel
theorem dX2_close_31 : decode cX2_close 31 = .ok (.aload_n 0, 1) := by decide +kernel
theorem dX2_close_32 : decode cX2_close 32 = .ok (.iload 5, 2) := by decide +kernel
theorem dX2_close_34 : decode cX2_close 34 = .ok (.iconst 2, 1) := by decide +kernel
theorem dX2_close_35 : decode cX2_close 35 = .ok (.invokevirtual 21, 3) := by decide +kernel
theorem dX2_close_38 : decode cX2_close 38 = .ok (.iload 4, 2) := by decide +kernel
theorem dX2_close_40 : decode cX2_close 40 = .ok (.if_icmp .ne 11, 3) := by decide +kernel
theorem dX2_close_43 : decode cX2_close 43 = .ok (.aload_n 0, 1) := by decide +kernel
theorem dX2_close_44 : decode cX2_close 44 = .ok (.iload_n 1, 1) := by decide +kernel
theorem dX2_close_45 : decode cX2_close 45 = .ok (.putfield 13, 3) := by decide +kernel
theorem dX2_close_48 : decode cX2_close 48 = .ok (.iload 5, 2) := by decide +kernel
theorem dX2_close_50 : decode cX2_close 50 = .ok (.ireturn, 1) := by decide +kernel
theorem dX2_close_51 : decode cX2_close 51 = .ok (.iinc 5 1, 3) := by decide +kernel
theorem dX2_close_54 : decode cX2_close 54 = .ok (.goto (-51), 3) := by decide +kernel
theorem dX2_close_57 : decode cX2_close 57 = .ok (.aload_n 0, 1) := by decide +kernel
theorem dX2_close_58 : decode cX2_close 58 = .ok (.iload_n 1, 1) := by decide +kernel
theorem dX2_close_59 : decode cX2_close 59 = .ok (.iload_n 2, 1) := by decide +kernel
theorem dX2_close_60 : decode cX2_close 60 = .ok (.invokevirtual 17, 3) := by decide +kernel
theorem dX2_close_63 : decode cX2_close 63 = .ok (.aload_n 0, 1) := by decide +kernel
theorem dX2_close_64 : decode cX2_close 64 = .ok (.getfield 9, 3) := by decide +kernel
theorem dX2_close_67 : decode cX2_close 67 = .ok (.iconst 3, 1) := by decide +kernel
theorem dX2_close_68 : decode cX2_close 68 = .ok (.iload_n 1, 1) := by decide +kernel
theorem dX2_close_69 : decode cX2_close 69 = .ok (.imul, 1) := by decide +kernel
theorem dX2_close_70 : decode cX2_close 70 = .ok (.iconst 1, 1) := by decide +kernel
theorem dX2_close_71 : decode cX2_close 71 = .ok (.iadd, 1) := by decide +kernel
theorem dX2_close_72 : decode cX2_close 72 = .ok (.iload_n 3, 1) := by decide +kernel
theorem dX2_close_73 : decode cX2_close 73 = .ok (.iastore, 1) := by decide +kernel
theorem dX2_close_74 : decode cX2_close 74 = .ok (.aload_n 0, 1) := by decide +kernel
theorem dX2_close_75 : decode cX2_close 75 = .ok (.getfield 9, 3) := by decide +kernel
theorem dX2_close_78 : decode cX2_close 78 = .ok (.iconst 3, 1) := by decide +kernel
theorem dX2_close_79 : decode cX2_close 79 = .ok (.iload_n 1, 1) := by decide +kernel
theorem dX2_close_80 : decode cX2_close 80 = .ok (.imul, 1) := by decide +kernel
theorem dX2_close_81 : decode cX2_close 81 = .ok (.iconst 1, 1) := by decide +kernel
theorem dX2_close_82 : decode cX2_close 82 = .ok (.iadd, 1) := by decide +kernel
theorem dX2_close_83 : decode cX2_close 83 = .ok (.iconst 1, 1) := by decide +kernel
theorem dX2_close_84 : decode cX2_close 84 = .ok (.iadd, 1) := by decide +kernel
theorem dX2_close_85 : decode cX2_close 85 = .ok (.iload 4, 2) := by decide +kernel
theorem dX2_close_87 : decode cX2_close 87 = .ok (.iastore, 1) := by decide +kernel
theorem dX2_close_88 : decode cX2_close 88 = .ok (.iload_n 1, 1) := by decide +kernel
theorem dX2_close_89 : decode cX2_close 89 = .ok (.ireturn, 1) := by decide +kernel
set_option maxRecDepth 20000 in
theorem ggX3_init_X2_init : GoodIn wsX3_init wsX2_init := goodIn_r _ [19, 20, 2, 3, 14, 21, 56, 57] (by decide +kernel) (by decide +kernel)
set_option maxRecDepth 20000 in
theorem gX3_init_X2_init_n17 : GoodIn wsX3_init (wsX2_init) := ggX3_init_X2_init
set_option maxRecDepth 20000 in
theorem ggX3_init_X1_init : GoodIn wsX3_init wsX1_init := goodIn_r _ [23, 24, 2, 3, 14, 25, 26, 58, 59, 60] (by decide +kernel) (by decide +kernel)
set_option maxRecDepth 20000 in
theorem gX3_init_X1_init_n24 : GoodIn wsX3_init (wsX1_init) := ggX3_init_X1_init
set_option maxRecDepth 20000 in
theorem ggX3_init_X0_init : GoodIn wsX3_init wsX0_init := goodIn_r _ [28, 29, 2, 3, 14, 30, 61, 62, 63, 64, 65] (by decide +kernel) (by decide +kernel)
set_option maxRecDepth 20000 in
theorem gX3_init_X0_init_n33 : GoodIn wsX3_init (wsX0_init) := ggX3_init_X0_init
set_option maxRecDepth 20000 in
theorem ggX3_init_X3_forgetAll : GoodIn wsX3_init wsX3_forgetAll := goodIn_r _ [35, 5, 9, 36, 37, 38, 39, 40, 41, 42, 43, 44, 8, 45, 46, 47, 48, 49, 50, 51, 52, 53, 54, 55, 61, 62, 63, 64, 65, 56, 57] (by decide +kernel) (by decide +kernel)
set_option maxRecDepth 20000 in
theorem gX3_init_X3_forgetAll : GoodIn wsX3_init (wsV RX3 34 RX3 yX3_forgetAll wsX3_forgetAll) := goodIn_app (goodIn_of _ (by decide +kernel)) ggX3_init_X3_forgetAll
theorem dX3_init_0 : decode cX3_init 0 = .ok (.aload_n 0, 1) := by decide +kernel
theorem dX3_init_1 : decode cX3_init 1 = .ok (.invokespecial 1, 3) := by decide +kernel
theorem dX3_init_4 : decode cX3_init 4 = .ok (.aload_n 0, 1) := by decide +kernel
theorem dX3_init_5 : decode cX3_init 5 = .ok (.bipush 8, 2) := by decide +kernel
theorem dX3_init_7 : decode cX3_init 7 = .ok (.anewarray 9, 3) := by decide +kernel
theorem dX3_init_10 : decode cX3_init 10 = .ok (.putfield 11, 3) := by decide +kernel
theorem dX3_init_13 : decode cX3_init 13 = .ok (.aload_n 0, 1) := by decide +kernel
theorem dX3_init_14 : decode cX3_init 14 = .ok (.new 15, 3) := by decide +kernel
theorem dX3_init_17 : decode cX3_init 17 = .ok (.dup, 1) := by decide +kernel
theorem dX3_init_18 : decode cX3_init 18 = .ok (.invokespecial 17, 3) := by decide +kernel
theorem dX3_init_21 : decode cX3_init 21 = .ok (.putfield 18, 3) := by decide +kernel
theorem dX3_init_24 : decode cX3_init 24 = .ok (.aload_n 0, 1) := by decide +kernel
theorem dX3_init_25 : decode cX3_init 25 = .ok (.new 22, 3) := by decide +kernel
theorem dX3_init_28 : decode cX3_init 28 = .ok (.dup, 1) := by decide +kernel
theorem dX3_init_29 : decode cX3_init 29 = .ok (.invokespecial 24, 3) := by decide +kernel
theorem dX3_init_32 : decode cX3_init 32 = .ok (.putfield 25, 3) := by decide +kernel
theorem dX3_init_35 : decode cX3_init 35 = .ok (.aload_n 0, 1) := by decide +kernel
theorem dX3_init_36 : decode cX3_init 36 = .ok (.iconst 4, 1) := by decide +kernel
theorem dX3_init_37 : decode cX3_init 37 = .ok (.newarray .int, 2) := by decide +kernel
theorem dX3_init_39 : decode cX3_init 39 = .ok (.putfield 29, 3) := by decide +kernel
theorem dX3_init_42 : decode cX3_init 42 = .ok (.iconst 0, 1) := by decide +kernel
theorem dX3_init_43 : decode cX3_init 43 = .ok (.istore_n 1, 1) := by decide +kernel
theorem dX3_init_44 : decode cX3_init 44 = .ok (.iload_n 1, 1) := by decide +kernel
theorem dX3_init_45 : decode cX3_init 45 = .ok (.bipush 8, 2) := by decide +kernel
theorem dX3_init_47 : decode cX3_init 47 = .ok (.if_icmp .ge 22, 3) := by decide +kernel
theorem dX3_init_50 : decode cX3_init 50 = .ok (.aload_n 0, 1) := by decide +kernel
theorem dX3_init_51 : decode cX3_init 51 = .ok (.getfield 11, 3) := by decide +kernel
theorem dX3_init_54 : decode cX3_init 54 = .ok (.iload_n 1, 1) := by decide +kernel
theorem dX3_init_55 : decode cX3_init 55 = .ok (.new 9, 3) := by decide +kernel
theorem dX3_init_58 : decode cX3_init 58 = .ok (.dup, 1) := by decide +kernel
theorem dX3_init_59 : decode cX3_init 59 = .ok (.invokespecial 33, 3) := by decide +kernel
theorem dX3_init_62 : decode cX3_init 62 = .ok (.aastore, 1) := by decide +kernel
theorem dX3_init_63 : decode cX3_init 63 = .ok (.iinc 1 1, 3) := by decide +kernel
theorem dX3_init_66 : decode cX3_init 66 = .ok (.goto (-22), 3) := by decide +kernel
theorem dX3_init_69 : decode cX3_init 69 = .ok (.aload_n 0, 1) := by decide +kernel
theorem dX3_init_70 : decode cX3_init 70 = .ok (.invokevirtual 34, 3) := by decide +kernel
theorem dX3_init_73 : decode cX3_init 73 = .ok (.return_, 1) := by decide +kernel
set_option maxRecDepth 20000 in
theorem ggX3_clear_X3_forgetAll : GoodIn wsX3_clear wsX3_forgetAll := goodIn_r _ [6, 1, 7, 8, 9, 10, 11, 12, 13, 14, 15, 16, 17, 18, 19, 20, 21, 22, 23, 24, 25, 26, 27, 28, 29, 30, 31, 32, 33, 34, 35] (by decide +kernel) (by decide +kernel)
set_option maxRecDepth 20000 in
theorem gX3_clear_X3_forgetAll : GoodIn wsX3_clear (wsV RX3 34 RX3 yX3_forgetAll wsX3_forgetAll) := goodIn_app (goodIn_of _ (by decide +kernel)) ggX3_clear_X3_forgetAll
theorem dX3_clear_0 : decode cX3_clear 0 = .ok (.iconst 0, 1) := by decide +kernel
theorem dX3_clear_1 : decode cX3_clear 1 = .ok (.istore_n 1, 1) := by decide +kernel
theorem dX3_clear_2 : decode cX3_clear 2 = .ok (.iconst 0, 1) := by decide +kernel
theorem dX3_clear_3 : decode cX3_clear 3 = .ok (.istore_n 2, 1) := by decide +kernel
theorem dX3_clear_4 : decode cX3_clear 4 = .ok (.iload_n 2, 1) := by decide +kernel
theorem dX3_clear_5 : decode cX3_clear 5 = .ok (.bipush 8, 2) := by decide +kernel
theorem dX3_clear_7 : decode cX3_clear 7 = .ok (.if_icmp .ge 24, 3) := by decide +kernel
theorem dX3_clear_10 : decode cX3_clear 10 = .ok (.aload_n 0, 1) := by decide +kernel
theorem dX3_clear_11 : decode cX3_clear 11 = .ok (.getfield 11, 3) := by decide +kernel
theorem dX3_clear_14 : decode cX3_clear 14 = .ok (.iload_n 2, 1) := by decide +kernel
theorem dX3_clear_15 : decode cX3_clear 15 = .ok (.aaload, 1) := by decide +kernel
theorem dX3_clear_16 : decode cX3_clear 16 = .ok (.getfield 37, 3) := by decide +kernel
theorem dX3_clear_19 : decode cX3_clear 19 = .ok (.ifCond .eq 6, 3) := by decide +kernel
theorem dX3_clear_22 : decode cX3_clear 22 = .ok (.iinc 1 1, 3) := by decide +kernel
theorem dX3_clear_25 : decode cX3_clear 25 = .ok (.iinc 2 1, 3) := by decide +kernel
theorem dX3_clear_28 : decode cX3_clear 28 = .ok (.goto (-24), 3) := by decide +kernel
theorem dX3_clear_31 : decode cX3_clear 31 = .ok (.aload_n 0, 1) := by decide +kernel
theorem dX3_clear_32 : decode cX3_clear 32 = .ok (.invokevirtual 34, 3) := by decide +kernel
theorem dX3_clear_35 : decode cX3_clear 35 = .ok (.iload_n 1, 1) := by decide +kernel
theorem dX3_clear_36 : decode cX3_clear 36 = .ok (.ireturn, 1) := by decide +kernel
set_option maxRecDepth 20000 in
theorem ggX3_action_X3_needNumber : GoodIn wsX3_action wsX3_needNumber := goodIn_ca (goodIn_r _ [8, 9, 10] (by decide +kernel) (by decide +kernel)) (goodIn_sub (fun _ h => List.mem_cons_of_mem _ (List.mem_append_right _ h)) (by decide +kernel))
set_option maxRecDepth 20000 in
theorem gX3_action_X3_needNumber : GoodIn wsX3_action (va_wsS RX3 41 yX3_needNumber wsX3_needNumber) := goodIn_app (goodIn_of _ (by decide +kernel)) ggX3_action_X3_needNumber
set_option maxRecDepth 20000 in
theorem ggX3_action_X3_needBits : GoodIn wsX3_action wsX3_needBits := goodIn_ca (goodIn_r _ [13, 1, 2] (by decide +kernel) (by decide +kernel)) (goodIn_sub (fun _ h => List.mem_cons_of_mem _ (List.mem_append_left _ (List.mem_append_right _ h))) (by decide +kernel))
set_option maxRecDepth 20000 in
theorem gX3_action_X3_needBits : GoodIn wsX3_action (va_wsS RX3 45 yX3_needBits wsX3_needBits) := goodIn_app (goodIn_of _ (by decide +kernel)) ggX3_action_X3_needBits
set_option maxRecDepth 20000 in
theorem ggX3_action_X3_demanded : GoodIn wsX3_action wsX3_demanded := goodIn_r _ [16] (by decide +kernel) (by decide +kernel)
set_option maxRecDepth 20000 in
theorem gX3_action_X3_demanded : GoodIn wsX3_action (va_wsS RX3 56 yX3_demanded wsX3_demanded) := goodIn_app (goodIn_of _ (by decide +kernel)) ggX3_action_X3_demanded
set_option maxRecDepth 20000 in
theorem ggX3_action_X0_begin : GoodIn wsX3_action wsX0_begin := goodIn_r _ [21, 22, 23, 24, 25, 26, 36, 37, 38, 39, 40] (by decide +kernel) (by decide +kernel)
set_option maxRecDepth 20000 in
theorem gX3_action_X0_begin : GoodIn wsX3_action (wsV RX3 63 RX0 yX0_begin wsX0_begin) := goodIn_app (goodIn_of _ (by decide +kernel)) ggX3_action_X0_begin
theorem dX3_action_0 : decode cX3_action 0 = .ok (.iload_n 1, 1) := by decide +kernel
theorem dX3_action_1 : decode cX3_action 1 = .ok (.invokestatic 41, 3) := by decide +kernel
theorem dX3_action_4 : decode cX3_action 4 = .ok (.iload_n 2, 1) := by decide +kernel
theorem dX3_action_5 : decode cX3_action 5 = .ok (.iload_n 3, 1) := by decide +kernel
theorem dX3_action_6 : decode cX3_action 6 = .ok (.invokestatic 45, 3) := by decide +kernel
theorem dX3_action_9 : decode cX3_action 9 = .ok (.iload 4, 2) := by decide +kernel
theorem dX3_action_11 : decode cX3_action 11 = .ok (.iconst (-1), 1) := by decide +kernel
theorem dX3_action_12 : decode cX3_action 12 = .ok (.if_icmp .lt 9, 3) := by decide +kernel
theorem dX3_action_15 : decode cX3_action 15 = .ok (.iload 4, 2) := by decide +kernel
theorem dX3_action_17 : decode cX3_action 17 = .ok (.iconst 4, 1) := by decide +kernel
theorem dX3_action_18 : decode cX3_action 18 = .ok (.if_icmp .lt 13, 3) := by decide +kernel
theorem dX3_action_21 : decode cX3_action 21 = .ok (.new 49, 3) := by decide +kernel
theorem dX3_action_24 : decode cX3_action 24 = .ok (.dup, 1) := by decide +kernel
theorem dX3_action_25 : decode cX3_action 25 = .ok (.ldc 51, 2) := by decide +kernel
theorem dX3_action_27 : decode cX3_action 27 = .ok (.invokespecial 53, 3) := by decide +kernel
theorem dX3_action_30 : decode cX3_action 30 = .ok (.athrow, 1) := by decide +kernel
theorem dX3_action_31 : decode cX3_action 31 = .ok (.aload_n 0, 1) := by decide +kernel
theorem dX3_action_32 : decode cX3_action 32 = .ok (.getfield 11, 3) := by decide +kernel
theorem dX3_action_35 : decode cX3_action 35 = .ok (.iload_n 1, 1) := by decide +kernel
theorem dX3_action_36 : decode cX3_action 36 = .ok (.aaload, 1) := by decide +kernel
theorem dX3_action_37 : decode cX3_action 37 = .ok (.getfield 37, 3) := by decide +kernel
theorem dX3_action_40 : decode cX3_action 40 = .ok (.istore 5, 2) := by decide +kernel
theorem dX3_action_42 : decode cX3_action 42 = .ok (.aload_n 0, 1) := by decide +kernel
theorem dX3_action_43 : decode cX3_action 43 = .ok (.getfield 11, 3) := by decide +kernel
theorem dX3_action_46 : decode cX3_action 46 = .ok (.iload_n 1, 1) := by decide +kernel
theorem dX3_action_47 : decode cX3_action 47 = .ok (.aaload, 1) := by decide +kernel
theorem dX3_action_48 : decode cX3_action 48 = .ok (.iload_n 2, 1) := by decide +kernel
theorem dX3_action_49 : decode cX3_action 49 = .ok (.iload_n 3, 1) := by decide +kernel
theorem dX3_action_50 : decode cX3_action 50 = .ok (.invokestatic 56, 3) := by decide +kernel
theorem dX3_action_53 : decode cX3_action 53 = .ok (.iload 4, 2) := by decide +kernel
theorem dX3_action_55 : decode cX3_action 55 = .ok (.iconst (-1), 1) := by decide +kernel
theorem dX3_action_56 : decode cX3_action 56 = .ok (.if_icmp .ne 7, 3) := by decide +kernel
theorem dX3_action_59 : decode cX3_action 59 = .ok (.iconst 0, 1) := by decide +kernel
theorem dX3_action_60 : decode cX3_action 60 = .ok (.goto 9, 3) := by decide +kernel
theorem dX3_action_63 : decode cX3_action 63 = .ok (.getstatic 60, 3) := by decide +kernel
theorem dX3_action_66 : decode cX3_action 66 = .ok (.iload 4, 2) := by decide +kernel
theorem dX3_action_68 : decode cX3_action 68 = .ok (.iaload, 1) := by decide +kernel
theorem dX3_action_69 : decode cX3_action 69 = .ok (.invokevirtual 63, 3) := by decide +kernel
theorem dX3_action_72 : decode cX3_action 72 = .ok (.iload 5, 2) := by decide +kernel
theorem dX3_action_74 : decode cX3_action 74 = .ok (.ireturn, 1) := by decide +kernel
set_option maxRecDepth 20000 in
theorem ggX3_effect_X3_needNumber : GoodIn wsX3_effect wsX3_needNumber := goodIn_ca (goodIn_r _ [9, 10, 11] (by decide +kernel) (by decide +kernel)) (goodIn_sub (fun _ h => List.mem_cons_of_mem _ (List.mem_append_left _ (List.mem_append_right _ h))) (by decide +kernel))
set_option maxRecDepth 20000 in
theorem gX3_effect_X3_needNumber : GoodIn wsX3_effect (va_wsS RX3 41 yX3_needNumber wsX3_needNumber) := goodIn_app (goodIn_of _ (by decide +kernel)) ggX3_effect_X3_needNumber
set_option maxRecDepth 20000 in
theorem ggX3_effect_X3_needThere : GoodIn wsX3_effect wsX3_needThere := goodIn_ca (goodIn_r _ [15, 16, 17, 5, 33, 34, 35, 36, 37, 38, 39, 40, 41, 42, 43, 44, 45, 46] (by decide +kernel) (by decide +kernel)) (goodIn_sub (fun _ h => List.mem_cons_of_mem _ (List.mem_append_right _ h)) (by decide +kernel))
set_option maxRecDepth 20000 in
theorem gX3_effect_X3_needThere : GoodIn wsX3_effect (wsV RX3 66 RX3 yX3_needThere wsX3_needThere) := goodIn_app (goodIn_of _ (by decide +kernel)) ggX3_effect_X3_needThere
set_option maxRecDepth 20000 in
theorem ggX3_effect_X3_needBits : GoodIn wsX3_effect wsX3_needBits := goodIn_ca (goodIn_r _ [20, 1, 2] (by decide +kernel) (by decide +kernel)) (goodIn_sub (fun _ h => List.mem_cons_of_mem _ (List.mem_append_left _ (List.mem_append_left _ (List.mem_append_left _ (List.mem_append_right _ h))))) (by decide +kernel))
set_option maxRecDepth 20000 in
theorem gX3_effect_X3_needBits : GoodIn wsX3_effect (va_wsS RX3 45 yX3_needBits wsX3_needBits) := goodIn_app (goodIn_of _ (by decide +kernel)) ggX3_effect_X3_needBits
set_option maxRecDepth 20000 in
theorem ggX3_effect_X3_demanded : GoodIn wsX3_effect wsX3_demanded := goodIn_r _ [23] (by decide +kernel) (by decide +kernel)
set_option maxRecDepth 20000 in
theorem gX3_effect_X3_demanded : GoodIn wsX3_effect (va_wsS RX3 56 yX3_demanded wsX3_demanded) := goodIn_app (goodIn_of _ (by decide +kernel)) ggX3_effect_X3_demanded
set_option maxRecDepth 20000 in
theorem ggX3_effect_X0_addEffect : GoodIn wsX3_effect wsX0_addEffect := goodIn_r _ [28, 29, 30, 31, 8, 32, 42, 43, 44, 45, 46] (by decide +kernel) (by decide +kernel)
set_option maxRecDepth 20000 in
theorem gX3_effect_X0_addEffect : GoodIn wsX3_effect (wsV RX3 80 RX0 yX0_addEffect wsX0_addEffect) := goodIn_app (goodIn_of _ (by decide +kernel)) ggX3_effect_X0_addEffect
theorem dX3_effect_0 : decode cX3_effect 0 = .ok (.iload_n 1, 1) := by decide +kernel
theorem dX3_effect_1 : decode cX3_effect 1 = .ok (.invokestatic 41, 3) := by decide +kernel
theorem dX3_effect_4 : decode cX3_effect 4 = .ok (.aload_n 0, 1) := by decide +kernel
theorem dX3_effect_5 : decode cX3_effect 5 = .ok (.iload_n 1, 1) := by decide +kernel
theorem dX3_effect_6 : decode cX3_effect 6 = .ok (.invokevirtual 66, 3) := by decide +kernel
theorem dX3_effect_9 : decode cX3_effect 9 = .ok (.iload 4, 2) := by decide +kernel
theorem dX3_effect_11 : decode cX3_effect 11 = .ok (.iload 5, 2) := by decide +kernel
theorem dX3_effect_13 : decode cX3_effect 13 = .ok (.invokestatic 45, 3) := by decide +kernel
theorem dX3_effect_16 : decode cX3_effect 16 = .ok (.iload_n 2, 1) := by decide +kernel
theorem dX3_effect_17 : decode cX3_effect 17 = .ok (.ifCond .lt 8, 3) := by decide +kernel
theorem dX3_effect_20 : decode cX3_effect 20 = .ok (.iload_n 2, 1) := by decide +kernel
theorem dX3_effect_21 : decode cX3_effect 21 = .ok (.iconst 4, 1) := by decide +kernel
theorem dX3_effect_22 : decode cX3_effect 22 = .ok (.if_icmp .lt 13, 3) := by decide +kernel
theorem dX3_effect_25 : decode cX3_effect 25 = .ok (.new 49, 3) := by decide +kernel
theorem dX3_effect_28 : decode cX3_effect 28 = .ok (.dup, 1) := by decide +kernel
theorem dX3_effect_29 : decode cX3_effect 29 = .ok (.ldc 69, 2) := by decide +kernel
theorem dX3_effect_31 : decode cX3_effect 31 = .ok (.invokespecial 53, 3) := by decide +kernel
theorem dX3_effect_34 : decode cX3_effect 34 = .ok (.athrow, 1) := by decide +kernel
theorem dX3_effect_35 : decode cX3_effect 35 = .ok (.aload_n 0, 1) := by decide +kernel
theorem dX3_effect_36 : decode cX3_effect 36 = .ok (.getfield 11, 3) := by decide +kernel
theorem dX3_effect_39 : decode cX3_effect 39 = .ok (.iload_n 1, 1) := by decide +kernel
theorem dX3_effect_40 : decode cX3_effect 40 = .ok (.aaload, 1) := by decide +kernel
theorem dX3_effect_41 : decode cX3_effect 41 = .ok (.getfield 71, 3) := by decide +kernel
theorem dX3_effect_44 : decode cX3_effect 44 = .ok (.iconst 4, 1) := by decide +kernel
theorem dX3_effect_45 : decode cX3_effect 45 = .ok (.if_icmp .lt 13, 3) := by decide +kernel
theorem dX3_effect_48 : decode cX3_effect 48 = .ok (.new 75, 3) := by decide +kernel
theorem dX3_effect_51 : decode cX3_effect 51 = .ok (.dup, 1) := by decide +kernel
theorem dX3_effect_52 : decode cX3_effect 52 = .ok (.ldc 77, 2) := by decide +kernel
theorem dX3_effect_54 : decode cX3_effect 54 = .ok (.invokespecial 79, 3) := by decide +kernel
theorem dX3_effect_57 : decode cX3_effect 57 = .ok (.athrow, 1) := by decide +kernel
theorem dX3_effect_58 : decode cX3_effect 58 = .ok (.aload_n 0, 1) := by decide +kernel
theorem dX3_effect_59 : decode cX3_effect 59 = .ok (.getfield 11, 3) := by decide +kernel
theorem dX3_effect_62 : decode cX3_effect 62 = .ok (.iload_n 1, 1) := by decide +kernel
theorem dX3_effect_63 : decode cX3_effect 63 = .ok (.aaload, 1) := by decide +kernel
theorem dX3_effect_64 : decode cX3_effect 64 = .ok (.iconst 1, 1) := by decide +kernel
theorem dX3_effect_65 : decode cX3_effect 65 = .ok (.iload_n 2, 1) := by decide +kernel
theorem dX3_effect_66 : decode cX3_effect 66 = .ok (.ishl, 1) := by decide +kernel
theorem dX3_effect_67 : decode cX3_effect 67 = .ok (.iload_n 3, 1) := by decide +kernel
theorem dX3_effect_68 : decode cX3_effect 68 = .ok (.iload 4, 2) := by decide +kernel
theorem dX3_effect_70 : decode cX3_effect 70 = .ok (.iload 5, 2) := by decide +kernel
theorem dX3_effect_72 : decode cX3_effect 72 = .ok (.invokestatic 56, 3) := by decide +kernel
theorem dX3_effect_75 : decode cX3_effect 75 = .ok (.invokevirtual 80, 3) := by decide +kernel
theorem dX3_effect_78 : decode cX3_effect 78 = .ok (.aload_n 0, 1) := by decide +kernel
theorem dX3_effect_79 : decode cX3_effect 79 = .ok (.getfield 11, 3) := by decide +kernel
theorem dX3_effect_82 : decode cX3_effect 82 = .ok (.iload_n 1, 1) := by decide +kernel
theorem dX3_effect_83 : decode cX3_effect 83 = .ok (.aaload, 1) := by decide +kernel
theorem dX3_effect_84 : decode cX3_effect 84 = .ok (.getfield 71, 3) := by decide +kernel
theorem dX3_effect_87 : decode cX3_effect 87 = .ok (.ireturn, 1) := by decide +kernel
set_option maxRecDepth 20000 in
theorem ggX3_clause_X3_needBits : GoodIn wsX3_clause wsX3_needBits := goodIn_ca (goodIn_r _ [8, 9, 10] (by decide +kernel) (by decide +kernel)) (goodIn_sub (fun _ h => List.mem_cons_of_mem _ (List.mem_append_right _ h)) (by decide +kernel))
set_option maxRecDepth 20000 in
theorem gX3_clause_X3_needBits : GoodIn wsX3_clause (va_wsS RX3 45 yX3_needBits wsX3_needBits) := goodIn_app (goodIn_of _ (by decide +kernel)) ggX3_clause_X3_needBits
set_option maxRecDepth 20000 in
theorem ggX3_clause_X3_allowed : GoodIn wsX3_clause wsX3_allowed := goodIn_r _ [13] (by decide +kernel) (by decide +kernel)
set_option maxRecDepth 20000 in
theorem gX3_clause_X3_allowed : GoodIn wsX3_clause (va_wsS RX3 92 yX3_allowed wsX3_allowed) := goodIn_app (goodIn_of _ (by decide +kernel)) ggX3_clause_X3_allowed
theorem dX3_clause_0 : decode cX3_clause 0 = .ok (.iload_n 1, 1) := by decide +kernel
theorem dX3_clause_1 : decode cX3_clause 1 = .ok (.iload_n 2, 1) := by decide +kernel
theorem dX3_clause_2 : decode cX3_clause 2 = .ok (.invokestatic 45, 3) := by decide +kernel
theorem dX3_clause_5 : decode cX3_clause 5 = .ok (.aload_n 0, 1) := by decide +kernel
theorem dX3_clause_6 : decode cX3_clause 6 = .ok (.getfield 84, 3) := by decide +kernel
theorem dX3_clause_9 : decode cX3_clause 9 = .ok (.bipush 6, 2) := by decide +kernel
theorem dX3_clause_11 : decode cX3_clause 11 = .ok (.if_icmp .lt 13, 3) := by decide +kernel
theorem dX3_clause_14 : decode cX3_clause 14 = .ok (.new 75, 3) := by decide +kernel
theorem dX3_clause_17 : decode cX3_clause 17 = .ok (.dup, 1) := by decide +kernel
theorem dX3_clause_18 : decode cX3_clause 18 = .ok (.ldc 87, 2) := by decide +kernel
theorem dX3_clause_20 : decode cX3_clause 20 = .ok (.invokespecial 79, 3) := by decide +kernel
theorem dX3_clause_23 : decode cX3_clause 23 = .ok (.athrow, 1) := by decide +kernel
theorem dX3_clause_24 : decode cX3_clause 24 = .ok (.aload_n 0, 1) := by decide +kernel
theorem dX3_clause_25 : decode cX3_clause 25 = .ok (.dup, 1) := by decide +kernel
theorem dX3_clause_26 : decode cX3_clause 26 = .ok (.getfield 89, 3) := by decide +kernel
theorem dX3_clause_29 : decode cX3_clause 29 = .ok (.iload_n 1, 1) := by decide +kernel
theorem dX3_clause_30 : decode cX3_clause 30 = .ok (.iload_n 2, 1) := by decide +kernel
theorem dX3_clause_31 : decode cX3_clause 31 = .ok (.invokestatic 92, 3) := by decide +kernel
theorem dX3_clause_34 : decode cX3_clause 34 = .ok (.iand, 1) := by decide +kernel
theorem dX3_clause_35 : decode cX3_clause 35 = .ok (.putfield 89, 3) := by decide +kernel
theorem dX3_clause_38 : decode cX3_clause 38 = .ok (.aload_n 0, 1) := by decide +kernel
theorem dX3_clause_39 : decode cX3_clause 39 = .ok (.dup, 1) := by decide +kernel
theorem dX3_clause_40 : decode cX3_clause 40 = .ok (.getfield 84, 3) := by decide +kernel
theorem dX3_clause_43 : decode cX3_clause 43 = .ok (.iconst 1, 1) := by decide +kernel
theorem dX3_clause_44 : decode cX3_clause 44 = .ok (.iadd, 1) := by decide +kernel
theorem dX3_clause_45 : decode cX3_clause 45 = .ok (.putfield 84, 3) := by decide +kernel
theorem dX3_clause_48 : decode cX3_clause 48 = .ok (.aload_n 0, 1) := by decide +kernel
theorem dX3_clause_49 : decode cX3_clause 49 = .ok (.getfield 84, 3) := by decide +kernel
theorem dX3_clause_52 : decode cX3_clause 52 = .ok (.ireturn, 1) := by decide +kernel
set_option maxRecDepth 20000 in
theorem ggX3_goal_X3_needBits : GoodIn wsX3_goal wsX3_needBits := goodIn_ca (goodIn_r _ [5, 6, 7] (by decide +kernel) (by decide +kernel)) (goodIn_sub (fun _ h => List.mem_cons_of_mem _ (List.mem_append_right _ h)) (by decide +kernel))
set_option maxRecDepth 20000 in
theorem gX3_goal_X3_needBits : GoodIn wsX3_goal (va_wsS RX3 45 yX3_needBits wsX3_needBits) := goodIn_app (goodIn_of _ (by decide +kernel)) ggX3_goal_X3_needBits
set_option maxRecDepth 20000 in
theorem ggX3_goal_X3_demanded : GoodIn wsX3_goal wsX3_demanded := goodIn_r _ [10] (by decide +kernel) (by decide +kernel)
set_option maxRecDepth 20000 in
theorem gX3_goal_X3_demanded : GoodIn wsX3_goal (va_wsS RX3 56 yX3_demanded wsX3_demanded) := goodIn_app (goodIn_of _ (by decide +kernel)) ggX3_goal_X3_demanded
set_option maxRecDepth 20000 in
theorem ggX3_goal_J6_bitCount_0f7a4 : GoodIn wsX3_goal wsJ6_bitCount_0f7a4 := goodIn_r _ [14, 15, 16, 17] (by decide +kernel) (by decide +kernel)
set_option maxRecDepth 20000 in
theorem gX3_goal_J6_bitCount_0f7a4 : GoodIn wsX3_goal (va_wsS RX3 98 yJ6_bitCount_0f7a4 wsJ6_bitCount_0f7a4) := goodIn_app (goodIn_of _ (by decide +kernel)) ggX3_goal_J6_bitCount_0f7a4
theorem dX3_goal_0 : decode cX3_goal 0 = .ok (.iload_n 1, 1) := by decide +kernel
theorem dX3_goal_1 : decode cX3_goal 1 = .ok (.iload_n 2, 1) := by decide +kernel
theorem dX3_goal_2 : decode cX3_goal 2 = .ok (.invokestatic 45, 3) := by decide +kernel
theorem dX3_goal_5 : decode cX3_goal 5 = .ok (.aload_n 0, 1) := by decide +kernel
theorem dX3_goal_6 : decode cX3_goal 6 = .ok (.iload_n 1, 1) := by decide +kernel
theorem dX3_goal_7 : decode cX3_goal 7 = .ok (.iload_n 2, 1) := by decide +kernel
theorem dX3_goal_8 : decode cX3_goal 8 = .ok (.invokestatic 56, 3) := by decide +kernel
theorem dX3_goal_11 : decode cX3_goal 11 = .ok (.putfield 95, 3) := by decide +kernel
theorem dX3_goal_14 : decode cX3_goal 14 = .ok (.aload_n 0, 1) := by decide +kernel
theorem dX3_goal_15 : decode cX3_goal 15 = .ok (.getfield 95, 3) := by decide +kernel
theorem dX3_goal_18 : decode cX3_goal 18 = .ok (.invokestatic 98, 3) := by decide +kernel
theorem dX3_goal_21 : decode cX3_goal 21 = .ok (.ireturn, 1) := by decide +kernel
theorem dX3_start_0 : decode cX3_start 0 = .ok (.aload_n 0, 1) := by decide +kernel
theorem dX3_start_1 : decode cX3_start 1 = .ok (.getfield 89, 3) := by decide +kernel
theorem dX3_start_4 : decode cX3_start 4 = .ok (.ireturn, 1) := by decide +kernel
set_option maxRecDepth 20000 in
theorem ggX3_behind_X3_needNumber : GoodIn wsX3_behind wsX3_needNumber := goodIn_ca (goodIn_r _ [10, 11, 12] (by decide +kernel) (by decide +kernel)) (goodIn_sub (fun _ h => List.mem_cons_of_mem _ (List.mem_append_left _ (List.mem_append_right _ h))) (by decide +kernel))
set_option maxRecDepth 20000 in
theorem gX3_behind_X3_needNumber : GoodIn wsX3_behind (va_wsS RX3 41 yX3_needNumber wsX3_needNumber) := goodIn_app (goodIn_of _ (by decide +kernel)) ggX3_behind_X3_needNumber
set_option maxRecDepth 20000 in
theorem ggX3_behind_X3_needThere : GoodIn wsX3_behind wsX3_needThere := goodIn_ca (goodIn_r _ [16, 17, 18, 6, 33, 34, 35, 36, 37, 38, 39, 40, 41, 42, 43, 44, 45, 46] (by decide +kernel) (by decide +kernel)) (goodIn_sub (fun _ h => List.mem_cons_of_mem _ (List.mem_append_right _ h)) (by decide +kernel))
set_option maxRecDepth 20000 in
theorem gX3_behind_X3_needThere : GoodIn wsX3_behind (wsV RX3 66 RX3 yX3_needThere wsX3_needThere) := goodIn_app (goodIn_of _ (by decide +kernel)) ggX3_behind_X3_needThere
set_option maxRecDepth 20000 in
theorem ggX3_behind_X0_usable : GoodIn wsX3_behind wsX0_usable := goodIn_r _ [23, 24, 25, 42, 43, 44, 45, 46] (by decide +kernel) (by decide +kernel)
set_option maxRecDepth 20000 in
theorem gX3_behind_X0_usable : GoodIn wsX3_behind (wsV RX3 107 RX0 yX0_usable wsX0_usable) := goodIn_app (goodIn_of _ (by decide +kernel)) ggX3_behind_X0_usable
set_option maxRecDepth 20000 in
theorem ggX3_behind_X0_after : GoodIn wsX3_behind wsX0_after := goodIn_r _ [29, 30, 31, 9, 32, 42, 43, 44, 45, 46] (by decide +kernel) (by decide +kernel)
set_option maxRecDepth 20000 in
theorem gX3_behind_X0_after : GoodIn wsX3_behind (wsV RX3 116 RX0 yX0_after wsX0_after) := goodIn_app (goodIn_of _ (by decide +kernel)) ggX3_behind_X0_after
theorem dX3_behind_0 : decode cX3_behind 0 = .ok (.iload_n 1, 1) := by decide +kernel
theorem dX3_behind_1 : decode cX3_behind 1 = .ok (.invokestatic 41, 3) := by decide +kernel
theorem dX3_behind_4 : decode cX3_behind 4 = .ok (.aload_n 0, 1) := by decide +kernel
theorem dX3_behind_5 : decode cX3_behind 5 = .ok (.iload_n 1, 1) := by decide +kernel
theorem dX3_behind_6 : decode cX3_behind 6 = .ok (.invokevirtual 66, 3) := by decide +kernel
theorem dX3_behind_9 : decode cX3_behind 9 = .ok (.iload_n 2, 1) := by decide +kernel
theorem dX3_behind_10 : decode cX3_behind 10 = .ok (.ifCond .lt 9, 3) := by decide +kernel
theorem dX3_behind_13 : decode cX3_behind 13 = .ok (.iload_n 2, 1) := by decide +kernel
theorem dX3_behind_14 : decode cX3_behind 14 = .ok (.ldc 104, 2) := by decide +kernel
theorem dX3_behind_16 : decode cX3_behind 16 = .ok (.if_icmp .le 13, 3) := by decide +kernel
theorem dX3_behind_19 : decode cX3_behind 19 = .ok (.new 49, 3) := by decide +kernel
theorem dX3_behind_22 : decode cX3_behind 22 = .ok (.dup, 1) := by decide +kernel
theorem dX3_behind_23 : decode cX3_behind 23 = .ok (.ldc 105, 2) := by decide +kernel
theorem dX3_behind_25 : decode cX3_behind 25 = .ok (.invokespecial 53, 3) := by decide +kernel
theorem dX3_behind_28 : decode cX3_behind 28 = .ok (.athrow, 1) := by decide +kernel
theorem dX3_behind_29 : decode cX3_behind 29 = .ok (.aload_n 0, 1) := by decide +kernel
theorem dX3_behind_30 : decode cX3_behind 30 = .ok (.getfield 11, 3) := by decide +kernel
theorem dX3_behind_33 : decode cX3_behind 33 = .ok (.iload_n 1, 1) := by decide +kernel
theorem dX3_behind_34 : decode cX3_behind 34 = .ok (.aaload, 1) := by decide +kernel
theorem dX3_behind_35 : decode cX3_behind 35 = .ok (.iload_n 2, 1) := by decide +kernel
theorem dX3_behind_36 : decode cX3_behind 36 = .ok (.invokevirtual 107, 3) := by decide +kernel
theorem dX3_behind_39 : decode cX3_behind 39 = .ok (.ifCond .ne 13, 3) := by decide +kernel
theorem dX3_behind_42 : decode cX3_behind 42 = .ok (.new 111, 3) := by decide +kernel
theorem dX3_behind_45 : decode cX3_behind 45 = .ok (.dup, 1) := by decide +kernel
theorem dX3_behind_46 : decode cX3_behind 46 = .ok (.ldc 113, 2) := by decide +kernel
theorem dX3_behind_48 : decode cX3_behind 48 = .ok (.invokespecial 115, 3) := by decide +kernel
theorem dX3_behind_51 : decode cX3_behind 51 = .ok (.athrow, 1) := by decide +kernel
theorem dX3_behind_52 : decode cX3_behind 52 = .ok (.aload_n 0, 1) := by decide +kernel
theorem dX3_behind_53 : decode cX3_behind 53 = .ok (.getfield 11, 3) := by decide +kernel
theorem dX3_behind_56 : decode cX3_behind 56 = .ok (.iload_n 1, 1) := by decide +kernel
theorem dX3_behind_57 : decode cX3_behind 57 = .ok (.aaload, 1) := by decide +kernel
theorem dX3_behind_58 : decode cX3_behind 58 = .ok (.iload_n 2, 1) := by decide +kernel
theorem dX3_behind_59 : decode cX3_behind 59 = .ok (.invokevirtual 116, 3) := by decide +kernel
theorem dX3_behind_62 : decode cX3_behind 62 = .ok (.ireturn, 1) := by decide +kernel
set_option maxRecDepth 20000 in
theorem ggX3_least_X3_needDepth : GoodIn wsX3_least wsX3_needDepth := goodIn_ca (goodIn_r _ [7, 1, 2] (by decide +kernel) (by decide +kernel)) (goodIn_sub (fun _ h => List.mem_cons_of_mem _ (List.mem_append_left _ (List.mem_append_right _ h))) (by decide +kernel))
set_option maxRecDepth 20000 in
theorem gX3_least_X3_needDepth : GoodIn wsX3_least (va_wsS RX3 121 yX3_needDepth wsX3_needDepth) := goodIn_app (goodIn_of _ (by decide +kernel)) ggX3_least_X3_needDepth
set_option maxRecDepth 20000 in
theorem ggX3_least_X3_fewest : GoodIn wsX3_least wsX3_fewest := goodIn_r _ [11, 12, 13, 14, 6, 15, 16, 17, 18, 19, 20, 21, 22, 23, 24, 25, 26, 27, 28, 29, 30, 31, 32, 33, 34, 35, 36, 37, 38, 39, 40, 41, 42, 43, 44, 45, 46, 47, 48, 54, 55, 56, 57, 58, 59, 60, 61, 62, 63, 64, 65, 66, 67] (by decide +kernel) (by decide +kernel)
set_option maxRecDepth 20000 in
theorem gX3_least_X3_fewest : GoodIn wsX3_least (wsV RX3 124 RX3 yX3_fewest wsX3_fewest) := goodIn_app (goodIn_of _ (by decide +kernel)) ggX3_least_X3_fewest
set_option maxRecDepth 20000 in
theorem ggX3_least_X3_needSolved : GoodIn wsX3_least wsX3_needSolved := goodIn_ca (goodIn_r _ [51, 52, 53] (by decide +kernel) (by decide +kernel)) (goodIn_sub (fun _ h => List.mem_cons_of_mem _ (List.mem_append_right _ h)) (by decide +kernel))
set_option maxRecDepth 20000 in
theorem gX3_least_X3_needSolved : GoodIn wsX3_least (va_wsS RX3 127 yX3_needSolved wsX3_needSolved) := goodIn_app (goodIn_of _ (by decide +kernel)) ggX3_least_X3_needSolved
theorem dX3_least_0 : decode cX3_least 0 = .ok (.iload_n 1, 1) := by decide +kernel
theorem dX3_least_1 : decode cX3_least 1 = .ok (.iconst 1, 1) := by decide +kernel
theorem dX3_least_2 : decode cX3_least 2 = .ok (.if_icmp .lt 9, 3) := by decide +kernel
theorem dX3_least_5 : decode cX3_least 5 = .ok (.iload_n 1, 1) := by decide +kernel
theorem dX3_least_6 : decode cX3_least 6 = .ok (.ldc 104, 2) := by decide +kernel
theorem dX3_least_8 : decode cX3_least 8 = .ok (.if_icmp .le 13, 3) := by decide +kernel
theorem dX3_least_11 : decode cX3_least 11 = .ok (.new 49, 3) := by decide +kernel
theorem dX3_least_14 : decode cX3_least 14 = .ok (.dup, 1) := by decide +kernel
theorem dX3_least_15 : decode cX3_least 15 = .ok (.ldc 119, 2) := by decide +kernel
theorem dX3_least_17 : decode cX3_least 17 = .ok (.invokespecial 53, 3) := by decide +kernel
theorem dX3_least_20 : decode cX3_least 20 = .ok (.athrow, 1) := by decide +kernel
theorem dX3_least_21 : decode cX3_least 21 = .ok (.iload_n 2, 1) := by decide +kernel
theorem dX3_least_22 : decode cX3_least 22 = .ok (.invokestatic 121, 3) := by decide +kernel
theorem dX3_least_25 : decode cX3_least 25 = .ok (.aload_n 0, 1) := by decide +kernel
theorem dX3_least_26 : decode cX3_least 26 = .ok (.iload_n 1, 1) := by decide +kernel
theorem dX3_least_27 : decode cX3_least 27 = .ok (.iload_n 2, 1) := by decide +kernel
theorem dX3_least_28 : decode cX3_least 28 = .ok (.invokevirtual 124, 3) := by decide +kernel
theorem dX3_least_31 : decode cX3_least 31 = .ok (.invokestatic 127, 3) := by decide +kernel
theorem dX3_least_34 : decode cX3_least 34 = .ok (.ireturn, 1) := by decide +kernel
set_option maxRecDepth 20000 in
theorem ggX3_plan_X3_needDepth : GoodIn wsX3_plan wsX3_needDepth := goodIn_ca (goodIn_r _ [8, 9, 10] (by decide +kernel) (by decide +kernel)) (goodIn_sub (fun _ h => List.mem_cons_of_mem _ (List.mem_append_left _ (List.mem_append_right _ h))) (by decide +kernel))
set_option maxRecDepth 20000 in
theorem gX3_plan_X3_needDepth : GoodIn wsX3_plan (va_wsS RX3 121 yX3_needDepth wsX3_needDepth) := goodIn_app (goodIn_of _ (by decide +kernel)) ggX3_plan_X3_needDepth
set_option maxRecDepth 20000 in
theorem ggX3_plan_X3_fewest : GoodIn wsX3_plan wsX3_fewest := goodIn_r _ [14, 15, 16, 17, 7, 18, 19, 20, 21, 22, 23, 24, 25, 26, 27, 28, 29, 30, 31, 32, 33, 34, 35, 36, 37, 38, 39, 40, 41, 42, 43, 44, 45, 46, 47, 48, 49, 50, 51, 88, 89, 90, 91, 92, 93, 94, 95, 96, 97, 98, 99, 100, 101] (by decide +kernel) (by decide +kernel)
set_option maxRecDepth 20000 in
theorem gX3_plan_X3_fewest : GoodIn wsX3_plan (wsV RX3 124 RX3 yX3_fewest wsX3_fewest) := goodIn_app (goodIn_of _ (by decide +kernel)) ggX3_plan_X3_fewest
set_option maxRecDepth 20000 in
theorem ggX3_plan_X3_needSolved : GoodIn wsX3_plan wsX3_needSolved := goodIn_ca (goodIn_r _ [54, 55, 56] (by decide +kernel) (by decide +kernel)) (goodIn_sub (fun _ h => List.mem_cons_of_mem _ (List.mem_append_right _ h)) (by decide +kernel))
set_option maxRecDepth 20000 in
theorem gX3_plan_X3_needSolved : GoodIn wsX3_plan (va_wsS RX3 127 yX3_needSolved wsX3_needSolved) := goodIn_app (goodIn_of _ (by decide +kernel)) ggX3_plan_X3_needSolved
set_option maxRecDepth 20000 in
theorem ggX3_plan_X2_empty : GoodIn wsX3_plan wsX2_empty := goodIn_r _ [61, 62, 102, 103] (by decide +kernel) (by decide +kernel)
set_option maxRecDepth 20000 in
theorem gX3_plan_X2_empty : GoodIn wsX3_plan (wsV RX3 132 RX2 yX2_empty wsX2_empty) := goodIn_app (goodIn_of _ (by decide +kernel)) ggX3_plan_X2_empty
set_option maxRecDepth 20000 in
theorem ggX3_plan_X3_grow : GoodIn wsX3_plan wsX3_grow := goodIn_r _ [66, 4, 28, 67, 68, 69, 60, 70, 62, 71, 72, 73, 74, 75, 19, 20, 21, 7, 22, 23, 24, 25, 26, 27, 29, 30, 31, 32, 33, 34, 35, 36, 37, 38, 18, 39, 40, 41, 42, 43, 44, 45, 46, 47, 48, 49, 50, 51, 15, 16, 17, 76, 77, 78, 79, 80, 81, 82, 83, 84, 85, 86, 87, 63, 64, 65, 88, 89, 90, 91, 92, 93, 94, 95, 96, 102, 103, 97, 98, 99, 100, 101] (by decide +kernel) (by decide +kernel)
set_option maxRecDepth 20000 in
theorem gX3_plan_X3_grow : GoodIn wsX3_plan (wsV RX3 135 RX3 yX3_grow wsX3_grow) := goodIn_app (goodIn_of _ (by decide +kernel)) ggX3_plan_X3_grow
theorem dX3_plan_0 : decode cX3_plan 0 = .ok (.iload_n 1, 1) := by decide +kernel
theorem dX3_plan_1 : decode cX3_plan 1 = .ok (.invokestatic 121, 3) := by decide +kernel
theorem dX3_plan_4 : decode cX3_plan 4 = .ok (.aload_n 0, 1) := by decide +kernel
theorem dX3_plan_5 : decode cX3_plan 5 = .ok (.getfield 89, 3) := by decide +kernel
theorem dX3_plan_8 : decode cX3_plan 8 = .ok (.ifCond .ne 13, 3) := by decide +kernel
theorem dX3_plan_11 : decode cX3_plan 11 = .ok (.new 75, 3) := by decide +kernel
theorem dX3_plan_14 : decode cX3_plan 14 = .ok (.dup, 1) := by decide +kernel
theorem dX3_plan_15 : decode cX3_plan 15 = .ok (.ldc 130, 2) := by decide +kernel
theorem dX3_plan_17 : decode cX3_plan 17 = .ok (.invokespecial 79, 3) := by decide +kernel
theorem dX3_plan_20 : decode cX3_plan 20 = .ok (.athrow, 1) := by decide +kernel
theorem dX3_plan_21 : decode cX3_plan 21 = .ok (.aload_n 0, 1) := by decide +kernel
theorem dX3_plan_22 : decode cX3_plan 22 = .ok (.aload_n 0, 1) := by decide +kernel
theorem dX3_plan_23 : decode cX3_plan 23 = .ok (.getfield 89, 3) := by decide +kernel
theorem dX3_plan_26 : decode cX3_plan 26 = .ok (.iload_n 1, 1) := by decide +kernel
theorem dX3_plan_27 : decode cX3_plan 27 = .ok (.invokevirtual 124, 3) := by decide +kernel
theorem dX3_plan_30 : decode cX3_plan 30 = .ok (.invokestatic 127, 3) := by decide +kernel
theorem dX3_plan_33 : decode cX3_plan 33 = .ok (.istore_n 2, 1) := by decide +kernel
theorem dX3_plan_34 : decode cX3_plan 34 = .ok (.aload_n 0, 1) := by decide +kernel
theorem dX3_plan_35 : decode cX3_plan 35 = .ok (.getfield 18, 3) := by decide +kernel
theorem dX3_plan_38 : decode cX3_plan 38 = .ok (.invokevirtual 132, 3) := by decide +kernel
theorem dX3_plan_41 : decode cX3_plan 41 = .ok (.aload_n 0, 1) := by decide +kernel
theorem dX3_plan_42 : decode cX3_plan 42 = .ok (.aload_n 0, 1) := by decide +kernel
theorem dX3_plan_43 : decode cX3_plan 43 = .ok (.getfield 89, 3) := by decide +kernel
theorem dX3_plan_46 : decode cX3_plan 46 = .ok (.iload_n 2, 1) := by decide +kernel
theorem dX3_plan_47 : decode cX3_plan 47 = .ok (.invokevirtual 135, 3) := by decide +kernel
theorem dX3_plan_50 : decode cX3_plan 50 = .ok (.pop, 1) := by decide +kernel
theorem dX3_plan_51 : decode cX3_plan 51 = .ok (.iload_n 2, 1) := by decide +kernel
theorem dX3_plan_52 : decode cX3_plan 52 = .ok (.ireturn, 1) := by decide +kernel
theorem dX3_nodes_0 : decode cX3_nodes 0 = .ok (.aload_n 0, 1) := by decide +kernel
theorem dX3_nodes_1 : decode cX3_nodes 1 = .ok (.getfield 18, 3) := by decide +kernel
theorem dX3_nodes_4 : decode cX3_nodes 4 = .ok (.getfield 138, 3) := by decide +kernel
theorem dX3_nodes_7 : decode cX3_nodes 7 = .ok (.ireturn, 1) := by decide +kernel
set_option maxRecDepth 20000 in
theorem ggX3_node_X3_needNode : GoodIn wsX3_node wsX3_needNode := goodIn_ca (goodIn_r _ [8, 1, 2, 3, 15, 16, 17, 18, 19, 20, 21, 22, 23, 24, 25] (by decide +kernel) (by decide +kernel)) (goodIn_sub (fun _ h => List.mem_cons_of_mem _ (List.mem_append_right _ h)) (by decide +kernel))
set_option maxRecDepth 20000 in
theorem gX3_node_X3_needNode : GoodIn wsX3_node (wsV RX3 141 RX3 yX3_needNode wsX3_needNode) := goodIn_app (goodIn_of _ (by decide +kernel)) ggX3_node_X3_needNode
set_option maxRecDepth 20000 in
theorem ggX3_node_X2_cell : GoodIn wsX3_node wsX2_cell := goodIn_r _ [13, 14, 24, 25] (by decide +kernel) (by decide +kernel)
set_option maxRecDepth 20000 in
theorem gX3_node_X2_cell : GoodIn wsX3_node (wsV RX3 149 RX2 yX2_cell wsX2_cell) := goodIn_app (goodIn_of _ (by decide +kernel)) ggX3_node_X2_cell
theorem dX3_node_0 : decode cX3_node 0 = .ok (.aload_n 0, 1) := by decide +kernel
theorem dX3_node_1 : decode cX3_node 1 = .ok (.iload_n 1, 1) := by decide +kernel
theorem dX3_node_2 : decode cX3_node 2 = .ok (.invokevirtual 141, 3) := by decide +kernel
theorem dX3_node_5 : decode cX3_node 5 = .ok (.iload_n 2, 1) := by decide +kernel
theorem dX3_node_6 : decode cX3_node 6 = .ok (.ifCond .lt 8, 3) := by decide +kernel
theorem dX3_node_9 : decode cX3_node 9 = .ok (.iload_n 2, 1) := by decide +kernel
theorem dX3_node_10 : decode cX3_node 10 = .ok (.iconst 3, 1) := by decide +kernel
theorem dX3_node_11 : decode cX3_node 11 = .ok (.if_icmp .lt 13, 3) := by decide +kernel
theorem dX3_node_14 : decode cX3_node 14 = .ok (.new 144, 3) := by decide +kernel
theorem dX3_node_17 : decode cX3_node 17 = .ok (.dup, 1) := by decide +kernel
theorem dX3_node_18 : decode cX3_node 18 = .ok (.ldc 146, 2) := by decide +kernel
theorem dX3_node_20 : decode cX3_node 20 = .ok (.invokespecial 148, 3) := by decide +kernel
theorem dX3_node_23 : decode cX3_node 23 = .ok (.athrow, 1) := by decide +kernel
theorem dX3_node_24 : decode cX3_node 24 = .ok (.aload_n 0, 1) := by decide +kernel
theorem dX3_node_25 : decode cX3_node 25 = .ok (.getfield 18, 3) := by decide +kernel
theorem dX3_node_28 : decode cX3_node 28 = .ok (.iload_n 1, 1) := by decide +kernel
theorem dX3_node_29 : decode cX3_node 29 = .ok (.iload_n 2, 1) := by decide +kernel
theorem dX3_node_30 : decode cX3_node 30 = .ok (.invokevirtual 149, 3) := by decide +kernel
theorem dX3_node_33 : decode cX3_node 33 = .ok (.ireturn, 1) := by decide +kernel
set_option maxRecDepth 20000 in
theorem ggX3_edit_X3_needNode : GoodIn wsX3_edit wsX3_needNode := goodIn_ca (goodIn_r _ [8, 9, 10, 3, 31, 32, 33, 34, 35, 36, 37, 38, 39, 40, 41] (by decide +kernel) (by decide +kernel)) (goodIn_sub (fun _ h => List.mem_cons_of_mem _ (List.mem_append_left _ (List.mem_append_right _ h))) (by decide +kernel))
set_option maxRecDepth 20000 in
theorem gX3_edit_X3_needNode : GoodIn wsX3_edit (wsV RX3 141 RX3 yX3_needNode wsX3_needNode) := goodIn_app (goodIn_of _ (by decide +kernel)) ggX3_edit_X3_needNode
set_option maxRecDepth 20000 in
theorem ggX3_edit_X3_needNumber : GoodIn wsX3_edit wsX3_needNumber := goodIn_ca (goodIn_r _ [13, 9, 10] (by decide +kernel) (by decide +kernel)) (goodIn_sub (fun _ h => List.mem_cons_of_mem _ (List.mem_append_left _ (List.mem_append_right _ h))) (by decide +kernel))
set_option maxRecDepth 20000 in
theorem gX3_edit_X3_needNumber : GoodIn wsX3_edit (va_wsS RX3 41 yX3_needNumber wsX3_needNumber) := goodIn_app (goodIn_of _ (by decide +kernel)) ggX3_edit_X3_needNumber
set_option maxRecDepth 20000 in
theorem ggX3_edit_X3_needThere : GoodIn wsX3_edit wsX3_needThere := goodIn_ca (goodIn_r _ [17, 18, 19, 20, 31, 32, 33, 34, 35, 36, 37, 38, 39, 42, 43, 44, 45, 46] (by decide +kernel) (by decide +kernel)) (goodIn_sub (fun _ h => List.mem_cons_of_mem _ (List.mem_append_right _ h)) (by decide +kernel))
set_option maxRecDepth 20000 in
theorem gX3_edit_X3_needThere : GoodIn wsX3_edit (wsV RX3 66 RX3 yX3_needThere wsX3_needThere) := goodIn_app (goodIn_of _ (by decide +kernel)) ggX3_edit_X3_needThere
set_option maxRecDepth 20000 in
theorem ggX3_edit_X2_cell : GoodIn wsX3_edit wsX2_cell := goodIn_r _ [25, 26, 40, 41] (by decide +kernel) (by decide +kernel)
set_option maxRecDepth 20000 in
theorem gX3_edit_X2_cell : GoodIn wsX3_edit (wsV RX3 149 RX2 yX2_cell wsX2_cell) := goodIn_app (goodIn_of _ (by decide +kernel)) ggX3_edit_X2_cell
set_option maxRecDepth 20000 in
theorem ggX3_edit_X2_setAction : GoodIn wsX3_edit wsX2_setAction := goodIn_r _ [30, 26, 40, 41] (by decide +kernel) (by decide +kernel)
set_option maxRecDepth 20000 in
theorem gX3_edit_X2_setAction : GoodIn wsX3_edit (wsV RX3 154 RX2 yX2_setAction wsX2_setAction) := goodIn_app (goodIn_of _ (by decide +kernel)) ggX3_edit_X2_setAction
theorem dX3_edit_0 : decode cX3_edit 0 = .ok (.aload_n 0, 1) := by decide +kernel
theorem dX3_edit_1 : decode cX3_edit 1 = .ok (.iload_n 1, 1) := by decide +kernel
theorem dX3_edit_2 : decode cX3_edit 2 = .ok (.invokevirtual 141, 3) := by decide +kernel
theorem dX3_edit_5 : decode cX3_edit 5 = .ok (.iload_n 2, 1) := by decide +kernel
theorem dX3_edit_6 : decode cX3_edit 6 = .ok (.invokestatic 41, 3) := by decide +kernel
theorem dX3_edit_9 : decode cX3_edit 9 = .ok (.aload_n 0, 1) := by decide +kernel
theorem dX3_edit_10 : decode cX3_edit 10 = .ok (.iload_n 2, 1) := by decide +kernel
theorem dX3_edit_11 : decode cX3_edit 11 = .ok (.invokevirtual 66, 3) := by decide +kernel
theorem dX3_edit_14 : decode cX3_edit 14 = .ok (.aload_n 0, 1) := by decide +kernel
theorem dX3_edit_15 : decode cX3_edit 15 = .ok (.getfield 18, 3) := by decide +kernel
theorem dX3_edit_18 : decode cX3_edit 18 = .ok (.iload_n 1, 1) := by decide +kernel
theorem dX3_edit_19 : decode cX3_edit 19 = .ok (.iconst 0, 1) := by decide +kernel
theorem dX3_edit_20 : decode cX3_edit 20 = .ok (.invokevirtual 149, 3) := by decide +kernel
theorem dX3_edit_23 : decode cX3_edit 23 = .ok (.istore_n 3, 1) := by decide +kernel
theorem dX3_edit_24 : decode cX3_edit 24 = .ok (.iload_n 3, 1) := by decide +kernel
theorem dX3_edit_25 : decode cX3_edit 25 = .ok (.iconst (-1), 1) := by decide +kernel
theorem dX3_edit_26 : decode cX3_edit 26 = .ok (.if_icmp .ne 13, 3) := by decide +kernel
theorem dX3_edit_29 : decode cX3_edit 29 = .ok (.new 111, 3) := by decide +kernel
theorem dX3_edit_32 : decode cX3_edit 32 = .ok (.dup, 1) := by decide +kernel
theorem dX3_edit_33 : decode cX3_edit 33 = .ok (.ldc 152, 2) := by decide +kernel
theorem dX3_edit_35 : decode cX3_edit 35 = .ok (.invokespecial 115, 3) := by decide +kernel
theorem dX3_edit_38 : decode cX3_edit 38 = .ok (.athrow, 1) := by decide +kernel
theorem dX3_edit_39 : decode cX3_edit 39 = .ok (.aload_n 0, 1) := by decide +kernel
theorem dX3_edit_40 : decode cX3_edit 40 = .ok (.getfield 18, 3) := by decide +kernel
theorem dX3_edit_43 : decode cX3_edit 43 = .ok (.iload_n 1, 1) := by decide +kernel
theorem dX3_edit_44 : decode cX3_edit 44 = .ok (.iload_n 2, 1) := by decide +kernel
theorem dX3_edit_45 : decode cX3_edit 45 = .ok (.invokevirtual 154, 3) := by decide +kernel
theorem dX3_edit_48 : decode cX3_edit 48 = .ok (.iload_n 3, 1) := by decide +kernel
theorem dX3_edit_49 : decode cX3_edit 49 = .ok (.ireturn, 1) := by decide +kernel
set_option maxRecDepth 20000 in
theorem ggX3_right_X3_needPlan : GoodIn wsX3_right wsX3_needPlan := goodIn_ca (goodIn_r _ [6, 7, 8, 9, 45, 46, 47, 48, 49, 50, 51, 52, 53, 54, 55] (by decide +kernel) (by decide +kernel)) (goodIn_sub (fun _ h => List.mem_cons_of_mem _ (List.mem_append_right _ h)) (by decide +kernel))
set_option maxRecDepth 20000 in
theorem gX3_right_X3_needPlan : GoodIn wsX3_right (wsV RX3 157 RX3 yX3_needPlan wsX3_needPlan) := goodIn_app (goodIn_of _ (by decide +kernel)) ggX3_right_X3_needPlan
set_option maxRecDepth 20000 in
theorem ggX3_right_X3_fits : GoodIn wsX3_right wsX3_fits := goodIn_r _ [13, 9, 14, 15, 16, 17, 18, 19, 20, 21, 22, 23, 5, 24, 25, 26, 27, 28, 29, 30, 31, 32, 33, 34, 35, 36, 37, 38, 39, 40, 41, 42, 43, 44, 10, 11, 12, 45, 46, 47, 48, 49, 50, 51, 52, 53, 54, 55, 56, 57, 58, 59, 60] (by decide +kernel) (by decide +kernel)
set_option maxRecDepth 20000 in
theorem gX3_right_X3_fits : GoodIn wsX3_right (wsV RX3 160 RX3 yX3_fits wsX3_fits) := goodIn_app (goodIn_of _ (by decide +kernel)) ggX3_right_X3_fits
theorem dX3_right_0 : decode cX3_right 0 = .ok (.aload_n 0, 1) := by decide +kernel
theorem dX3_right_1 : decode cX3_right 1 = .ok (.invokevirtual 157, 3) := by decide +kernel
theorem dX3_right_4 : decode cX3_right 4 = .ok (.aload_n 0, 1) := by decide +kernel
theorem dX3_right_5 : decode cX3_right 5 = .ok (.iconst 0, 1) := by decide +kernel
theorem dX3_right_6 : decode cX3_right 6 = .ok (.aload_n 0, 1) := by decide +kernel
theorem dX3_right_7 : decode cX3_right 7 = .ok (.getfield 89, 3) := by decide +kernel
theorem dX3_right_10 : decode cX3_right 10 = .ok (.iconst 4, 1) := by decide +kernel
theorem dX3_right_11 : decode cX3_right 11 = .ok (.invokevirtual 160, 3) := by decide +kernel
theorem dX3_right_14 : decode cX3_right 14 = .ok (.ireturn, 1) := by decide +kernel
set_option maxRecDepth 20000 in
theorem ggX3_hide_X3_isIn : GoodIn wsX3_hide wsX3_isIn := goodIn_r _ [8] (by decide +kernel) (by decide +kernel)
set_option maxRecDepth 20000 in
theorem gX3_hide_X3_isIn : GoodIn wsX3_hide (va_wsS RX3 169 yX3_isIn wsX3_isIn) := goodIn_app (goodIn_of _ (by decide +kernel)) ggX3_hide_X3_isIn
theorem dX3_hide_0 : decode cX3_hide 0 = .ok (.iload_n 1, 1) := by decide +kernel
theorem dX3_hide_1 : decode cX3_hide 1 = .ok (.ifCond .lt 9, 3) := by decide +kernel
theorem dX3_hide_4 : decode cX3_hide 4 = .ok (.iload_n 1, 1) := by decide +kernel
theorem dX3_hide_5 : decode cX3_hide 5 = .ok (.bipush 16, 2) := by decide +kernel
theorem dX3_hide_7 : decode cX3_hide 7 = .ok (.if_icmp .lt 13, 3) := by decide +kernel
theorem dX3_hide_10 : decode cX3_hide 10 = .ok (.new 49, 3) := by decide +kernel
theorem dX3_hide_13 : decode cX3_hide 13 = .ok (.dup, 1) := by decide +kernel
theorem dX3_hide_14 : decode cX3_hide 14 = .ok (.ldc 164, 2) := by decide +kernel
theorem dX3_hide_16 : decode cX3_hide 16 = .ok (.invokespecial 53, 3) := by decide +kernel
theorem dX3_hide_19 : decode cX3_hide 19 = .ok (.athrow, 1) := by decide +kernel
theorem dX3_hide_20 : decode cX3_hide 20 = .ok (.aload_n 0, 1) := by decide +kernel
theorem dX3_hide_21 : decode cX3_hide 21 = .ok (.iload_n 1, 1) := by decide +kernel
theorem dX3_hide_22 : decode cX3_hide 22 = .ok (.putfield 166, 3) := by decide +kernel
theorem dX3_hide_25 : decode cX3_hide 25 = .ok (.iload_n 1, 1) := by decide +kernel
theorem dX3_hide_26 : decode cX3_hide 26 = .ok (.aload_n 0, 1) := by decide +kernel
theorem dX3_hide_27 : decode cX3_hide 27 = .ok (.getfield 89, 3) := by decide +kernel
theorem dX3_hide_30 : decode cX3_hide 30 = .ok (.invokestatic 169, 3) := by decide +kernel
theorem dX3_hide_33 : decode cX3_hide 33 = .ok (.ireturn, 1) := by decide +kernel
set_option maxRecDepth 20000 in
theorem ggX3_execute_X3_needPlan : GoodIn wsX3_execute wsX3_needPlan := goodIn_ca (goodIn_r _ [8, 1, 2, 9, 39, 40, 41, 42, 43, 44, 45, 46, 47, 48, 49] (by decide +kernel) (by decide +kernel)) (goodIn_sub (fun _ h => List.mem_cons_of_mem _ (List.mem_append_right _ h)) (by decide +kernel))
set_option maxRecDepth 20000 in
theorem gX3_execute_X3_needPlan : GoodIn wsX3_execute (wsV RX3 157 RX3 yX3_needPlan wsX3_needPlan) := goodIn_app (goodIn_of _ (by decide +kernel)) ggX3_execute_X3_needPlan
set_option maxRecDepth 20000 in
theorem ggX3_execute_X3_carryOut : GoodIn wsX3_execute wsX3_carryOut := goodIn_r _ [13, 3, 14, 9, 15, 16, 17, 18, 19, 20, 21, 22, 23, 24, 25, 26, 27, 28, 29, 30, 31, 32, 33, 34, 35, 36, 7, 37, 38, 39, 40, 41, 42, 43, 44, 45, 46, 47, 50, 51, 52, 53, 54, 48, 49] (by decide +kernel) (by decide +kernel)
set_option maxRecDepth 20000 in
theorem gX3_execute_X3_carryOut : GoodIn wsX3_execute (wsV RX3 175 RX3 yX3_carryOut wsX3_carryOut) := goodIn_app (goodIn_of _ (by decide +kernel)) ggX3_execute_X3_carryOut
theorem dX3_execute_0 : decode cX3_execute 0 = .ok (.aload_n 0, 1) := by decide +kernel
theorem dX3_execute_1 : decode cX3_execute 1 = .ok (.invokevirtual 157, 3) := by decide +kernel
theorem dX3_execute_4 : decode cX3_execute 4 = .ok (.aload_n 0, 1) := by decide +kernel
theorem dX3_execute_5 : decode cX3_execute 5 = .ok (.getfield 166, 3) := by decide +kernel
theorem dX3_execute_8 : decode cX3_execute 8 = .ok (.iconst (-1), 1) := by decide +kernel
theorem dX3_execute_9 : decode cX3_execute 9 = .ok (.if_icmp .ne 13, 3) := by decide +kernel
theorem dX3_execute_12 : decode cX3_execute 12 = .ok (.new 75, 3) := by decide +kernel
theorem dX3_execute_15 : decode cX3_execute 15 = .ok (.dup, 1) := by decide +kernel
theorem dX3_execute_16 : decode cX3_execute 16 = .ok (.ldc 173, 2) := by decide +kernel
theorem dX3_execute_18 : decode cX3_execute 18 = .ok (.invokespecial 79, 3) := by decide +kernel
theorem dX3_execute_21 : decode cX3_execute 21 = .ok (.athrow, 1) := by decide +kernel
theorem dX3_execute_22 : decode cX3_execute 22 = .ok (.aload_n 0, 1) := by decide +kernel
theorem dX3_execute_23 : decode cX3_execute 23 = .ok (.invokevirtual 175, 3) := by decide +kernel
theorem dX3_execute_26 : decode cX3_execute 26 = .ok (.ireturn, 1) := by decide +kernel
theorem dX3_made_0 : decode cX3_made 0 = .ok (.aload_n 0, 1) := by decide +kernel
theorem dX3_made_1 : decode cX3_made 1 = .ok (.getfield 179, 3) := by decide +kernel
theorem dX3_made_4 : decode cX3_made 4 = .ok (.ireturn, 1) := by decide +kernel
theorem dX3_trace_0 : decode cX3_trace 0 = .ok (.iload_n 1, 1) := by decide +kernel
theorem dX3_trace_1 : decode cX3_trace 1 = .ok (.ifCond .lt 11, 3) := by decide +kernel
theorem dX3_trace_4 : decode cX3_trace 4 = .ok (.iload_n 1, 1) := by decide +kernel
theorem dX3_trace_5 : decode cX3_trace 5 = .ok (.aload_n 0, 1) := by decide +kernel
theorem dX3_trace_6 : decode cX3_trace 6 = .ok (.getfield 179, 3) := by decide +kernel
theorem dX3_trace_9 : decode cX3_trace 9 = .ok (.if_icmp .lt 13, 3) := by decide +kernel
theorem dX3_trace_12 : decode cX3_trace 12 = .ok (.new 144, 3) := by decide +kernel
theorem dX3_trace_15 : decode cX3_trace 15 = .ok (.dup, 1) := by decide +kernel
theorem dX3_trace_16 : decode cX3_trace 16 = .ok (.ldc 182, 2) := by decide +kernel
theorem dX3_trace_18 : decode cX3_trace 18 = .ok (.invokespecial 148, 3) := by decide +kernel
theorem dX3_trace_21 : decode cX3_trace 21 = .ok (.athrow, 1) := by decide +kernel
theorem dX3_trace_22 : decode cX3_trace 22 = .ok (.aload_n 0, 1) := by decide +kernel
theorem dX3_trace_23 : decode cX3_trace 23 = .ok (.getfield 29, 3) := by decide +kernel
theorem dX3_trace_26 : decode cX3_trace 26 = .ok (.iload_n 1, 1) := by decide +kernel
theorem dX3_trace_27 : decode cX3_trace 27 = .ok (.iaload, 1) := by decide +kernel
theorem dX3_trace_28 : decode cX3_trace 28 = .ok (.ireturn, 1) := by decide +kernel
set_option maxRecDepth 20000 in
theorem ggX3_twins_X1_open : GoodIn wsX3_twins wsX1_open := goodIn_r _ [9, 10, 11, 12, 55, 56, 57] (by decide +kernel) (by decide +kernel)
set_option maxRecDepth 20000 in
theorem gX3_twins_X1_open : GoodIn wsX3_twins (wsV RX3 184 RX1 yX1_open wsX1_open) := goodIn_app (goodIn_of _ (by decide +kernel)) ggX3_twins_X1_open
set_option maxRecDepth 20000 in
theorem ggX3_twins_X3_look : GoodIn wsX3_twins wsX3_look := goodIn_r _ [17, 18, 3, 19, 20, 21, 22, 23, 24, 25, 26, 27, 28, 8, 29, 11, 12, 30, 31, 32, 33, 34, 35, 16, 36, 37, 38, 39, 40, 41, 13, 14, 15, 46, 47, 48, 49, 50, 51, 52, 53, 54, 58, 59, 60, 61, 62, 55, 56, 57] (by decide +kernel) (by decide +kernel)
set_option maxRecDepth 20000 in
theorem gX3_twins_X3_look : GoodIn wsX3_twins (wsV RX3 187 RX3 yX3_look wsX3_look) := goodIn_app (goodIn_of _ (by decide +kernel)) ggX3_twins_X3_look
set_option maxRecDepth 20000 in
theorem ggX3_twins_X1_firstAlike : GoodIn wsX3_twins wsX1_firstAlike := goodIn_r _ [45, 10, 12, 35, 16, 36, 55, 56, 57] (by decide +kernel) (by decide +kernel)
set_option maxRecDepth 20000 in
theorem gX3_twins_X1_firstAlike : GoodIn wsX3_twins (wsV RX3 190 RX1 yX1_firstAlike wsX1_firstAlike) := goodIn_app (goodIn_of _ (by decide +kernel)) ggX3_twins_X1_firstAlike
theorem dX3_twins_0 : decode cX3_twins 0 = .ok (.aload_n 0, 1) := by decide +kernel
theorem dX3_twins_1 : decode cX3_twins 1 = .ok (.getfield 25, 3) := by decide +kernel
theorem dX3_twins_4 : decode cX3_twins 4 = .ok (.aload_n 0, 1) := by decide +kernel
theorem dX3_twins_5 : decode cX3_twins 5 = .ok (.getfield 89, 3) := by decide +kernel
theorem dX3_twins_8 : decode cX3_twins 8 = .ok (.invokevirtual 184, 3) := by decide +kernel
theorem dX3_twins_11 : decode cX3_twins 11 = .ok (.aload_n 0, 1) := by decide +kernel
theorem dX3_twins_12 : decode cX3_twins 12 = .ok (.aload_n 0, 1) := by decide +kernel
theorem dX3_twins_13 : decode cX3_twins 13 = .ok (.getfield 89, 3) := by decide +kernel
theorem dX3_twins_16 : decode cX3_twins 16 = .ok (.iconst 0, 1) := by decide +kernel
theorem dX3_twins_17 : decode cX3_twins 17 = .ok (.invokevirtual 187, 3) := by decide +kernel
theorem dX3_twins_20 : decode cX3_twins 20 = .ok (.aload_n 0, 1) := by decide +kernel
theorem dX3_twins_21 : decode cX3_twins 21 = .ok (.getfield 25, 3) := by decide +kernel
theorem dX3_twins_24 : decode cX3_twins 24 = .ok (.invokevirtual 190, 3) := by decide +kernel
theorem dX3_twins_27 : decode cX3_twins 27 = .ok (.istore_n 1, 1) := by decide +kernel
theorem dX3_twins_28 : decode cX3_twins 28 = .ok (.iload_n 1, 1) := by decide +kernel
theorem dX3_twins_29 : decode cX3_twins 29 = .ok (.iconst (-1), 1) := by decide +kernel
theorem dX3_twins_30 : decode cX3_twins 30 = .ok (.if_icmp .ne 13, 3) := by decide +kernel
theorem dX3_twins_33 : decode cX3_twins 33 = .ok (.new 194, 3) := by decide +kernel
theorem dX3_twins_36 : decode cX3_twins 36 = .ok (.dup, 1) := by decide +kernel
theorem dX3_twins_37 : decode cX3_twins 37 = .ok (.ldc 196, 2) := by decide +kernel
theorem dX3_twins_39 : decode cX3_twins 39 = .ok (.invokespecial 198, 3) := by decide +kernel
theorem dX3_twins_42 : decode cX3_twins 42 = .ok (.athrow, 1) := by decide +kernel
theorem dX3_twins_43 : decode cX3_twins 43 = .ok (.iload_n 1, 1) := by decide +kernel
theorem dX3_twins_44 : decode cX3_twins 44 = .ok (.ireturn, 1) := by decide +kernel
set_option maxRecDepth 20000 in
theorem ggX3_forgetAll_X2_empty : GoodIn wsX3_forgetAll wsX2_empty := goodIn_r _ [13, 14, 29, 30] (by decide +kernel) (by decide +kernel)
set_option maxRecDepth 20000 in
theorem gX3_forgetAll_X2_empty : GoodIn wsX3_forgetAll (wsV RX3 132 RX2 yX2_empty wsX2_empty) := goodIn_app (goodIn_of _ (by decide +kernel)) ggX3_forgetAll_X2_empty
theorem dX3_forgetAll_0 : decode cX3_forgetAll 0 = .ok (.iconst 0, 1) := by decide +kernel
theorem dX3_forgetAll_1 : decode cX3_forgetAll 1 = .ok (.istore_n 1, 1) := by decide +kernel
theorem dX3_forgetAll_2 : decode cX3_forgetAll 2 = .ok (.iload_n 1, 1) := by decide +kernel
theorem dX3_forgetAll_3 : decode cX3_forgetAll 3 = .ok (.bipush 8, 2) := by decide +kernel
theorem dX3_forgetAll_5 : decode cX3_forgetAll 5 = .ok (.if_icmp .ge 19, 3) := by decide +kernel
theorem dX3_forgetAll_8 : decode cX3_forgetAll 8 = .ok (.aload_n 0, 1) := by decide +kernel
theorem dX3_forgetAll_9 : decode cX3_forgetAll 9 = .ok (.getfield 11, 3) := by decide +kernel
theorem dX3_forgetAll_12 : decode cX3_forgetAll 12 = .ok (.iload_n 1, 1) := by decide +kernel
theorem dX3_forgetAll_13 : decode cX3_forgetAll 13 = .ok (.aaload, 1) := by decide +kernel
theorem dX3_forgetAll_14 : decode cX3_forgetAll 14 = .ok (.iconst 0, 1) := by decide +kernel
theorem dX3_forgetAll_15 : decode cX3_forgetAll 15 = .ok (.putfield 37, 3) := by decide +kernel
theorem dX3_forgetAll_18 : decode cX3_forgetAll 18 = .ok (.iinc 1 1, 3) := by decide +kernel
theorem dX3_forgetAll_21 : decode cX3_forgetAll 21 = .ok (.goto (-19), 3) := by decide +kernel
theorem dX3_forgetAll_24 : decode cX3_forgetAll 24 = .ok (.aload_n 0, 1) := by decide +kernel
theorem dX3_forgetAll_25 : decode cX3_forgetAll 25 = .ok (.getfield 18, 3) := by decide +kernel
theorem dX3_forgetAll_28 : decode cX3_forgetAll 28 = .ok (.invokevirtual 132, 3) := by decide +kernel
theorem dX3_forgetAll_31 : decode cX3_forgetAll 31 = .ok (.aload_n 0, 1) := by decide +kernel
theorem dX3_forgetAll_32 : decode cX3_forgetAll 32 = .ok (.iconst 0, 1) := by decide +kernel
theorem dX3_forgetAll_33 : decode cX3_forgetAll 33 = .ok (.putfield 84, 3) := by decide +kernel
theorem dX3_forgetAll_36 : decode cX3_forgetAll 36 = .ok (.aload_n 0, 1) := by decide +kernel
theorem dX3_forgetAll_37 : decode cX3_forgetAll 37 = .ok (.ldc 104, 2) := by decide +kernel
theorem dX3_forgetAll_39 : decode cX3_forgetAll 39 = .ok (.putfield 89, 3) := by decide +kernel
theorem dX3_forgetAll_42 : decode cX3_forgetAll 42 = .ok (.aload_n 0, 1) := by decide +kernel
theorem dX3_forgetAll_43 : decode cX3_forgetAll 43 = .ok (.ldc 104, 2) := by decide +kernel
theorem dX3_forgetAll_45 : decode cX3_forgetAll 45 = .ok (.putfield 95, 3) := by decide +kernel
theorem dX3_forgetAll_48 : decode cX3_forgetAll 48 = .ok (.aload_n 0, 1) := by decide +kernel
theorem dX3_forgetAll_49 : decode cX3_forgetAll 49 = .ok (.iconst (-1), 1) := by decide +kernel
theorem dX3_forgetAll_50 : decode cX3_forgetAll 50 = .ok (.putfield 166, 3) := by decide +kernel
theorem dX3_forgetAll_53 : decode cX3_forgetAll 53 = .ok (.aload_n 0, 1) := by decide +kernel
theorem dX3_forgetAll_54 : decode cX3_forgetAll 54 = .ok (.iconst 0, 1) := by decide +kernel
theorem dX3_forgetAll_55 : decode cX3_forgetAll 55 = .ok (.putfield 179, 3) := by decide +kernel
theorem dX3_forgetAll_58 : decode cX3_forgetAll 58 = .ok (.return_, 1) := by decide +kernel
theorem dX3_needNumber_0 : decode cX3_needNumber 0 = .ok (.iload_n 0, 1) := by decide +kernel
theorem dX3_needNumber_1 : decode cX3_needNumber 1 = .ok (.ifCond .lt 9, 3) := by decide +kernel
theorem dX3_needNumber_4 : decode cX3_needNumber 4 = .ok (.iload_n 0, 1) := by decide +kernel
theorem dX3_needNumber_5 : decode cX3_needNumber 5 = .ok (.bipush 8, 2) := by decide +kernel
theorem dX3_needNumber_7 : decode cX3_needNumber 7 = .ok (.if_icmp .lt 13, 3) := by decide +kernel
theorem dX3_needNumber_10 : decode cX3_needNumber 10 = .ok (.new 144, 3) := by decide +kernel
theorem dX3_needNumber_13 : decode cX3_needNumber 13 = .ok (.dup, 1) := by decide +kernel
theorem dX3_needNumber_14 : decode cX3_needNumber 14 = .ok (.ldc 199, 2) := by decide +kernel
theorem dX3_needNumber_16 : decode cX3_needNumber 16 = .ok (.invokespecial 148, 3) := by decide +kernel
theorem dX3_needNumber_19 : decode cX3_needNumber 19 = .ok (.athrow, 1) := by decide +kernel
theorem dX3_needNumber_20 : decode cX3_needNumber 20 = .ok (.return_, 1) := by decide +kernel
theorem dX3_needThere_0 : decode cX3_needThere 0 = .ok (.aload_n 0, 1) := by decide +kernel
theorem dX3_needThere_1 : decode cX3_needThere 1 = .ok (.getfield 11, 3) := by decide +kernel
theorem dX3_needThere_4 : decode cX3_needThere 4 = .ok (.iload_n 1, 1) := by decide +kernel
theorem dX3_needThere_5 : decode cX3_needThere 5 = .ok (.aaload, 1) := by decide +kernel
theorem dX3_needThere_6 : decode cX3_needThere 6 = .ok (.getfield 37, 3) := by decide +kernel
theorem dX3_needThere_9 : decode cX3_needThere 9 = .ok (.ifCond .ne 13, 3) := by decide +kernel
theorem dX3_needThere_12 : decode cX3_needThere 12 = .ok (.new 194, 3) := by decide +kernel
theorem dX3_needThere_15 : decode cX3_needThere 15 = .ok (.dup, 1) := by decide +kernel
theorem dX3_needThere_16 : decode cX3_needThere 16 = .ok (.ldc 201, 2) := by decide +kernel
theorem dX3_needThere_18 : decode cX3_needThere 18 = .ok (.invokespecial 198, 3) := by decide +kernel
theorem dX3_needThere_21 : decode cX3_needThere 21 = .ok (.athrow, 1) := by decide +kernel
theorem dX3_needThere_22 : decode cX3_needThere 22 = .ok (.return_, 1) := by decide +kernel
theorem dX3_needBits_0 : decode cX3_needBits 0 = .ok (.iload_n 0, 1) := by decide +kernel
theorem dX3_needBits_1 : decode cX3_needBits 1 = .ok (.ifCond .lt 19, 3) := by decide +kernel
theorem dX3_needBits_4 : decode cX3_needBits 4 = .ok (.iload_n 0, 1) := by decide +kernel
theorem dX3_needBits_5 : decode cX3_needBits 5 = .ok (.bipush 15, 2) := by decide +kernel
theorem dX3_needBits_7 : decode cX3_needBits 7 = .ok (.if_icmp .gt 13, 3) := by decide +kernel
theorem dX3_needBits_10 : decode cX3_needBits 10 = .ok (.iload_n 1, 1) := by decide +kernel
theorem dX3_needBits_11 : decode cX3_needBits 11 = .ok (.ifCond .lt 9, 3) := by decide +kernel
theorem dX3_needBits_14 : decode cX3_needBits 14 = .ok (.iload_n 1, 1) := by decide +kernel
theorem dX3_needBits_15 : decode cX3_needBits 15 = .ok (.bipush 15, 2) := by decide +kernel
theorem dX3_needBits_17 : decode cX3_needBits 17 = .ok (.if_icmp .le 13, 3) := by decide +kernel
theorem dX3_needBits_20 : decode cX3_needBits 20 = .ok (.new 49, 3) := by decide +kernel
theorem dX3_needBits_23 : decode cX3_needBits 23 = .ok (.dup, 1) := by decide +kernel
theorem dX3_needBits_24 : decode cX3_needBits 24 = .ok (.ldc 203, 2) := by decide +kernel
theorem dX3_needBits_26 : decode cX3_needBits 26 = .ok (.invokespecial 53, 3) := by decide +kernel
theorem dX3_needBits_29 : decode cX3_needBits 29 = .ok (.athrow, 1) := by decide +kernel
theorem dX3_needBits_30 : decode cX3_needBits 30 = .ok (.return_, 1) := by decide +kernel
theorem dX3_needDepth_0 : decode cX3_needDepth 0 = .ok (.iload_n 0, 1) := by decide +kernel
theorem dX3_needDepth_1 : decode cX3_needDepth 1 = .ok (.ifCond .lt 8, 3) := by decide +kernel
theorem dX3_needDepth_4 : decode cX3_needDepth 4 = .ok (.iload_n 0, 1) := by decide +kernel
theorem dX3_needDepth_5 : decode cX3_needDepth 5 = .ok (.iconst 4, 1) := by decide +kernel
theorem dX3_needDepth_6 : decode cX3_needDepth 6 = .ok (.if_icmp .le 13, 3) := by decide +kernel
theorem dX3_needDepth_9 : decode cX3_needDepth 9 = .ok (.new 49, 3) := by decide +kernel
theorem dX3_needDepth_12 : decode cX3_needDepth 12 = .ok (.dup, 1) := by decide +kernel
theorem dX3_needDepth_13 : decode cX3_needDepth 13 = .ok (.ldc 205, 2) := by decide +kernel
theorem dX3_needDepth_15 : decode cX3_needDepth 15 = .ok (.invokespecial 53, 3) := by decide +kernel
theorem dX3_needDepth_18 : decode cX3_needDepth 18 = .ok (.athrow, 1) := by decide +kernel
theorem dX3_needDepth_19 : decode cX3_needDepth 19 = .ok (.return_, 1) := by decide +kernel
theorem dX3_needSolved_0 : decode cX3_needSolved 0 = .ok (.iload_n 0, 1) := by decide +kernel
theorem dX3_needSolved_1 : decode cX3_needSolved 1 = .ok (.iconst (-1), 1) := by decide +kernel
theorem dX3_needSolved_2 : decode cX3_needSolved 2 = .ok (.if_icmp .ne 13, 3) := by decide +kernel
theorem dX3_needSolved_5 : decode cX3_needSolved 5 = .ok (.new 194, 3) := by decide +kernel
theorem dX3_needSolved_8 : decode cX3_needSolved 8 = .ok (.dup, 1) := by decide +kernel
theorem dX3_needSolved_9 : decode cX3_needSolved 9 = .ok (.ldc 207, 2) := by decide +kernel
theorem dX3_needSolved_11 : decode cX3_needSolved 11 = .ok (.invokespecial 198, 3) := by decide +kernel
theorem dX3_needSolved_14 : decode cX3_needSolved 14 = .ok (.athrow, 1) := by decide +kernel
theorem dX3_needSolved_15 : decode cX3_needSolved 15 = .ok (.iload_n 0, 1) := by decide +kernel
theorem dX3_needSolved_16 : decode cX3_needSolved 16 = .ok (.ireturn, 1) := by decide +kernel
theorem dX3_needNode_0 : decode cX3_needNode 0 = .ok (.iload_n 1, 1) := by decide +kernel
theorem dX3_needNode_1 : decode cX3_needNode 1 = .ok (.ifCond .lt 14, 3) := by decide +kernel
theorem dX3_needNode_4 : decode cX3_needNode 4 = .ok (.iload_n 1, 1) := by decide +kernel
theorem dX3_needNode_5 : decode cX3_needNode 5 = .ok (.aload_n 0, 1) := by decide +kernel
theorem dX3_needNode_6 : decode cX3_needNode 6 = .ok (.getfield 18, 3) := by decide +kernel
theorem dX3_needNode_9 : decode cX3_needNode 9 = .ok (.getfield 138, 3) := by decide +kernel
theorem dX3_needNode_12 : decode cX3_needNode 12 = .ok (.if_icmp .lt 13, 3) := by decide +kernel
theorem dX3_needNode_15 : decode cX3_needNode 15 = .ok (.new 144, 3) := by decide +kernel
theorem dX3_needNode_18 : decode cX3_needNode 18 = .ok (.dup, 1) := by decide +kernel
theorem dX3_needNode_19 : decode cX3_needNode 19 = .ok (.ldc 209, 2) := by decide +kernel
theorem dX3_needNode_21 : decode cX3_needNode 21 = .ok (.invokespecial 148, 3) := by decide +kernel
theorem dX3_needNode_24 : decode cX3_needNode 24 = .ok (.athrow, 1) := by decide +kernel
theorem dX3_needNode_25 : decode cX3_needNode 25 = .ok (.return_, 1) := by decide +kernel
theorem dX3_needPlan_0 : decode cX3_needPlan 0 = .ok (.aload_n 0, 1) := by decide +kernel
theorem dX3_needPlan_1 : decode cX3_needPlan 1 = .ok (.getfield 18, 3) := by decide +kernel
theorem dX3_needPlan_4 : decode cX3_needPlan 4 = .ok (.getfield 138, 3) := by decide +kernel
theorem dX3_needPlan_7 : decode cX3_needPlan 7 = .ok (.ifCond .ne 13, 3) := by decide +kernel
theorem dX3_needPlan_10 : decode cX3_needPlan 10 = .ok (.new 75, 3) := by decide +kernel
theorem dX3_needPlan_13 : decode cX3_needPlan 13 = .ok (.dup, 1) := by decide +kernel
theorem dX3_needPlan_14 : decode cX3_needPlan 14 = .ok (.ldc 211, 2) := by decide +kernel
theorem dX3_needPlan_16 : decode cX3_needPlan 16 = .ok (.invokespecial 79, 3) := by decide +kernel
theorem dX3_needPlan_19 : decode cX3_needPlan 19 = .ok (.athrow, 1) := by decide +kernel
theorem dX3_needPlan_20 : decode cX3_needPlan 20 = .ok (.return_, 1) := by decide +kernel
theorem dX3_isIn_0 : decode cX3_isIn 0 = .ok (.iload_n 1, 1) := by decide +kernel
theorem dX3_isIn_1 : decode cX3_isIn 1 = .ok (.iload_n 0, 1) := by decide +kernel
theorem dX3_isIn_2 : decode cX3_isIn 2 = .ok (.ishr, 1) := by decide +kernel
theorem dX3_isIn_3 : decode cX3_isIn 3 = .ok (.iconst 1, 1) := by decide +kernel
theorem dX3_isIn_4 : decode cX3_isIn 4 = .ok (.iand, 1) := by decide +kernel
theorem dX3_isIn_5 : decode cX3_isIn 5 = .ok (.ifCond .eq 7, 3) := by decide +kernel
theorem dX3_isIn_8 : decode cX3_isIn 8 = .ok (.iconst 1, 1) := by decide +kernel
theorem dX3_isIn_9 : decode cX3_isIn 9 = .ok (.goto 4, 3) := by decide +kernel
theorem dX3_isIn_12 : decode cX3_isIn 12 = .ok (.iconst 0, 1) := by decide +kernel
theorem dX3_isIn_13 : decode cX3_isIn 13 = .ok (.ireturn, 1) := by decide +kernel
theorem dX3_demanded_0 : decode cX3_demanded 0 = .ok (.iconst 0, 1) := by decide +kernel
theorem dX3_demanded_1 : decode cX3_demanded 1 = .ok (.istore_n 2, 1) := by decide +kernel
theorem dX3_demanded_2 : decode cX3_demanded 2 = .ok (.iconst 0, 1) := by decide +kernel
theorem dX3_demanded_3 : decode cX3_demanded 3 = .ok (.istore_n 3, 1) := by decide +kernel
theorem dX3_demanded_4 : decode cX3_demanded 4 = .ok (.iload_n 3, 1) := by decide +kernel
theorem dX3_demanded_5 : decode cX3_demanded 5 = .ok (.bipush 16, 2) := by decide +kernel
theorem dX3_demanded_7 : decode cX3_demanded 7 = .ok (.if_icmp .ge 24, 3) := by decide +kernel
theorem dX3_demanded_10 : decode cX3_demanded 10 = .ok (.iload_n 3, 1) := by decide +kernel
theorem dX3_demanded_11 : decode cX3_demanded 11 = .ok (.iload_n 0, 1) := by decide +kernel
theorem dX3_demanded_12 : decode cX3_demanded 12 = .ok (.iand, 1) := by decide +kernel
theorem dX3_demanded_13 : decode cX3_demanded 13 = .ok (.iload_n 1, 1) := by decide +kernel
theorem dX3_demanded_14 : decode cX3_demanded 14 = .ok (.iload_n 0, 1) := by decide +kernel
theorem dX3_demanded_15 : decode cX3_demanded 15 = .ok (.iand, 1) := by decide +kernel
theorem dX3_demanded_16 : decode cX3_demanded 16 = .ok (.if_icmp .ne 9, 3) := by decide +kernel
theorem dX3_demanded_19 : decode cX3_demanded 19 = .ok (.iload_n 2, 1) := by decide +kernel
theorem dX3_demanded_20 : decode cX3_demanded 20 = .ok (.iconst 1, 1) := by decide +kernel
theorem dX3_demanded_21 : decode cX3_demanded 21 = .ok (.iload_n 3, 1) := by decide +kernel
theorem dX3_demanded_22 : decode cX3_demanded 22 = .ok (.ishl, 1) := by decide +kernel
theorem dX3_demanded_23 : decode cX3_demanded 23 = .ok (.ior, 1) := by decide +kernel
theorem dX3_demanded_24 : decode cX3_demanded 24 = .ok (.istore_n 2, 1) := by decide +kernel
theorem dX3_demanded_25 : decode cX3_demanded 25 = .ok (.iinc 3 1, 3) := by decide +kernel
theorem dX3_demanded_28 : decode cX3_demanded 28 = .ok (.goto (-24), 3) := by decide +kernel
theorem dX3_demanded_31 : decode cX3_demanded 31 = .ok (.iload_n 2, 1) := by decide +kernel
theorem dX3_demanded_32 : decode cX3_demanded 32 = .ok (.ireturn, 1) := by decide +kernel
theorem dX3_allowed_0 : decode cX3_allowed 0 = .ok (.iconst 0, 1) := by decide +kernel
theorem dX3_allowed_1 : decode cX3_allowed 1 = .ok (.istore_n 2, 1) := by decide +kernel
theorem dX3_allowed_2 : decode cX3_allowed 2 = .ok (.iconst 0, 1) := by decide +kernel
theorem dX3_allowed_3 : decode cX3_allowed 3 = .ok (.istore_n 3, 1) := by decide +kernel
theorem dX3_allowed_4 : decode cX3_allowed 4 = .ok (.iload_n 3, 1) := by decide +kernel
theorem dX3_allowed_5 : decode cX3_allowed 5 = .ok (.bipush 16, 2) := by decide +kernel
theorem dX3_allowed_7 : decode cX3_allowed 7 = .ok (.if_icmp .ge 29, 3) := by decide +kernel
theorem dX3_allowed_10 : decode cX3_allowed 10 = .ok (.iload_n 3, 1) := by decide +kernel
theorem dX3_allowed_11 : decode cX3_allowed 11 = .ok (.iload_n 0, 1) := by decide +kernel
theorem dX3_allowed_12 : decode cX3_allowed 12 = .ok (.iand, 1) := by decide +kernel
theorem dX3_allowed_13 : decode cX3_allowed 13 = .ok (.ifCond .ne 11, 3) := by decide +kernel
theorem dX3_allowed_16 : decode cX3_allowed 16 = .ok (.iload_n 3, 1) := by decide +kernel
theorem dX3_allowed_17 : decode cX3_allowed 17 = .ok (.iconst (-1), 1) := by decide +kernel
theorem dX3_allowed_18 : decode cX3_allowed 18 = .ok (.ixor, 1) := by decide +kernel
theorem dX3_allowed_19 : decode cX3_allowed 19 = .ok (.iload_n 1, 1) := by decide +kernel
theorem dX3_allowed_20 : decode cX3_allowed 20 = .ok (.iand, 1) := by decide +kernel
theorem dX3_allowed_21 : decode cX3_allowed 21 = .ok (.ifCond .eq 9, 3) := by decide +kernel
theorem dX3_allowed_24 : decode cX3_allowed 24 = .ok (.iload_n 2, 1) := by decide +kernel
theorem dX3_allowed_25 : decode cX3_allowed 25 = .ok (.iconst 1, 1) := by decide +kernel
theorem dX3_allowed_26 : decode cX3_allowed 26 = .ok (.iload_n 3, 1) := by decide +kernel
theorem dX3_allowed_27 : decode cX3_allowed 27 = .ok (.ishl, 1) := by decide +kernel
theorem dX3_allowed_28 : decode cX3_allowed 28 = .ok (.ior, 1) := by decide +kernel
theorem dX3_allowed_29 : decode cX3_allowed 29 = .ok (.istore_n 2, 1) := by decide +kernel
theorem dX3_allowed_30 : decode cX3_allowed 30 = .ok (.iinc 3 1, 3) := by decide +kernel
theorem dX3_allowed_33 : decode cX3_allowed 33 = .ok (.goto (-29), 3) := by decide +kernel
theorem dX3_allowed_36 : decode cX3_allowed 36 = .ok (.iload_n 2, 1) := by decide +kernel
theorem dX3_allowed_37 : decode cX3_allowed 37 = .ok (.ireturn, 1) := by decide +kernel
set_option maxRecDepth 20000 in
theorem ggX3_fewest_X3_solved : GoodIn wsX3_fewest wsX3_solved := goodIn_r _ [5, 6, 7, 8, 4, 9, 10, 11, 12, 13, 14, 15, 16, 17, 18, 19, 20, 21, 22, 23, 24, 25, 26, 27, 28, 29, 30, 31, 32, 33, 34, 35, 36, 37, 38, 1, 2, 3, 39, 40, 41, 42, 43, 44, 45, 46, 47, 48, 49, 50, 51, 52] (by decide +kernel) (by decide +kernel)
set_option maxRecDepth 20000 in
theorem gX3_fewest_X3_solved : GoodIn wsX3_fewest (wsV RX3 213 RX3 yX3_solved wsX3_solved) := goodIn_app (goodIn_of _ (by decide +kernel)) ggX3_fewest_X3_solved
theorem dX3_fewest_0 : decode cX3_fewest 0 = .ok (.iconst 0, 1) := by decide +kernel
theorem dX3_fewest_1 : decode cX3_fewest 1 = .ok (.istore_n 3, 1) := by decide +kernel
theorem dX3_fewest_2 : decode cX3_fewest 2 = .ok (.iload_n 3, 1) := by decide +kernel
theorem dX3_fewest_3 : decode cX3_fewest 3 = .ok (.iload_n 2, 1) := by decide +kernel
theorem dX3_fewest_4 : decode cX3_fewest 4 = .ok (.if_icmp .gt 20, 3) := by decide +kernel
theorem dX3_fewest_7 : decode cX3_fewest 7 = .ok (.aload_n 0, 1) := by decide +kernel
theorem dX3_fewest_8 : decode cX3_fewest 8 = .ok (.iload_n 1, 1) := by decide +kernel
theorem dX3_fewest_9 : decode cX3_fewest 9 = .ok (.iload_n 3, 1) := by decide +kernel
theorem dX3_fewest_10 : decode cX3_fewest 10 = .ok (.invokevirtual 213, 3) := by decide +kernel
theorem dX3_fewest_13 : decode cX3_fewest 13 = .ok (.ifCond .eq 5, 3) := by decide +kernel
theorem dX3_fewest_16 : decode cX3_fewest 16 = .ok (.iload_n 3, 1) := by decide +kernel
theorem dX3_fewest_17 : decode cX3_fewest 17 = .ok (.ireturn, 1) := by decide +kernel
theorem dX3_fewest_18 : decode cX3_fewest 18 = .ok (.iinc 3 1, 3) := by decide +kernel
theorem dX3_fewest_21 : decode cX3_fewest 21 = .ok (.goto (-19), 3) := by decide +kernel
theorem dX3_fewest_24 : decode cX3_fewest 24 = .ok (.iconst (-1), 1) := by decide +kernel
theorem dX3_fewest_25 : decode cX3_fewest 25 = .ok (.ireturn, 1) := by decide +kernel
set_option maxRecDepth 20000 in
theorem ggX3_solved_X3_reached : GoodIn wsX3_solved wsX3_reached := goodIn_r _ [5, 6, 38, 39, 40, 41, 42, 43, 44, 45, 46] (by decide +kernel) (by decide +kernel)
set_option maxRecDepth 20000 in
theorem gX3_solved_X3_reached : GoodIn wsX3_solved (wsV RX3 216 RX3 yX3_reached wsX3_reached) := goodIn_app (goodIn_of _ (by decide +kernel)) ggX3_solved_X3_reached
set_option maxRecDepth 20000 in
theorem ggX3_solved_X3_leastAction : GoodIn wsX3_solved wsX3_leastAction := goodIn_r _ [10, 11, 12, 13, 14, 15, 16, 17, 18, 19, 20, 21, 4, 0, 1, 2, 3, 5, 6, 7, 8, 9, 22, 23, 24, 25, 26, 27, 28, 29, 30, 31, 32, 33, 34, 35, 36, 37, 38, 39, 40, 41, 42, 43, 44, 45, 46, 47, 48, 49, 50, 51] (by decide +kernel) (by decide +kernel)
set_option maxRecDepth 20000 in
theorem gX3_solved_X3_leastAction : GoodIn wsX3_solved (wsV RX3 219 RX3 yX3_leastAction wsX3_leastAction) := goodIn_app (goodIn_of _ (by decide +kernel)) ggX3_solved_X3_leastAction
theorem dX3_solved_0 : decode cX3_solved 0 = .ok (.aload_n 0, 1) := by decide +kernel
theorem dX3_solved_1 : decode cX3_solved 1 = .ok (.iload_n 1, 1) := by decide +kernel
theorem dX3_solved_2 : decode cX3_solved 2 = .ok (.invokevirtual 216, 3) := by decide +kernel
theorem dX3_solved_5 : decode cX3_solved 5 = .ok (.ifCond .ne 13, 3) := by decide +kernel
theorem dX3_solved_8 : decode cX3_solved 8 = .ok (.aload_n 0, 1) := by decide +kernel
theorem dX3_solved_9 : decode cX3_solved 9 = .ok (.iload_n 1, 1) := by decide +kernel
theorem dX3_solved_10 : decode cX3_solved 10 = .ok (.iload_n 2, 1) := by decide +kernel
theorem dX3_solved_11 : decode cX3_solved 11 = .ok (.invokevirtual 219, 3) := by decide +kernel
theorem dX3_solved_14 : decode cX3_solved 14 = .ok (.iconst (-1), 1) := by decide +kernel
theorem dX3_solved_15 : decode cX3_solved 15 = .ok (.if_icmp .eq 7, 3) := by decide +kernel
theorem dX3_solved_18 : decode cX3_solved 18 = .ok (.iconst 1, 1) := by decide +kernel
theorem dX3_solved_19 : decode cX3_solved 19 = .ok (.goto 4, 3) := by decide +kernel
theorem dX3_solved_22 : decode cX3_solved 22 = .ok (.iconst 0, 1) := by decide +kernel
theorem dX3_solved_23 : decode cX3_solved 23 = .ok (.ireturn, 1) := by decide +kernel
theorem dX3_reached_0 : decode cX3_reached 0 = .ok (.iload_n 1, 1) := by decide +kernel
theorem dX3_reached_1 : decode cX3_reached 1 = .ok (.aload_n 0, 1) := by decide +kernel
theorem dX3_reached_2 : decode cX3_reached 2 = .ok (.getfield 95, 3) := by decide +kernel
theorem dX3_reached_5 : decode cX3_reached 5 = .ok (.iconst (-1), 1) := by decide +kernel
theorem dX3_reached_6 : decode cX3_reached 6 = .ok (.ixor, 1) := by decide +kernel
theorem dX3_reached_7 : decode cX3_reached 7 = .ok (.iand, 1) := by decide +kernel
theorem dX3_reached_8 : decode cX3_reached 8 = .ok (.ifCond .ne 7, 3) := by decide +kernel
theorem dX3_reached_11 : decode cX3_reached 11 = .ok (.iconst 1, 1) := by decide +kernel
theorem dX3_reached_12 : decode cX3_reached 12 = .ok (.goto 4, 3) := by decide +kernel
theorem dX3_reached_15 : decode cX3_reached 15 = .ok (.iconst 0, 1) := by decide +kernel
theorem dX3_reached_16 : decode cX3_reached 16 = .ok (.ireturn, 1) := by decide +kernel
set_option maxRecDepth 20000 in
theorem ggX3_leastAction_X0_usable : GoodIn wsX3_leastAction wsX0_usable := goodIn_r _ [6, 7, 8, 47, 48, 49, 50, 51] (by decide +kernel) (by decide +kernel)
set_option maxRecDepth 20000 in
theorem gX3_leastAction_X0_usable : GoodIn wsX3_leastAction (wsV RX3 107 RX0 yX0_usable wsX0_usable) := goodIn_app (goodIn_of _ (by decide +kernel)) ggX3_leastAction_X0_usable
set_option maxRecDepth 20000 in
theorem ggX3_leastAction_X3_solves : GoodIn wsX3_leastAction wsX3_solves := goodIn_r _ [22, 23, 24, 25, 5, 26, 27, 28, 12, 29, 30, 31, 32, 33, 34, 35, 36, 37, 0, 1, 2, 3, 4, 6, 7, 8, 9, 10, 11, 13, 14, 15, 16, 17, 18, 19, 20, 21, 38, 39, 40, 41, 42, 43, 44, 45, 46, 47, 48, 49, 50, 51] (by decide +kernel) (by decide +kernel)
set_option maxRecDepth 20000 in
theorem gX3_leastAction_X3_solves : GoodIn wsX3_leastAction (wsV RX3 222 RX3 yX3_solves wsX3_solves) := goodIn_app (goodIn_of _ (by decide +kernel)) ggX3_leastAction_X3_solves
theorem dX3_leastAction_0 : decode cX3_leastAction 0 = .ok (.iload_n 2, 1) := by decide +kernel
theorem dX3_leastAction_1 : decode cX3_leastAction 1 = .ok (.ifCond .gt 5, 3) := by decide +kernel
theorem dX3_leastAction_4 : decode cX3_leastAction 4 = .ok (.iconst (-1), 1) := by decide +kernel
theorem dX3_leastAction_5 : decode cX3_leastAction 5 = .ok (.ireturn, 1) := by decide +kernel
theorem dX3_leastAction_6 : decode cX3_leastAction 6 = .ok (.iconst 0, 1) := by decide +kernel
theorem dX3_leastAction_7 : decode cX3_leastAction 7 = .ok (.istore_n 3, 1) := by decide +kernel
theorem dX3_leastAction_8 : decode cX3_leastAction 8 = .ok (.iload_n 3, 1) := by decide +kernel
theorem dX3_leastAction_9 : decode cX3_leastAction 9 = .ok (.bipush 8, 2) := by decide +kernel
theorem dX3_leastAction_11 : decode cX3_leastAction 11 = .ok (.if_icmp .ge 39, 3) := by decide +kernel
theorem dX3_leastAction_14 : decode cX3_leastAction 14 = .ok (.aload_n 0, 1) := by decide +kernel
theorem dX3_leastAction_15 : decode cX3_leastAction 15 = .ok (.getfield 11, 3) := by decide +kernel
theorem dX3_leastAction_18 : decode cX3_leastAction 18 = .ok (.iload_n 3, 1) := by decide +kernel
theorem dX3_leastAction_19 : decode cX3_leastAction 19 = .ok (.aaload, 1) := by decide +kernel
theorem dX3_leastAction_20 : decode cX3_leastAction 20 = .ok (.iload_n 1, 1) := by decide +kernel
theorem dX3_leastAction_21 : decode cX3_leastAction 21 = .ok (.invokevirtual 107, 3) := by decide +kernel
theorem dX3_leastAction_24 : decode cX3_leastAction 24 = .ok (.ifCond .eq 20, 3) := by decide +kernel
theorem dX3_leastAction_27 : decode cX3_leastAction 27 = .ok (.aload_n 0, 1) := by decide +kernel
theorem dX3_leastAction_28 : decode cX3_leastAction 28 = .ok (.aload_n 0, 1) := by decide +kernel
theorem dX3_leastAction_29 : decode cX3_leastAction 29 = .ok (.getfield 11, 3) := by decide +kernel
theorem dX3_leastAction_32 : decode cX3_leastAction 32 = .ok (.iload_n 3, 1) := by decide +kernel
theorem dX3_leastAction_33 : decode cX3_leastAction 33 = .ok (.aaload, 1) := by decide +kernel
theorem dX3_leastAction_34 : decode cX3_leastAction 34 = .ok (.iload_n 1, 1) := by decide +kernel
theorem dX3_leastAction_35 : decode cX3_leastAction 35 = .ok (.iload_n 2, 1) := by decide +kernel
theorem dX3_leastAction_36 : decode cX3_leastAction 36 = .ok (.invokevirtual 222, 3) := by decide +kernel
theorem dX3_leastAction_39 : decode cX3_leastAction 39 = .ok (.ifCond .eq 5, 3) := by decide +kernel
theorem dX3_leastAction_42 : decode cX3_leastAction 42 = .ok (.iload_n 3, 1) := by decide +kernel
theorem dX3_leastAction_43 : decode cX3_leastAction 43 = .ok (.ireturn, 1) := by decide +kernel
theorem dX3_leastAction_44 : decode cX3_leastAction 44 = .ok (.iinc 3 1, 3) := by decide +kernel
theorem dX3_leastAction_47 : decode cX3_leastAction 47 = .ok (.goto (-39), 3) := by decide +kernel
theorem dX3_leastAction_50 : decode cX3_leastAction 50 = .ok (.iconst (-1), 1) := by decide +kernel
theorem dX3_leastAction_51 : decode cX3_leastAction 51 = .ok (.ireturn, 1) := by decide +kernel
set_option maxRecDepth 20000 in
theorem ggX3_solves_X0_after : GoodIn wsX3_solves wsX0_after := goodIn_r _ [5, 6, 7, 8, 9, 47, 48, 49, 50, 51] (by decide +kernel) (by decide +kernel)
set_option maxRecDepth 20000 in
theorem gX3_solves_X0_after : GoodIn wsX3_solves (wsV RX3 116 RX0 yX0_after wsX0_after) := goodIn_app (goodIn_of _ (by decide +kernel)) ggX3_solves_X0_after
set_option maxRecDepth 20000 in
theorem ggX3_solves_X0_part : GoodIn wsX3_solves wsX0_part := goodIn_r _ [13, 14, 47, 48, 49, 50, 51] (by decide +kernel) (by decide +kernel)
set_option maxRecDepth 20000 in
theorem gX3_solves_X0_part : GoodIn wsX3_solves (wsV RX3 226 RX0 yX0_part wsX0_part) := goodIn_app (goodIn_of _ (by decide +kernel)) ggX3_solves_X0_part
set_option maxRecDepth 20000 in
theorem ggX3_solves_X3_solved : GoodIn wsX3_solves wsX3_solved := goodIn_r _ [29, 30, 31, 32, 8, 33, 34, 35, 36, 37, 18, 19, 20, 21, 22, 4, 23, 24, 25, 26, 27, 28, 0, 1, 2, 3, 5, 6, 7, 9, 10, 11, 12, 13, 14, 15, 16, 17, 38, 39, 40, 41, 42, 43, 44, 45, 46, 47, 48, 49, 50, 51] (by decide +kernel) (by decide +kernel)
set_option maxRecDepth 20000 in
theorem gX3_solves_X3_solved : GoodIn wsX3_solves (wsV RX3 213 RX3 yX3_solved wsX3_solved) := goodIn_app (goodIn_of _ (by decide +kernel)) ggX3_solves_X3_solved
theorem dX3_solves_0 : decode cX3_solves 0 = .ok (.aload_n 1, 1) := by decide +kernel
theorem dX3_solves_1 : decode cX3_solves 1 = .ok (.iload_n 2, 1) := by decide +kernel
theorem dX3_solves_2 : decode cX3_solves 2 = .ok (.invokevirtual 116, 3) := by decide +kernel
theorem dX3_solves_5 : decode cX3_solves 5 = .ok (.istore 4, 2) := by decide +kernel
theorem dX3_solves_7 : decode cX3_solves 7 = .ok (.aload_n 0, 1) := by decide +kernel
theorem dX3_solves_8 : decode cX3_solves 8 = .ok (.aload_n 1, 1) := by decide +kernel
theorem dX3_solves_9 : decode cX3_solves 9 = .ok (.iload 4, 2) := by decide +kernel
theorem dX3_solves_11 : decode cX3_solves 11 = .ok (.iconst 0, 1) := by decide +kernel
theorem dX3_solves_12 : decode cX3_solves 12 = .ok (.invokevirtual 226, 3) := by decide +kernel
theorem dX3_solves_15 : decode cX3_solves 15 = .ok (.iload_n 3, 1) := by decide +kernel
theorem dX3_solves_16 : decode cX3_solves 16 = .ok (.iconst 1, 1) := by decide +kernel
theorem dX3_solves_17 : decode cX3_solves 17 = .ok (.isub, 1) := by decide +kernel
theorem dX3_solves_18 : decode cX3_solves 18 = .ok (.invokevirtual 213, 3) := by decide +kernel
theorem dX3_solves_21 : decode cX3_solves 21 = .ok (.ifCond .eq 24, 3) := by decide +kernel
theorem dX3_solves_24 : decode cX3_solves 24 = .ok (.aload_n 0, 1) := by decide +kernel
theorem dX3_solves_25 : decode cX3_solves 25 = .ok (.aload_n 1, 1) := by decide +kernel
theorem dX3_solves_26 : decode cX3_solves 26 = .ok (.iload 4, 2) := by decide +kernel
theorem dX3_solves_28 : decode cX3_solves 28 = .ok (.iconst 1, 1) := by decide +kernel
theorem dX3_solves_29 : decode cX3_solves 29 = .ok (.invokevirtual 226, 3) := by decide +kernel
theorem dX3_solves_32 : decode cX3_solves 32 = .ok (.iload_n 3, 1) := by decide +kernel
theorem dX3_solves_33 : decode cX3_solves 33 = .ok (.iconst 1, 1) := by decide +kernel
theorem dX3_solves_34 : decode cX3_solves 34 = .ok (.isub, 1) := by decide +kernel
theorem dX3_solves_35 : decode cX3_solves 35 = .ok (.invokevirtual 213, 3) := by decide +kernel
theorem dX3_solves_38 : decode cX3_solves 38 = .ok (.ifCond .eq 7, 3) := by decide +kernel
theorem dX3_solves_41 : decode cX3_solves 41 = .ok (.iconst 1, 1) := by decide +kernel
theorem dX3_solves_42 : decode cX3_solves 42 = .ok (.goto 4, 3) := by decide +kernel
theorem dX3_solves_45 : decode cX3_solves 45 = .ok (.iconst 0, 1) := by decide +kernel
theorem dX3_solves_46 : decode cX3_solves 46 = .ok (.ireturn, 1) := by decide +kernel
set_option maxRecDepth 20000 in
theorem ggX3_grow_X2_open : GoodIn wsX3_grow wsX2_open := goodIn_r _ [7, 8, 9, 10, 11, 6, 12, 13, 75, 76] (by decide +kernel) (by decide +kernel)
set_option maxRecDepth 20000 in
theorem gX3_grow_X2_open : GoodIn wsX3_grow (wsV RX3 229 RX2 yX2_open wsX2_open) := goodIn_app (goodIn_of _ (by decide +kernel)) ggX3_grow_X2_open
set_option maxRecDepth 20000 in
theorem ggX3_grow_X3_reached : GoodIn wsX3_grow wsX3_reached := goodIn_r _ [18, 19, 66, 67, 68, 69, 70, 71, 72, 73, 74] (by decide +kernel) (by decide +kernel)
set_option maxRecDepth 20000 in
theorem gX3_grow_X3_reached : GoodIn wsX3_grow (wsV RX3 216 RX3 yX3_reached wsX3_reached) := goodIn_app (goodIn_of _ (by decide +kernel)) ggX3_grow_X3_reached
set_option maxRecDepth 20000 in
theorem ggX3_grow_X3_leastAction : GoodIn wsX3_grow wsX3_leastAction := goodIn_r _ [23, 2, 24, 25, 26, 27, 28, 29, 30, 31, 32, 33, 17, 34, 14, 15, 16, 18, 19, 20, 21, 22, 35, 36, 37, 38, 39, 40, 41, 42, 43, 44, 45, 46, 47, 48, 49, 50, 66, 67, 68, 69, 70, 71, 72, 73, 74, 77, 78, 79, 80, 81] (by decide +kernel) (by decide +kernel)
set_option maxRecDepth 20000 in
theorem gX3_grow_X3_leastAction : GoodIn wsX3_grow (wsV RX3 219 RX3 yX3_leastAction wsX3_leastAction) := goodIn_app (goodIn_of _ (by decide +kernel)) ggX3_grow_X3_leastAction
set_option maxRecDepth 20000 in
theorem ggX3_grow_X2_close : GoodIn wsX3_grow wsX2_close := goodIn_r _ [54, 8, 13, 55, 56, 57, 6, 58, 9, 10, 11, 12, 75, 76] (by decide +kernel) (by decide +kernel)
set_option maxRecDepth 20000 in
theorem gX3_grow_X2_close : GoodIn wsX3_grow (wsV RX3 231 RX2 yX2_close wsX2_close) := goodIn_app (goodIn_of _ (by decide +kernel)) ggX3_grow_X2_close
set_option maxRecDepth 20000 in
theorem ggX3_grow_X0_after : GoodIn wsX3_grow wsX0_after := goodIn_r _ [39, 40, 41, 17, 42, 77, 78, 79, 80, 81] (by decide +kernel) (by decide +kernel)
set_option maxRecDepth 20000 in
theorem gX3_grow_X0_after : GoodIn wsX3_grow (wsV RX3 116 RX0 yX0_after wsX0_after) := goodIn_app (goodIn_of _ (by decide +kernel)) ggX3_grow_X0_after
set_option maxRecDepth 20000 in
theorem ggX3_grow_X0_part : GoodIn wsX3_grow wsX0_part := goodIn_r _ [46, 47, 77, 78, 79, 80, 81] (by decide +kernel) (by decide +kernel)
set_option maxRecDepth 20000 in
theorem gX3_grow_X0_part : GoodIn wsX3_grow (wsV RX3 226 RX0 yX0_part wsX0_part) := goodIn_app (goodIn_of _ (by decide +kernel)) ggX3_grow_X0_part
set_option maxRecDepth 20000 in
theorem ggX3_grow_X3_growPart : GoodIn wsX3_grow wsX3_growPart := goodIn_r _ [62, 63, 64, 65, 17, 0, 1, 2, 3, 4, 5, 6, 7, 8, 9, 10, 11, 12, 13, 14, 15, 16, 18, 19, 20, 21, 22, 23, 24, 25, 26, 27, 28, 29, 30, 31, 32, 33, 34, 35, 36, 37, 38, 39, 40, 41, 42, 43, 44, 45, 46, 47, 48, 49, 50, 51, 52, 53, 54, 55, 56, 57, 58, 59, 60, 61, 66, 67, 68, 69, 70, 71, 72, 73, 74, 75, 76, 77, 78, 79, 80, 81] (by decide +kernel) (by decide +kernel)
set_option maxRecDepth 20000 in
theorem gX3_grow_X3_growPart : GoodIn wsX3_grow (wsV RX3 235 RX3 yX3_growPart wsX3_growPart) := goodIn_app (goodIn_of _ (by decide +kernel)) ggX3_grow_X3_growPart
theorem dX3_grow_0 : decode cX3_grow 0 = .ok (.aload_n 0, 1) := by decide +kernel
theorem dX3_grow_1 : decode cX3_grow 1 = .ok (.getfield 18, 3) := by decide +kernel
theorem dX3_grow_4 : decode cX3_grow 4 = .ok (.invokevirtual 229, 3) := by decide +kernel
theorem dX3_grow_7 : decode cX3_grow 7 = .ok (.istore_n 3, 1) := by decide +kernel
theorem dX3_grow_8 : decode cX3_grow 8 = .ok (.aload_n 0, 1) := by decide +kernel
theorem dX3_grow_9 : decode cX3_grow 9 = .ok (.iload_n 1, 1) := by decide +kernel
theorem dX3_grow_10 : decode cX3_grow 10 = .ok (.invokevirtual 216, 3) := by decide +kernel
theorem dX3_grow_13 : decode cX3_grow 13 = .ok (.ifCond .eq 7, 3) := by decide +kernel
theorem dX3_grow_16 : decode cX3_grow 16 = .ok (.iconst (-1), 1) := by decide +kernel
theorem dX3_grow_17 : decode cX3_grow 17 = .ok (.goto 9, 3) := by decide +kernel
theorem dX3_grow_20 : decode cX3_grow 20 = .ok (.aload_n 0, 1) := by decide +kernel
theorem dX3_grow_21 : decode cX3_grow 21 = .ok (.iload_n 1, 1) := by decide +kernel
theorem dX3_grow_22 : decode cX3_grow 22 = .ok (.iload_n 2, 1) := by decide +kernel
theorem dX3_grow_23 : decode cX3_grow 23 = .ok (.invokevirtual 219, 3) := by decide +kernel
theorem dX3_grow_26 : decode cX3_grow 26 = .ok (.istore 4, 2) := by decide +kernel
theorem dX3_grow_28 : decode cX3_grow 28 = .ok (.iload 4, 2) := by decide +kernel
theorem dX3_grow_30 : decode cX3_grow 30 = .ok (.iconst (-1), 1) := by decide +kernel
theorem dX3_grow_31 : decode cX3_grow 31 = .ok (.if_icmp .ne 15, 3) := by decide +kernel
theorem dX3_grow_34 : decode cX3_grow 34 = .ok (.aload_n 0, 1) := by decide +kernel
theorem dX3_grow_35 : decode cX3_grow 35 = .ok (.getfield 18, 3) := by decide +kernel
theorem dX3_grow_38 : decode cX3_grow 38 = .ok (.iload_n 3, 1) := by decide +kernel
theorem dX3_grow_39 : decode cX3_grow 39 = .ok (.iconst (-1), 1) := by decide +kernel
theorem dX3_grow_40 : decode cX3_grow 40 = .ok (.iconst (-1), 1) := by decide +kernel
theorem dX3_grow_41 : decode cX3_grow 41 = .ok (.iconst (-1), 1) := by decide +kernel
theorem dX3_grow_42 : decode cX3_grow 42 = .ok (.invokevirtual 231, 3) := by decide +kernel
theorem dX3_grow_45 : decode cX3_grow 45 = .ok (.ireturn, 1) := by decide +kernel
theorem dX3_grow_46 : decode cX3_grow 46 = .ok (.aload_n 0, 1) := by decide +kernel
theorem dX3_grow_47 : decode cX3_grow 47 = .ok (.getfield 11, 3) := by decide +kernel
theorem dX3_grow_50 : decode cX3_grow 50 = .ok (.iload 4, 2) := by decide +kernel
theorem dX3_grow_52 : decode cX3_grow 52 = .ok (.aaload, 1) := by decide +kernel
theorem dX3_grow_53 : decode cX3_grow 53 = .ok (.iload_n 1, 1) := by decide +kernel
theorem dX3_grow_54 : decode cX3_grow 54 = .ok (.invokevirtual 116, 3) := by decide +kernel
theorem dX3_grow_57 : decode cX3_grow 57 = .ok (.istore 5, 2) := by decide +kernel
theorem dX3_grow_59 : decode cX3_grow 59 = .ok (.aload_n 0, 1) := by decide +kernel
theorem dX3_grow_60 : decode cX3_grow 60 = .ok (.aload_n 0, 1) := by decide +kernel
theorem dX3_grow_61 : decode cX3_grow 61 = .ok (.getfield 11, 3) := by decide +kernel
theorem dX3_grow_64 : decode cX3_grow 64 = .ok (.iload 4, 2) := by decide +kernel
theorem dX3_grow_66 : decode cX3_grow 66 = .ok (.aaload, 1) := by decide +kernel
theorem dX3_grow_67 : decode cX3_grow 67 = .ok (.iload 5, 2) := by decide +kernel
theorem dX3_grow_69 : decode cX3_grow 69 = .ok (.iconst 0, 1) := by decide +kernel
theorem dX3_grow_70 : decode cX3_grow 70 = .ok (.invokevirtual 226, 3) := by decide +kernel
theorem dX3_grow_73 : decode cX3_grow 73 = .ok (.iload_n 2, 1) := by decide +kernel
theorem dX3_grow_74 : decode cX3_grow 74 = .ok (.iconst 1, 1) := by decide +kernel
theorem dX3_grow_75 : decode cX3_grow 75 = .ok (.isub, 1) := by decide +kernel
theorem dX3_grow_76 : decode cX3_grow 76 = .ok (.invokevirtual 235, 3) := by decide +kernel
theorem dX3_grow_79 : decode cX3_grow 79 = .ok (.istore 6, 2) := by decide +kernel
theorem dX3_grow_81 : decode cX3_grow 81 = .ok (.aload_n 0, 1) := by decide +kernel
theorem dX3_grow_82 : decode cX3_grow 82 = .ok (.aload_n 0, 1) := by decide +kernel
theorem dX3_grow_83 : decode cX3_grow 83 = .ok (.getfield 11, 3) := by decide +kernel
theorem dX3_grow_86 : decode cX3_grow 86 = .ok (.iload 4, 2) := by decide +kernel
theorem dX3_grow_88 : decode cX3_grow 88 = .ok (.aaload, 1) := by decide +kernel
theorem dX3_grow_89 : decode cX3_grow 89 = .ok (.iload 5, 2) := by decide +kernel
theorem dX3_grow_91 : decode cX3_grow 91 = .ok (.iconst 1, 1) := by decide +kernel
theorem dX3_grow_92 : decode cX3_grow 92 = .ok (.invokevirtual 226, 3) := by decide +kernel
theorem dX3_grow_95 : decode cX3_grow 95 = .ok (.iload_n 2, 1) := by decide +kernel
theorem dX3_grow_96 : decode cX3_grow 96 = .ok (.iconst 1, 1) := by decide +kernel
theorem dX3_grow_97 : decode cX3_grow 97 = .ok (.isub, 1) := by decide +kernel
theorem dX3_grow_98 : decode cX3_grow 98 = .ok (.invokevirtual 235, 3) := by decide +kernel
theorem dX3_grow_101 : decode cX3_grow 101 = .ok (.istore 7, 2) := by decide +kernel
theorem dX3_grow_103 : decode cX3_grow 103 = .ok (.aload_n 0, 1) := by decide +kernel
theorem dX3_grow_104 : decode cX3_grow 104 = .ok (.getfield 18, 3) := by decide +kernel
theorem dX3_grow_107 : decode cX3_grow 107 = .ok (.iload_n 3, 1) := by decide +kernel
theorem dX3_grow_108 : decode cX3_grow 108 = .ok (.iload 4, 2) := by decide +kernel
theorem dX3_grow_110 : decode cX3_grow 110 = .ok (.iload 6, 2) := by decide +kernel
theorem dX3_grow_112 : decode cX3_grow 112 = .ok (.iload 7, 2) := by decide +kernel
theorem dX3_grow_114 : decode cX3_grow 114 = .ok (.invokevirtual 231, 3) := by decide +kernel
theorem dX3_grow_117 : decode cX3_grow 117 = .ok (.ireturn, 1) := by decide +kernel
set_option maxRecDepth 20000 in
theorem ggX3_growPart_X3_grow : GoodIn wsX3_growPart wsX3_grow := goodIn_r _ [5, 6, 7, 8, 9, 10, 11, 12, 13, 14, 15, 16, 17, 18, 19, 20, 21, 4, 22, 23, 24, 25, 26, 27, 28, 29, 30, 31, 32, 33, 34, 35, 36, 37, 38, 39, 40, 41, 42, 43, 44, 45, 46, 47, 48, 49, 50, 51, 52, 53, 54, 55, 56, 57, 58, 59, 60, 61, 62, 63, 64, 65, 0, 1, 2, 3, 66, 67, 68, 69, 70, 71, 72, 73, 74, 75, 76, 77, 78, 79, 80, 81] (by decide +kernel) (by decide +kernel)
set_option maxRecDepth 20000 in
theorem gX3_growPart_X3_grow : GoodIn wsX3_growPart (wsV RX3 135 RX3 yX3_grow wsX3_grow) := goodIn_app (goodIn_of _ (by decide +kernel)) ggX3_growPart_X3_grow
theorem dX3_growPart_0 : decode cX3_growPart 0 = .ok (.iload_n 1, 1) := by decide +kernel
theorem dX3_growPart_1 : decode cX3_growPart 1 = .ok (.ifCond .ne 7, 3) := by decide +kernel
theorem dX3_growPart_4 : decode cX3_growPart 4 = .ok (.iconst (-1), 1) := by decide +kernel
theorem dX3_growPart_5 : decode cX3_growPart 5 = .ok (.goto 9, 3) := by decide +kernel
theorem dX3_growPart_8 : decode cX3_growPart 8 = .ok (.aload_n 0, 1) := by decide +kernel
theorem dX3_growPart_9 : decode cX3_growPart 9 = .ok (.iload_n 1, 1) := by decide +kernel
theorem dX3_growPart_10 : decode cX3_growPart 10 = .ok (.iload_n 2, 1) := by decide +kernel
theorem dX3_growPart_11 : decode cX3_growPart 11 = .ok (.invokevirtual 135, 3) := by decide +kernel
theorem dX3_growPart_14 : decode cX3_growPart 14 = .ok (.ireturn, 1) := by decide +kernel
set_option maxRecDepth 20000 in
theorem ggX3_fits_X2_cell : GoodIn wsX3_fits wsX2_cell := goodIn_r _ [7, 8, 46, 47] (by decide +kernel) (by decide +kernel)
set_option maxRecDepth 20000 in
theorem gX3_fits_X2_cell : GoodIn wsX3_fits (wsV RX3 149 RX2 yX2_cell wsX2_cell) := goodIn_app (goodIn_of _ (by decide +kernel)) ggX3_fits_X2_cell
set_option maxRecDepth 20000 in
theorem ggX3_fits_X3_reached : GoodIn wsX3_fits wsX3_reached := goodIn_r _ [13, 14, 37, 38, 39, 40, 41, 42, 43, 44, 45] (by decide +kernel) (by decide +kernel)
set_option maxRecDepth 20000 in
theorem gX3_fits_X3_reached : GoodIn wsX3_fits (wsV RX3 216 RX3 yX3_reached wsX3_reached) := goodIn_app (goodIn_of _ (by decide +kernel)) ggX3_fits_X3_reached
set_option maxRecDepth 20000 in
theorem ggX3_fits_X0_usable : GoodIn wsX3_fits wsX0_usable := goodIn_r _ [19, 20, 21, 48, 49, 50, 51, 52] (by decide +kernel) (by decide +kernel)
set_option maxRecDepth 20000 in
theorem gX3_fits_X0_usable : GoodIn wsX3_fits (wsV RX3 107 RX0 yX0_usable wsX0_usable) := goodIn_app (goodIn_of _ (by decide +kernel)) ggX3_fits_X0_usable
set_option maxRecDepth 20000 in
theorem ggX3_fits_X0_after : GoodIn wsX3_fits wsX0_after := goodIn_r _ [25, 26, 27, 12, 28, 48, 49, 50, 51, 52] (by decide +kernel) (by decide +kernel)
set_option maxRecDepth 20000 in
theorem gX3_fits_X0_after : GoodIn wsX3_fits (wsV RX3 116 RX0 yX0_after wsX0_after) := goodIn_app (goodIn_of _ (by decide +kernel)) ggX3_fits_X0_after
set_option maxRecDepth 20000 in
theorem ggX3_fits_X0_part : GoodIn wsX3_fits wsX0_part := goodIn_r _ [32, 33, 48, 49, 50, 51, 52] (by decide +kernel) (by decide +kernel)
set_option maxRecDepth 20000 in
theorem gX3_fits_X0_part : GoodIn wsX3_fits (wsV RX3 226 RX0 yX0_part wsX0_part) := goodIn_app (goodIn_of _ (by decide +kernel)) ggX3_fits_X0_part
set_option maxRecDepth 20000 in
theorem ggX3_fits_X3_fits : GoodIn wsX3_fits wsX3_fits := goodIn_r _ [0, 1, 2, 3, 4, 5, 6, 7, 8, 9, 10, 11, 12, 13, 14, 15, 16, 17, 18, 19, 20, 21, 22, 23, 24, 25, 26, 27, 28, 29, 30, 31, 32, 33, 34, 35, 36, 37, 38, 39, 40, 41, 42, 43, 44, 45, 46, 47, 48, 49, 50, 51, 52] (by decide +kernel) (by decide +kernel)
set_option maxRecDepth 20000 in
theorem gX3_fits_X3_fits : GoodIn wsX3_fits (wsV RX3 160 RX3 yX3_fits wsX3_fits) := goodIn_app (goodIn_of _ (by decide +kernel)) ggX3_fits_X3_fits
theorem dX3_fits_0 : decode cX3_fits 0 = .ok (.iload_n 2, 1) := by decide +kernel
theorem dX3_fits_1 : decode cX3_fits 1 = .ok (.ifCond .ne 5, 3) := by decide +kernel
theorem dX3_fits_4 : decode cX3_fits 4 = .ok (.iconst 1, 1) := by decide +kernel
theorem dX3_fits_5 : decode cX3_fits 5 = .ok (.ireturn, 1) := by decide +kernel
theorem dX3_fits_6 : decode cX3_fits 6 = .ok (.iload_n 1, 1) := by decide +kernel
theorem dX3_fits_7 : decode cX3_fits 7 = .ok (.iconst (-1), 1) := by decide +kernel
theorem dX3_fits_8 : decode cX3_fits 8 = .ok (.if_icmp .eq 7, 3) := by decide +kernel
theorem dX3_fits_11 : decode cX3_fits 11 = .ok (.iload_n 3, 1) := by decide +kernel
theorem dX3_fits_12 : decode cX3_fits 12 = .ok (.ifCond .ge 5, 3) := by decide +kernel
theorem dX3_fits_15 : decode cX3_fits 15 = .ok (.iconst 0, 1) := by decide +kernel
theorem dX3_fits_16 : decode cX3_fits 16 = .ok (.ireturn, 1) := by decide +kernel
theorem dX3_fits_17 : decode cX3_fits 17 = .ok (.aload_n 0, 1) := by decide +kernel
theorem dX3_fits_18 : decode cX3_fits 18 = .ok (.getfield 18, 3) := by decide +kernel
theorem dX3_fits_21 : decode cX3_fits 21 = .ok (.iload_n 1, 1) := by decide +kernel
theorem dX3_fits_22 : decode cX3_fits 22 = .ok (.iconst 0, 1) := by decide +kernel
theorem dX3_fits_23 : decode cX3_fits 23 = .ok (.invokevirtual 149, 3) := by decide +kernel
theorem dX3_fits_26 : decode cX3_fits 26 = .ok (.istore 4, 2) := by decide +kernel
theorem dX3_fits_28 : decode cX3_fits 28 = .ok (.iload 4, 2) := by decide +kernel
theorem dX3_fits_30 : decode cX3_fits 30 = .ok (.iconst (-1), 1) := by decide +kernel
theorem dX3_fits_31 : decode cX3_fits 31 = .ok (.if_icmp .ne 9, 3) := by decide +kernel
theorem dX3_fits_34 : decode cX3_fits 34 = .ok (.aload_n 0, 1) := by decide +kernel
theorem dX3_fits_35 : decode cX3_fits 35 = .ok (.iload_n 2, 1) := by decide +kernel
theorem dX3_fits_36 : decode cX3_fits 36 = .ok (.invokevirtual 216, 3) := by decide +kernel
theorem dX3_fits_39 : decode cX3_fits 39 = .ok (.ireturn, 1) := by decide +kernel
theorem dX3_fits_40 : decode cX3_fits 40 = .ok (.aload_n 0, 1) := by decide +kernel
theorem dX3_fits_41 : decode cX3_fits 41 = .ok (.getfield 11, 3) := by decide +kernel
theorem dX3_fits_44 : decode cX3_fits 44 = .ok (.iload 4, 2) := by decide +kernel
theorem dX3_fits_46 : decode cX3_fits 46 = .ok (.aaload, 1) := by decide +kernel
theorem dX3_fits_47 : decode cX3_fits 47 = .ok (.iload_n 2, 1) := by decide +kernel
theorem dX3_fits_48 : decode cX3_fits 48 = .ok (.invokevirtual 107, 3) := by decide +kernel
theorem dX3_fits_51 : decode cX3_fits 51 = .ok (.ifCond .ne 5, 3) := by decide +kernel
theorem dX3_fits_54 : decode cX3_fits 54 = .ok (.iconst 0, 1) := by decide +kernel
theorem dX3_fits_55 : decode cX3_fits 55 = .ok (.ireturn, 1) := by decide +kernel
theorem dX3_fits_56 : decode cX3_fits 56 = .ok (.aload_n 0, 1) := by decide +kernel
theorem dX3_fits_57 : decode cX3_fits 57 = .ok (.getfield 11, 3) := by decide +kernel
theorem dX3_fits_60 : decode cX3_fits 60 = .ok (.iload 4, 2) := by decide +kernel
theorem dX3_fits_62 : decode cX3_fits 62 = .ok (.aaload, 1) := by decide +kernel
theorem dX3_fits_63 : decode cX3_fits 63 = .ok (.iload_n 2, 1) := by decide +kernel
theorem dX3_fits_64 : decode cX3_fits 64 = .ok (.invokevirtual 116, 3) := by decide +kernel
theorem dX3_fits_67 : decode cX3_fits 67 = .ok (.istore 5, 2) := by decide +kernel
theorem dX3_fits_69 : decode cX3_fits 69 = .ok (.aload_n 0, 1) := by decide +kernel
theorem dX3_fits_70 : decode cX3_fits 70 = .ok (.aload_n 0, 1) := by decide +kernel
theorem dX3_fits_71 : decode cX3_fits 71 = .ok (.getfield 18, 3) := by decide +kernel
theorem dX3_fits_74 : decode cX3_fits 74 = .ok (.iload_n 1, 1) := by decide +kernel
theorem dX3_fits_75 : decode cX3_fits 75 = .ok (.iconst 1, 1) := by decide +kernel
theorem dX3_fits_76 : decode cX3_fits 76 = .ok (.invokevirtual 149, 3) := by decide +kernel
theorem dX3_fits_79 : decode cX3_fits 79 = .ok (.aload_n 0, 1) := by decide +kernel
theorem dX3_fits_80 : decode cX3_fits 80 = .ok (.getfield 11, 3) := by decide +kernel
theorem dX3_fits_83 : decode cX3_fits 83 = .ok (.iload 4, 2) := by decide +kernel
theorem dX3_fits_85 : decode cX3_fits 85 = .ok (.aaload, 1) := by decide +kernel
theorem dX3_fits_86 : decode cX3_fits 86 = .ok (.iload 5, 2) := by decide +kernel
theorem dX3_fits_88 : decode cX3_fits 88 = .ok (.iconst 0, 1) := by decide +kernel
theorem dX3_fits_89 : decode cX3_fits 89 = .ok (.invokevirtual 226, 3) := by decide +kernel
theorem dX3_fits_92 : decode cX3_fits 92 = .ok (.iload_n 3, 1) := by decide +kernel
theorem dX3_fits_93 : decode cX3_fits 93 = .ok (.iconst 1, 1) := by decide +kernel
theorem dX3_fits_94 : decode cX3_fits 94 = .ok (.isub, 1) := by decide +kernel
theorem dX3_fits_95 : decode cX3_fits 95 = .ok (.invokevirtual 160, 3) := by decide +kernel
theorem dX3_fits_98 : decode cX3_fits 98 = .ok (.ifCond .eq 39, 3) := by decide +kernel
theorem dX3_fits_101 : decode cX3_fits 101 = .ok (.aload_n 0, 1) := by decide +kernel
theorem dX3_fits_102 : decode cX3_fits 102 = .ok (.aload_n 0, 1) := by decide +kernel
theorem dX3_fits_103 : decode cX3_fits 103 = .ok (.getfield 18, 3) := by decide +kernel
