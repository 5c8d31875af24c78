theorem d_M_init_0 : decode b_M_init 0 = .ok (.aload_n 0, 1) := by decide +kernel
theorem d_M_init_1 : decode b_M_init 1 = .ok (.invokespecial 1, 3) := by decide +kernel
theorem d_M_init_4 : decode b_M_init 4 = .ok (.aload_n 0, 1) := by decide +kernel
theorem d_M_init_5 : decode b_M_init 5 = .ok (.bipush 10, 2) := by decide +kernel
theorem d_M_init_7 : decode b_M_init 7 = .ok (.newarray .int, 2) := by decide +kernel
theorem d_M_init_9 : decode b_M_init 9 = .ok (.putfield 7, 3) := by decide +kernel
theorem d_M_init_12 : decode b_M_init 12 = .ok (.aload_n 0, 1) := by decide +kernel
theorem d_M_init_13 : decode b_M_init 13 = .ok (.sipush 192, 3) := by decide +kernel
theorem d_M_init_16 : decode b_M_init 16 = .ok (.newarray .int, 2) := by decide +kernel
theorem d_M_init_18 : decode b_M_init 18 = .ok (.putfield 13, 3) := by decide +kernel
theorem d_M_init_21 : decode b_M_init 21 = .ok (.aload_n 0, 1) := by decide +kernel
theorem d_M_init_22 : decode b_M_init 22 = .ok (.bipush 24, 2) := by decide +kernel
theorem d_M_init_24 : decode b_M_init 24 = .ok (.newarray .int, 2) := by decide +kernel
theorem d_M_init_26 : decode b_M_init 26 = .ok (.putfield 16, 3) := by decide +kernel
theorem d_M_init_29 : decode b_M_init 29 = .ok (.aload_n 0, 1) := by decide +kernel
theorem d_M_init_30 : decode b_M_init 30 = .ok (.bipush 24, 2) := by decide +kernel
theorem d_M_init_32 : decode b_M_init 32 = .ok (.newarray .int, 2) := by decide +kernel
theorem d_M_init_34 : decode b_M_init 34 = .ok (.putfield 19, 3) := by decide +kernel
theorem d_M_init_37 : decode b_M_init 37 = .ok (.aload_n 0, 1) := by decide +kernel
theorem d_M_init_38 : decode b_M_init 38 = .ok (.bipush 99, 2) := by decide +kernel
theorem d_M_init_40 : decode b_M_init 40 = .ok (.newarray .int, 2) := by decide +kernel
theorem d_M_init_42 : decode b_M_init 42 = .ok (.putfield 22, 3) := by decide +kernel
theorem d_M_init_45 : decode b_M_init 45 = .ok (.aload_n 0, 1) := by decide +kernel
theorem d_M_init_46 : decode b_M_init 46 = .ok (.sipush 252, 3) := by decide +kernel
theorem d_M_init_49 : decode b_M_init 49 = .ok (.newarray .long, 2) := by decide +kernel
theorem d_M_init_51 : decode b_M_init 51 = .ok (.putfield 25, 3) := by decide +kernel
theorem d_M_init_54 : decode b_M_init 54 = .ok (.aload_n 0, 1) := by decide +kernel
theorem d_M_init_55 : decode b_M_init 55 = .ok (.iconst 0, 1) := by decide +kernel
theorem d_M_init_56 : decode b_M_init 56 = .ok (.putfield 29, 3) := by decide +kernel
theorem d_M_init_59 : decode b_M_init 59 = .ok (.return_, 1) := by decide +kernel
theorem d_M_key_0 : decode b_M_key 0 = .ok (.iload_n 1, 1) := by decide +kernel
theorem d_M_key_1 : decode b_M_key 1 = .ok (.ifCond .lt 18, 3) := by decide +kernel
theorem d_M_key_4 : decode b_M_key 4 = .ok (.iload_n 1, 1) := by decide +kernel
theorem d_M_key_5 : decode b_M_key 5 = .ok (.bipush 25, 2) := by decide +kernel
theorem d_M_key_7 : decode b_M_key 7 = .ok (.if_icmp .gt 12, 3) := by decide +kernel
theorem d_M_key_10 : decode b_M_key 10 = .ok (.aload_n 0, 1) := by decide +kernel
theorem d_M_key_11 : decode b_M_key 11 = .ok (.getfield 29, 3) := by decide +kernel
theorem d_M_key_14 : decode b_M_key 14 = .ok (.bipush 10, 2) := by decide +kernel
theorem d_M_key_16 : decode b_M_key 16 = .ok (.if_icmp .ne 5, 3) := by decide +kernel
theorem d_M_key_19 : decode b_M_key 19 = .ok (.iconst 0, 1) := by decide +kernel
theorem d_M_key_20 : decode b_M_key 20 = .ok (.ireturn, 1) := by decide +kernel
theorem d_M_key_21 : decode b_M_key 21 = .ok (.aload_n 0, 1) := by decide +kernel
theorem d_M_key_22 : decode b_M_key 22 = .ok (.getfield 7, 3) := by decide +kernel
theorem d_M_key_25 : decode b_M_key 25 = .ok (.aload_n 0, 1) := by decide +kernel
theorem d_M_key_26 : decode b_M_key 26 = .ok (.getfield 29, 3) := by decide +kernel
theorem d_M_key_29 : decode b_M_key 29 = .ok (.iload_n 1, 1) := by decide +kernel
theorem d_M_key_30 : decode b_M_key 30 = .ok (.iastore, 1) := by decide +kernel
theorem d_M_key_31 : decode b_M_key 31 = .ok (.aload_n 0, 1) := by decide +kernel
theorem d_M_key_32 : decode b_M_key 32 = .ok (.dup, 1) := by decide +kernel
theorem d_M_key_33 : decode b_M_key 33 = .ok (.getfield 29, 3) := by decide +kernel
theorem d_M_key_36 : decode b_M_key 36 = .ok (.iconst 1, 1) := by decide +kernel
theorem d_M_key_37 : decode b_M_key 37 = .ok (.iadd, 1) := by decide +kernel
theorem d_M_key_38 : decode b_M_key 38 = .ok (.putfield 29, 3) := by decide +kernel
theorem d_M_key_41 : decode b_M_key 41 = .ok (.iconst 1, 1) := by decide +kernel
theorem d_M_key_42 : decode b_M_key 42 = .ok (.ireturn, 1) := by decide +kernel
theorem d_M_back_0 : decode b_M_back 0 = .ok (.aload_n 0, 1) := by decide +kernel
theorem d_M_back_1 : decode b_M_back 1 = .ok (.getfield 29, 3) := by decide +kernel
theorem d_M_back_4 : decode b_M_back 4 = .ok (.ifCond .ne 5, 3) := by decide +kernel
theorem d_M_back_7 : decode b_M_back 7 = .ok (.iconst 0, 1) := by decide +kernel
theorem d_M_back_8 : decode b_M_back 8 = .ok (.ireturn, 1) := by decide +kernel
theorem d_M_back_9 : decode b_M_back 9 = .ok (.aload_n 0, 1) := by decide +kernel
theorem d_M_back_10 : decode b_M_back 10 = .ok (.dup, 1) := by decide +kernel
theorem d_M_back_11 : decode b_M_back 11 = .ok (.getfield 29, 3) := by decide +kernel
theorem d_M_back_14 : decode b_M_back 14 = .ok (.iconst 1, 1) := by decide +kernel
theorem d_M_back_15 : decode b_M_back 15 = .ok (.isub, 1) := by decide +kernel
theorem d_M_back_16 : decode b_M_back 16 = .ok (.putfield 29, 3) := by decide +kernel
theorem d_M_back_19 : decode b_M_back 19 = .ok (.iconst 1, 1) := by decide +kernel
theorem d_M_back_20 : decode b_M_back 20 = .ok (.ireturn, 1) := by decide +kernel
theorem d_M_wipe_0 : decode b_M_wipe 0 = .ok (.aload_n 0, 1) := by decide +kernel
theorem d_M_wipe_1 : decode b_M_wipe 1 = .ok (.iconst 0, 1) := by decide +kernel
theorem d_M_wipe_2 : decode b_M_wipe 2 = .ok (.putfield 29, 3) := by decide +kernel
theorem d_M_wipe_5 : decode b_M_wipe 5 = .ok (.return_, 1) := by decide +kernel
theorem d_M_length_0 : decode b_M_length 0 = .ok (.aload_n 0, 1) := by decide +kernel
theorem d_M_length_1 : decode b_M_length 1 = .ok (.getfield 29, 3) := by decide +kernel
theorem d_M_length_4 : decode b_M_length 4 = .ok (.ireturn, 1) := by decide +kernel
theorem d_M_typed_0 : decode b_M_typed 0 = .ok (.iload_n 1, 1) := by decide +kernel
theorem d_M_typed_1 : decode b_M_typed 1 = .ok (.ifCond .lt 20, 3) := by decide +kernel
theorem d_M_typed_4 : decode b_M_typed 4 = .ok (.iload_n 1, 1) := by decide +kernel
theorem d_M_typed_5 : decode b_M_typed 5 = .ok (.aload_n 0, 1) := by decide +kernel
theorem d_M_typed_6 : decode b_M_typed 6 = .ok (.getfield 29, 3) := by decide +kernel
theorem d_M_typed_9 : decode b_M_typed 9 = .ok (.if_icmp .ge 12, 3) := by decide +kernel
theorem d_M_typed_12 : decode b_M_typed 12 = .ok (.aload_n 0, 1) := by decide +kernel
theorem d_M_typed_13 : decode b_M_typed 13 = .ok (.getfield 7, 3) := by decide +kernel
theorem d_M_typed_16 : decode b_M_typed 16 = .ok (.iload_n 1, 1) := by decide +kernel
theorem d_M_typed_17 : decode b_M_typed 17 = .ok (.iaload, 1) := by decide +kernel
theorem d_M_typed_18 : decode b_M_typed 18 = .ok (.goto 4, 3) := by decide +kernel
theorem d_M_typed_21 : decode b_M_typed 21 = .ok (.iconst (-1), 1) := by decide +kernel
theorem d_M_typed_22 : decode b_M_typed 22 = .ok (.ireturn, 1) := by decide +kernel
theorem d_M_at_0 : decode b_M_at 0 = .ok (.iload_n 2, 1) := by decide +kernel
theorem d_M_at_1 : decode b_M_at 1 = .ok (.aload_n 0, 1) := by decide +kernel
theorem d_M_at_2 : decode b_M_at 2 = .ok (.getfield 16, 3) := by decide +kernel
theorem d_M_at_5 : decode b_M_at 5 = .ok (.iload_n 1, 1) := by decide +kernel
theorem d_M_at_6 : decode b_M_at 6 = .ok (.iaload, 1) := by decide +kernel
theorem d_M_at_7 : decode b_M_at 7 = .ok (.if_icmp .ge 17, 3) := by decide +kernel
theorem d_M_at_10 : decode b_M_at 10 = .ok (.aload_n 0, 1) := by decide +kernel
theorem d_M_at_11 : decode b_M_at 11 = .ok (.getfield 13, 3) := by decide +kernel
theorem d_M_at_14 : decode b_M_at 14 = .ok (.bipush 8, 2) := by decide +kernel
theorem d_M_at_16 : decode b_M_at 16 = .ok (.iload_n 1, 1) := by decide +kernel
theorem d_M_at_17 : decode b_M_at 17 = .ok (.imul, 1) := by decide +kernel
theorem d_M_at_18 : decode b_M_at 18 = .ok (.iload_n 2, 1) := by decide +kernel
theorem d_M_at_19 : decode b_M_at 19 = .ok (.iadd, 1) := by decide +kernel
theorem d_M_at_20 : decode b_M_at 20 = .ok (.iaload, 1) := by decide +kernel
theorem d_M_at_21 : decode b_M_at 21 = .ok (.goto 4, 3) := by decide +kernel
theorem d_M_at_24 : decode b_M_at 24 = .ok (.iconst (-1), 1) := by decide +kernel
theorem d_M_at_25 : decode b_M_at 25 = .ok (.ireturn, 1) := by decide +kernel
theorem d_M_before_0 : decode b_M_before 0 = .ok (.iconst 0, 1) := by decide +kernel
theorem d_M_before_1 : decode b_M_before 1 = .ok (.istore_n 3, 1) := by decide +kernel
theorem d_M_before_2 : decode b_M_before 2 = .ok (.iload_n 3, 1) := by decide +kernel
theorem d_M_before_3 : decode b_M_before 3 = .ok (.bipush 8, 2) := by decide +kernel
theorem d_M_before_5 : decode b_M_before 5 = .ok (.if_icmp .ge 45, 3) := by decide +kernel
theorem d_M_before_8 : decode b_M_before 8 = .ok (.aload_n 0, 1) := by decide +kernel
theorem d_M_before_9 : decode b_M_before 9 = .ok (.iload_n 1, 1) := by decide +kernel
theorem d_M_before_10 : decode b_M_before 10 = .ok (.iload_n 3, 1) := by decide +kernel
theorem d_M_before_11 : decode b_M_before 11 = .ok (.invokevirtual 33, 3) := by decide +kernel
theorem d_M_before_14 : decode b_M_before 14 = .ok (.aload_n 0, 1) := by decide +kernel
theorem d_M_before_15 : decode b_M_before 15 = .ok (.iload_n 2, 1) := by decide +kernel
theorem d_M_before_16 : decode b_M_before 16 = .ok (.iload_n 3, 1) := by decide +kernel
theorem d_M_before_17 : decode b_M_before 17 = .ok (.invokevirtual 33, 3) := by decide +kernel
theorem d_M_before_20 : decode b_M_before 20 = .ok (.if_icmp .eq 24, 3) := by decide +kernel
theorem d_M_before_23 : decode b_M_before 23 = .ok (.aload_n 0, 1) := by decide +kernel
theorem d_M_before_24 : decode b_M_before 24 = .ok (.iload_n 1, 1) := by decide +kernel
theorem d_M_before_25 : decode b_M_before 25 = .ok (.iload_n 3, 1) := by decide +kernel
theorem d_M_before_26 : decode b_M_before 26 = .ok (.invokevirtual 33, 3) := by decide +kernel
theorem d_M_before_29 : decode b_M_before 29 = .ok (.aload_n 0, 1) := by decide +kernel
theorem d_M_before_30 : decode b_M_before 30 = .ok (.iload_n 2, 1) := by decide +kernel
theorem d_M_before_31 : decode b_M_before 31 = .ok (.iload_n 3, 1) := by decide +kernel
theorem d_M_before_32 : decode b_M_before 32 = .ok (.invokevirtual 33, 3) := by decide +kernel
theorem d_M_before_35 : decode b_M_before 35 = .ok (.if_icmp .ge 7, 3) := by decide +kernel
theorem d_M_before_38 : decode b_M_before 38 = .ok (.iconst 1, 1) := by decide +kernel
theorem d_M_before_39 : decode b_M_before 39 = .ok (.goto 4, 3) := by decide +kernel
theorem d_M_before_42 : decode b_M_before 42 = .ok (.iconst 0, 1) := by decide +kernel
theorem d_M_before_43 : decode b_M_before 43 = .ok (.ireturn, 1) := by decide +kernel
theorem d_M_before_44 : decode b_M_before 44 = .ok (.iinc 3 1, 3) := by decide +kernel
theorem d_M_before_47 : decode b_M_before 47 = .ok (.goto (-45), 3) := by decide +kernel
theorem d_M_before_50 : decode b_M_before 50 = .ok (.iconst 0, 1) := by decide +kernel
theorem d_M_before_51 : decode b_M_before 51 = .ok (.ireturn, 1) := by decide +kernel
theorem d_M_rankOf_0 : decode b_M_rankOf 0 = .ok (.iconst 0, 1) := by decide +kernel
theorem d_M_rankOf_1 : decode b_M_rankOf 1 = .ok (.istore_n 2, 1) := by decide +kernel
theorem d_M_rankOf_2 : decode b_M_rankOf 2 = .ok (.iconst 0, 1) := by decide +kernel
theorem d_M_rankOf_3 : decode b_M_rankOf 3 = .ok (.istore_n 3, 1) := by decide +kernel
theorem d_M_rankOf_4 : decode b_M_rankOf 4 = .ok (.iload_n 3, 1) := by decide +kernel
theorem d_M_rankOf_5 : decode b_M_rankOf 5 = .ok (.aload_n 0, 1) := by decide +kernel
theorem d_M_rankOf_6 : decode b_M_rankOf 6 = .ok (.getfield 37, 3) := by decide +kernel
theorem d_M_rankOf_9 : decode b_M_rankOf 9 = .ok (.if_icmp .ge 21, 3) := by decide +kernel
theorem d_M_rankOf_12 : decode b_M_rankOf 12 = .ok (.aload_n 0, 1) := by decide +kernel
theorem d_M_rankOf_13 : decode b_M_rankOf 13 = .ok (.iload_n 3, 1) := by decide +kernel
theorem d_M_rankOf_14 : decode b_M_rankOf 14 = .ok (.iload_n 1, 1) := by decide +kernel
theorem d_M_rankOf_15 : decode b_M_rankOf 15 = .ok (.invokevirtual 40, 3) := by decide +kernel
theorem d_M_rankOf_18 : decode b_M_rankOf 18 = .ok (.ifCond .eq 6, 3) := by decide +kernel
theorem d_M_rankOf_21 : decode b_M_rankOf 21 = .ok (.iinc 2 1, 3) := by decide +kernel
theorem d_M_rankOf_24 : decode b_M_rankOf 24 = .ok (.iinc 3 1, 3) := by decide +kernel
theorem d_M_rankOf_27 : decode b_M_rankOf 27 = .ok (.goto (-23), 3) := by decide +kernel
theorem d_M_rankOf_30 : decode b_M_rankOf 30 = .ok (.iload_n 2, 1) := by decide +kernel
theorem d_M_rankOf_31 : decode b_M_rankOf 31 = .ok (.ireturn, 1) := by decide +kernel
theorem d_M_place_0 : decode b_M_place 0 = .ok (.iconst 0, 1) := by decide +kernel
theorem d_M_place_1 : decode b_M_place 1 = .ok (.istore_n 2, 1) := by decide +kernel
theorem d_M_place_2 : decode b_M_place 2 = .ok (.iload_n 2, 1) := by decide +kernel
theorem d_M_place_3 : decode b_M_place 3 = .ok (.aload_n 0, 1) := by decide +kernel
theorem d_M_place_4 : decode b_M_place 4 = .ok (.getfield 37, 3) := by decide +kernel
theorem d_M_place_7 : decode b_M_place 7 = .ok (.if_icmp .ge 20, 3) := by decide +kernel
theorem d_M_place_10 : decode b_M_place 10 = .ok (.aload_n 0, 1) := by decide +kernel
theorem d_M_place_11 : decode b_M_place 11 = .ok (.iload_n 2, 1) := by decide +kernel
theorem d_M_place_12 : decode b_M_place 12 = .ok (.invokevirtual 44, 3) := by decide +kernel
theorem d_M_place_15 : decode b_M_place 15 = .ok (.iload_n 1, 1) := by decide +kernel
theorem d_M_place_16 : decode b_M_place 16 = .ok (.if_icmp .ne 5, 3) := by decide +kernel
theorem d_M_place_19 : decode b_M_place 19 = .ok (.iload_n 2, 1) := by decide +kernel
theorem d_M_place_20 : decode b_M_place 20 = .ok (.ireturn, 1) := by decide +kernel
theorem d_M_place_21 : decode b_M_place 21 = .ok (.iinc 2 1, 3) := by decide +kernel
theorem d_M_place_24 : decode b_M_place 24 = .ok (.goto (-22), 3) := by decide +kernel
theorem d_M_place_27 : decode b_M_place 27 = .ok (.iconst (-1), 1) := by decide +kernel
theorem d_M_place_28 : decode b_M_place 28 = .ok (.ireturn, 1) := by decide +kernel
theorem d_M_beginsTyped_0 : decode b_M_beginsTyped 0 = .ok (.aload_n 0, 1) := by decide +kernel
theorem d_M_beginsTyped_1 : decode b_M_beginsTyped 1 = .ok (.getfield 16, 3) := by decide +kernel
theorem d_M_beginsTyped_4 : decode b_M_beginsTyped 4 = .ok (.iload_n 1, 1) := by decide +kernel
theorem d_M_beginsTyped_5 : decode b_M_beginsTyped 5 = .ok (.iaload, 1) := by decide +kernel
theorem d_M_beginsTyped_6 : decode b_M_beginsTyped 6 = .ok (.aload_n 0, 1) := by decide +kernel
theorem d_M_beginsTyped_7 : decode b_M_beginsTyped 7 = .ok (.getfield 29, 3) := by decide +kernel
theorem d_M_beginsTyped_10 : decode b_M_beginsTyped 10 = .ok (.if_icmp .ge 5, 3) := by decide +kernel
theorem d_M_beginsTyped_13 : decode b_M_beginsTyped 13 = .ok (.iconst 0, 1) := by decide +kernel
theorem d_M_beginsTyped_14 : decode b_M_beginsTyped 14 = .ok (.ireturn, 1) := by decide +kernel
theorem d_M_beginsTyped_15 : decode b_M_beginsTyped 15 = .ok (.iconst 0, 1) := by decide +kernel
theorem d_M_beginsTyped_16 : decode b_M_beginsTyped 16 = .ok (.istore_n 2, 1) := by decide +kernel
theorem d_M_beginsTyped_17 : decode b_M_beginsTyped 17 = .ok (.iload_n 2, 1) := by decide +kernel
theorem d_M_beginsTyped_18 : decode b_M_beginsTyped 18 = .ok (.aload_n 0, 1) := by decide +kernel
theorem d_M_beginsTyped_19 : decode b_M_beginsTyped 19 = .ok (.getfield 29, 3) := by decide +kernel
theorem d_M_beginsTyped_22 : decode b_M_beginsTyped 22 = .ok (.if_icmp .ge 31, 3) := by decide +kernel
theorem d_M_beginsTyped_25 : decode b_M_beginsTyped 25 = .ok (.aload_n 0, 1) := by decide +kernel
theorem d_M_beginsTyped_26 : decode b_M_beginsTyped 26 = .ok (.getfield 13, 3) := by decide +kernel
theorem d_M_beginsTyped_29 : decode b_M_beginsTyped 29 = .ok (.bipush 8, 2) := by decide +kernel
theorem d_M_beginsTyped_31 : decode b_M_beginsTyped 31 = .ok (.iload_n 1, 1) := by decide +kernel
theorem d_M_beginsTyped_32 : decode b_M_beginsTyped 32 = .ok (.imul, 1) := by decide +kernel
theorem d_M_beginsTyped_33 : decode b_M_beginsTyped 33 = .ok (.iload_n 2, 1) := by decide +kernel
theorem d_M_beginsTyped_34 : decode b_M_beginsTyped 34 = .ok (.iadd, 1) := by decide +kernel
theorem d_M_beginsTyped_35 : decode b_M_beginsTyped 35 = .ok (.iaload, 1) := by decide +kernel
theorem d_M_beginsTyped_36 : decode b_M_beginsTyped 36 = .ok (.aload_n 0, 1) := by decide +kernel
theorem d_M_beginsTyped_37 : decode b_M_beginsTyped 37 = .ok (.getfield 7, 3) := by decide +kernel
theorem d_M_beginsTyped_40 : decode b_M_beginsTyped 40 = .ok (.iload_n 2, 1) := by decide +kernel
theorem d_M_beginsTyped_41 : decode b_M_beginsTyped 41 = .ok (.iaload, 1) := by decide +kernel
theorem d_M_beginsTyped_42 : decode b_M_beginsTyped 42 = .ok (.if_icmp .eq 5, 3) := by decide +kernel
theorem d_M_beginsTyped_45 : decode b_M_beginsTyped 45 = .ok (.iconst 0, 1) := by decide +kernel
theorem d_M_beginsTyped_46 : decode b_M_beginsTyped 46 = .ok (.ireturn, 1) := by decide +kernel
theorem d_M_beginsTyped_47 : decode b_M_beginsTyped 47 = .ok (.iinc 2 1, 3) := by decide +kernel
theorem d_M_beginsTyped_50 : decode b_M_beginsTyped 50 = .ok (.goto (-33), 3) := by decide +kernel
theorem d_M_beginsTyped_53 : decode b_M_beginsTyped 53 = .ok (.iconst 1, 1) := by decide +kernel
theorem d_M_beginsTyped_54 : decode b_M_beginsTyped 54 = .ok (.ireturn, 1) := by decide +kernel
theorem d_M_same_0 : decode b_M_same 0 = .ok (.iconst 0, 1) := by decide +kernel
theorem d_M_same_1 : decode b_M_same 1 = .ok (.istore_n 1, 1) := by decide +kernel
theorem d_M_same_2 : decode b_M_same 2 = .ok (.iload_n 1, 1) := by decide +kernel
theorem d_M_same_3 : decode b_M_same 3 = .ok (.aload_n 0, 1) := by decide +kernel
theorem d_M_same_4 : decode b_M_same 4 = .ok (.getfield 37, 3) := by decide +kernel
theorem d_M_same_7 : decode b_M_same 7 = .ok (.if_icmp .ge 32, 3) := by decide +kernel
theorem d_M_same_10 : decode b_M_same 10 = .ok (.aload_n 0, 1) := by decide +kernel
theorem d_M_same_11 : decode b_M_same 11 = .ok (.getfield 16, 3) := by decide +kernel
theorem d_M_same_14 : decode b_M_same 14 = .ok (.iload_n 1, 1) := by decide +kernel
theorem d_M_same_15 : decode b_M_same 15 = .ok (.iaload, 1) := by decide +kernel
theorem d_M_same_16 : decode b_M_same 16 = .ok (.aload_n 0, 1) := by decide +kernel
theorem d_M_same_17 : decode b_M_same 17 = .ok (.getfield 29, 3) := by decide +kernel
theorem d_M_same_20 : decode b_M_same 20 = .ok (.if_icmp .ne 13, 3) := by decide +kernel
theorem d_M_same_23 : decode b_M_same 23 = .ok (.aload_n 0, 1) := by decide +kernel
theorem d_M_same_24 : decode b_M_same 24 = .ok (.iload_n 1, 1) := by decide +kernel
theorem d_M_same_25 : decode b_M_same 25 = .ok (.invokevirtual 48, 3) := by decide +kernel
theorem d_M_same_28 : decode b_M_same 28 = .ok (.ifCond .eq 5, 3) := by decide +kernel
theorem d_M_same_31 : decode b_M_same 31 = .ok (.iload_n 1, 1) := by decide +kernel
theorem d_M_same_32 : decode b_M_same 32 = .ok (.ireturn, 1) := by decide +kernel
theorem d_M_same_33 : decode b_M_same 33 = .ok (.iinc 1 1, 3) := by decide +kernel
theorem d_M_same_36 : decode b_M_same 36 = .ok (.goto (-34), 3) := by decide +kernel
theorem d_M_same_39 : decode b_M_same 39 = .ok (.iconst (-1), 1) := by decide +kernel
theorem d_M_same_40 : decode b_M_same 40 = .ok (.ireturn, 1) := by decide +kernel
theorem d_M_learn_0 : decode b_M_learn 0 = .ok (.iload_n 1, 1) := by decide +kernel
theorem d_M_learn_1 : decode b_M_learn 1 = .ok (.iconst 1, 1) := by decide +kernel
theorem d_M_learn_2 : decode b_M_learn 2 = .ok (.if_icmp .lt 9, 3) := by decide +kernel
theorem d_M_learn_5 : decode b_M_learn 5 = .ok (.iload_n 1, 1) := by decide +kernel
theorem d_M_learn_6 : decode b_M_learn 6 = .ok (.ldc 52, 2) := by decide +kernel
theorem d_M_learn_8 : decode b_M_learn 8 = .ok (.if_icmp .le 5, 3) := by decide +kernel
theorem d_M_learn_11 : decode b_M_learn 11 = .ok (.iconst (-1), 1) := by decide +kernel
theorem d_M_learn_12 : decode b_M_learn 12 = .ok (.ireturn, 1) := by decide +kernel
theorem d_M_learn_13 : decode b_M_learn 13 = .ok (.aload_n 0, 1) := by decide +kernel
theorem d_M_learn_14 : decode b_M_learn 14 = .ok (.getfield 29, 3) := by decide +kernel
theorem d_M_learn_17 : decode b_M_learn 17 = .ok (.ifCond .eq 12, 3) := by decide +kernel
theorem d_M_learn_20 : decode b_M_learn 20 = .ok (.aload_n 0, 1) := by decide +kernel
theorem d_M_learn_21 : decode b_M_learn 21 = .ok (.getfield 29, 3) := by decide +kernel
theorem d_M_learn_24 : decode b_M_learn 24 = .ok (.bipush 8, 2) := by decide +kernel
theorem d_M_learn_26 : decode b_M_learn 26 = .ok (.if_icmp .le 6, 3) := by decide +kernel
theorem d_M_learn_29 : decode b_M_learn 29 = .ok (.bipush (-2), 2) := by decide +kernel
theorem d_M_learn_31 : decode b_M_learn 31 = .ok (.ireturn, 1) := by decide +kernel
theorem d_M_learn_32 : decode b_M_learn 32 = .ok (.aload_n 0, 1) := by decide +kernel
theorem d_M_learn_33 : decode b_M_learn 33 = .ok (.invokevirtual 53, 3) := by decide +kernel
theorem d_M_learn_36 : decode b_M_learn 36 = .ok (.istore_n 2, 1) := by decide +kernel
theorem d_M_learn_37 : decode b_M_learn 37 = .ok (.iload_n 2, 1) := by decide +kernel
theorem d_M_learn_38 : decode b_M_learn 38 = .ok (.ifCond .lt 37, 3) := by decide +kernel
theorem d_M_learn_41 : decode b_M_learn 41 = .ok (.aload_n 0, 1) := by decide +kernel
theorem d_M_learn_42 : decode b_M_learn 42 = .ok (.getfield 19, 3) := by decide +kernel
theorem d_M_learn_45 : decode b_M_learn 45 = .ok (.iload_n 2, 1) := by decide +kernel
theorem d_M_learn_46 : decode b_M_learn 46 = .ok (.aload_n 0, 1) := by decide +kernel
theorem d_M_learn_47 : decode b_M_learn 47 = .ok (.getfield 19, 3) := by decide +kernel
theorem d_M_learn_50 : decode b_M_learn 50 = .ok (.iload_n 2, 1) := by decide +kernel
theorem d_M_learn_51 : decode b_M_learn 51 = .ok (.iaload, 1) := by decide +kernel
theorem d_M_learn_52 : decode b_M_learn 52 = .ok (.iload_n 1, 1) := by decide +kernel
theorem d_M_learn_53 : decode b_M_learn 53 = .ok (.iadd, 1) := by decide +kernel
theorem d_M_learn_54 : decode b_M_learn 54 = .ok (.ldc 52, 2) := by decide +kernel
theorem d_M_learn_56 : decode b_M_learn 56 = .ok (.if_icmp .le 8, 3) := by decide +kernel
theorem d_M_learn_59 : decode b_M_learn 59 = .ok (.ldc 52, 2) := by decide +kernel
theorem d_M_learn_61 : decode b_M_learn 61 = .ok (.goto 11, 3) := by decide +kernel
theorem d_M_learn_64 : decode b_M_learn 64 = .ok (.aload_n 0, 1) := by decide +kernel
theorem d_M_learn_65 : decode b_M_learn 65 = .ok (.getfield 19, 3) := by decide +kernel
theorem d_M_learn_68 : decode b_M_learn 68 = .ok (.iload_n 2, 1) := by decide +kernel
theorem d_M_learn_69 : decode b_M_learn 69 = .ok (.iaload, 1) := by decide +kernel
theorem d_M_learn_70 : decode b_M_learn 70 = .ok (.iload_n 1, 1) := by decide +kernel
theorem d_M_learn_71 : decode b_M_learn 71 = .ok (.iadd, 1) := by decide +kernel
theorem d_M_learn_72 : decode b_M_learn 72 = .ok (.iastore, 1) := by decide +kernel
theorem d_M_learn_73 : decode b_M_learn 73 = .ok (.iconst 1, 1) := by decide +kernel
theorem d_M_learn_74 : decode b_M_learn 74 = .ok (.ireturn, 1) := by decide +kernel
theorem d_M_learn_75 : decode b_M_learn 75 = .ok (.aload_n 0, 1) := by decide +kernel
theorem d_M_learn_76 : decode b_M_learn 76 = .ok (.getfield 37, 3) := by decide +kernel
theorem d_M_learn_79 : decode b_M_learn 79 = .ok (.bipush 24, 2) := by decide +kernel
theorem d_M_learn_81 : decode b_M_learn 81 = .ok (.if_icmp .ne 6, 3) := by decide +kernel
theorem d_M_learn_84 : decode b_M_learn 84 = .ok (.bipush (-3), 2) := by decide +kernel
theorem d_M_learn_86 : decode b_M_learn 86 = .ok (.ireturn, 1) := by decide +kernel
theorem d_M_learn_87 : decode b_M_learn 87 = .ok (.iconst 0, 1) := by decide +kernel
theorem d_M_learn_88 : decode b_M_learn 88 = .ok (.istore_n 3, 1) := by decide +kernel
theorem d_M_learn_89 : decode b_M_learn 89 = .ok (.iload_n 3, 1) := by decide +kernel
theorem d_M_learn_90 : decode b_M_learn 90 = .ok (.aload_n 0, 1) := by decide +kernel
theorem d_M_learn_91 : decode b_M_learn 91 = .ok (.getfield 29, 3) := by decide +kernel
theorem d_M_learn_94 : decode b_M_learn 94 = .ok (.if_icmp .ge 29, 3) := by decide +kernel
theorem d_M_learn_97 : decode b_M_learn 97 = .ok (.aload_n 0, 1) := by decide +kernel
theorem d_M_learn_98 : decode b_M_learn 98 = .ok (.getfield 13, 3) := by decide +kernel
theorem d_M_learn_101 : decode b_M_learn 101 = .ok (.bipush 8, 2) := by decide +kernel
theorem d_M_learn_103 : decode b_M_learn 103 = .ok (.aload_n 0, 1) := by decide +kernel
theorem d_M_learn_104 : decode b_M_learn 104 = .ok (.getfield 37, 3) := by decide +kernel
theorem d_M_learn_107 : decode b_M_learn 107 = .ok (.imul, 1) := by decide +kernel
theorem d_M_learn_108 : decode b_M_learn 108 = .ok (.iload_n 3, 1) := by decide +kernel
theorem d_M_learn_109 : decode b_M_learn 109 = .ok (.iadd, 1) := by decide +kernel
theorem d_M_learn_110 : decode b_M_learn 110 = .ok (.aload_n 0, 1) := by decide +kernel
theorem d_M_learn_111 : decode b_M_learn 111 = .ok (.getfield 7, 3) := by decide +kernel
theorem d_M_learn_114 : decode b_M_learn 114 = .ok (.iload_n 3, 1) := by decide +kernel
theorem d_M_learn_115 : decode b_M_learn 115 = .ok (.iaload, 1) := by decide +kernel
theorem d_M_learn_116 : decode b_M_learn 116 = .ok (.iastore, 1) := by decide +kernel
theorem d_M_learn_117 : decode b_M_learn 117 = .ok (.iinc 3 1, 3) := by decide +kernel
theorem d_M_learn_120 : decode b_M_learn 120 = .ok (.goto (-31), 3) := by decide +kernel
theorem d_M_learn_123 : decode b_M_learn 123 = .ok (.aload_n 0, 1) := by decide +kernel
theorem d_M_learn_124 : decode b_M_learn 124 = .ok (.getfield 16, 3) := by decide +kernel
theorem d_M_learn_127 : decode b_M_learn 127 = .ok (.aload_n 0, 1) := by decide +kernel
theorem d_M_learn_128 : decode b_M_learn 128 = .ok (.getfield 37, 3) := by decide +kernel
theorem d_M_learn_131 : decode b_M_learn 131 = .ok (.aload_n 0, 1) := by decide +kernel
theorem d_M_learn_132 : decode b_M_learn 132 = .ok (.getfield 29, 3) := by decide +kernel
theorem d_M_learn_135 : decode b_M_learn 135 = .ok (.iastore, 1) := by decide +kernel
theorem d_M_learn_136 : decode b_M_learn 136 = .ok (.aload_n 0, 1) := by decide +kernel
theorem d_M_learn_137 : decode b_M_learn 137 = .ok (.getfield 19, 3) := by decide +kernel
theorem d_M_learn_140 : decode b_M_learn 140 = .ok (.aload_n 0, 1) := by decide +kernel
theorem d_M_learn_141 : decode b_M_learn 141 = .ok (.getfield 37, 3) := by decide +kernel
theorem d_M_learn_144 : decode b_M_learn 144 = .ok (.iload_n 1, 1) := by decide +kernel
theorem d_M_learn_145 : decode b_M_learn 145 = .ok (.iastore, 1) := by decide +kernel
theorem d_M_learn_146 : decode b_M_learn 146 = .ok (.aload_n 0, 1) := by decide +kernel
theorem d_M_learn_147 : decode b_M_learn 147 = .ok (.dup, 1) := by decide +kernel
theorem d_M_learn_148 : decode b_M_learn 148 = .ok (.getfield 37, 3) := by decide +kernel
theorem d_M_learn_151 : decode b_M_learn 151 = .ok (.iconst 1, 1) := by decide +kernel
theorem d_M_learn_152 : decode b_M_learn 152 = .ok (.iadd, 1) := by decide +kernel
theorem d_M_learn_153 : decode b_M_learn 153 = .ok (.putfield 37, 3) := by decide +kernel
theorem d_M_learn_156 : decode b_M_learn 156 = .ok (.iconst 0, 1) := by decide +kernel
theorem d_M_learn_157 : decode b_M_learn 157 = .ok (.ireturn, 1) := by decide +kernel
theorem d_M_forget_0 : decode b_M_forget 0 = .ok (.aload_n 0, 1) := by decide +kernel
theorem d_M_forget_1 : decode b_M_forget 1 = .ok (.iload_n 1, 1) := by decide +kernel
theorem d_M_forget_2 : decode b_M_forget 2 = .ok (.invokevirtual 57, 3) := by decide +kernel
theorem d_M_forget_5 : decode b_M_forget 5 = .ok (.istore_n 2, 1) := by decide +kernel
theorem d_M_forget_6 : decode b_M_forget 6 = .ok (.iload_n 2, 1) := by decide +kernel
theorem d_M_forget_7 : decode b_M_forget 7 = .ok (.ifCond .ge 5, 3) := by decide +kernel
theorem d_M_forget_10 : decode b_M_forget 10 = .ok (.iconst 0, 1) := by decide +kernel
theorem d_M_forget_11 : decode b_M_forget 11 = .ok (.ireturn, 1) := by decide +kernel
theorem d_M_forget_12 : decode b_M_forget 12 = .ok (.aload_n 0, 1) := by decide +kernel
theorem d_M_forget_13 : decode b_M_forget 13 = .ok (.dup, 1) := by decide +kernel
theorem d_M_forget_14 : decode b_M_forget 14 = .ok (.getfield 37, 3) := by decide +kernel
theorem d_M_forget_17 : decode b_M_forget 17 = .ok (.iconst 1, 1) := by decide +kernel
theorem d_M_forget_18 : decode b_M_forget 18 = .ok (.isub, 1) := by decide +kernel
theorem d_M_forget_19 : decode b_M_forget 19 = .ok (.putfield 37, 3) := by decide +kernel
theorem d_M_forget_22 : decode b_M_forget 22 = .ok (.iconst 0, 1) := by decide +kernel
theorem d_M_forget_23 : decode b_M_forget 23 = .ok (.istore_n 3, 1) := by decide +kernel
theorem d_M_forget_24 : decode b_M_forget 24 = .ok (.iload_n 3, 1) := by decide +kernel
theorem d_M_forget_25 : decode b_M_forget 25 = .ok (.bipush 8, 2) := by decide +kernel
theorem d_M_forget_27 : decode b_M_forget 27 = .ok (.if_icmp .ge 34, 3) := by decide +kernel
theorem d_M_forget_30 : decode b_M_forget 30 = .ok (.aload_n 0, 1) := by decide +kernel
theorem d_M_forget_31 : decode b_M_forget 31 = .ok (.getfield 13, 3) := by decide +kernel
theorem d_M_forget_34 : decode b_M_forget 34 = .ok (.bipush 8, 2) := by decide +kernel
theorem d_M_forget_36 : decode b_M_forget 36 = .ok (.iload_n 2, 1) := by decide +kernel
theorem d_M_forget_37 : decode b_M_forget 37 = .ok (.imul, 1) := by decide +kernel
theorem d_M_forget_38 : decode b_M_forget 38 = .ok (.iload_n 3, 1) := by decide +kernel
theorem d_M_forget_39 : decode b_M_forget 39 = .ok (.iadd, 1) := by decide +kernel
theorem d_M_forget_40 : decode b_M_forget 40 = .ok (.aload_n 0, 1) := by decide +kernel
theorem d_M_forget_41 : decode b_M_forget 41 = .ok (.getfield 13, 3) := by decide +kernel
theorem d_M_forget_44 : decode b_M_forget 44 = .ok (.bipush 8, 2) := by decide +kernel
theorem d_M_forget_46 : decode b_M_forget 46 = .ok (.aload_n 0, 1) := by decide +kernel
theorem d_M_forget_47 : decode b_M_forget 47 = .ok (.getfield 37, 3) := by decide +kernel
theorem d_M_forget_50 : decode b_M_forget 50 = .ok (.imul, 1) := by decide +kernel
theorem d_M_forget_51 : decode b_M_forget 51 = .ok (.iload_n 3, 1) := by decide +kernel
theorem d_M_forget_52 : decode b_M_forget 52 = .ok (.iadd, 1) := by decide +kernel
theorem d_M_forget_53 : decode b_M_forget 53 = .ok (.iaload, 1) := by decide +kernel
theorem d_M_forget_54 : decode b_M_forget 54 = .ok (.iastore, 1) := by decide +kernel
theorem d_M_forget_55 : decode b_M_forget 55 = .ok (.iinc 3 1, 3) := by decide +kernel
theorem d_M_forget_58 : decode b_M_forget 58 = .ok (.goto (-34), 3) := by decide +kernel
theorem d_M_forget_61 : decode b_M_forget 61 = .ok (.aload_n 0, 1) := by decide +kernel
theorem d_M_forget_62 : decode b_M_forget 62 = .ok (.getfield 16, 3) := by decide +kernel
theorem d_M_forget_65 : decode b_M_forget 65 = .ok (.iload_n 2, 1) := by decide +kernel
theorem d_M_forget_66 : decode b_M_forget 66 = .ok (.aload_n 0, 1) := by decide +kernel
theorem d_M_forget_67 : decode b_M_forget 67 = .ok (.getfield 16, 3) := by decide +kernel
theorem d_M_forget_70 : decode b_M_forget 70 = .ok (.aload_n 0, 1) := by decide +kernel
theorem d_M_forget_71 : decode b_M_forget 71 = .ok (.getfield 37, 3) := by decide +kernel
theorem d_M_forget_74 : decode b_M_forget 74 = .ok (.iaload, 1) := by decide +kernel
theorem d_M_forget_75 : decode b_M_forget 75 = .ok (.iastore, 1) := by decide +kernel
theorem d_M_forget_76 : decode b_M_forget 76 = .ok (.aload_n 0, 1) := by decide +kernel
theorem d_M_forget_77 : decode b_M_forget 77 = .ok (.getfield 19, 3) := by decide +kernel
theorem d_M_forget_80 : decode b_M_forget 80 = .ok (.iload_n 2, 1) := by decide +kernel
theorem d_M_forget_81 : decode b_M_forget 81 = .ok (.aload_n 0, 1) := by decide +kernel
theorem d_M_forget_82 : decode b_M_forget 82 = .ok (.getfield 19, 3) := by decide +kernel
theorem d_M_forget_85 : decode b_M_forget 85 = .ok (.aload_n 0, 1) := by decide +kernel
theorem d_M_forget_86 : decode b_M_forget 86 = .ok (.getfield 37, 3) := by decide +kernel
theorem d_M_forget_89 : decode b_M_forget 89 = .ok (.iaload, 1) := by decide +kernel
theorem d_M_forget_90 : decode b_M_forget 90 = .ok (.iastore, 1) := by decide +kernel
theorem d_M_forget_91 : decode b_M_forget 91 = .ok (.iconst 1, 1) := by decide +kernel
theorem d_M_forget_92 : decode b_M_forget 92 = .ok (.ireturn, 1) := by decide +kernel
theorem d_M_words_0 : decode b_M_words 0 = .ok (.aload_n 0, 1) := by decide +kernel
theorem d_M_words_1 : decode b_M_words 1 = .ok (.getfield 37, 3) := by decide +kernel
theorem d_M_words_4 : decode b_M_words 4 = .ok (.ireturn, 1) := by decide +kernel
theorem d_M_letter_0 : decode b_M_letter 0 = .ok (.aload_n 0, 1) := by decide +kernel
theorem d_M_letter_1 : decode b_M_letter 1 = .ok (.iload_n 1, 1) := by decide +kernel
theorem d_M_letter_2 : decode b_M_letter 2 = .ok (.invokevirtual 57, 3) := by decide +kernel
theorem d_M_letter_5 : decode b_M_letter 5 = .ok (.istore_n 3, 1) := by decide +kernel
theorem d_M_letter_6 : decode b_M_letter 6 = .ok (.iload_n 3, 1) := by decide +kernel
theorem d_M_letter_7 : decode b_M_letter 7 = .ok (.ifCond .lt 17, 3) := by decide +kernel
theorem d_M_letter_10 : decode b_M_letter 10 = .ok (.iload_n 2, 1) := by decide +kernel
theorem d_M_letter_11 : decode b_M_letter 11 = .ok (.ifCond .lt 13, 3) := by decide +kernel
theorem d_M_letter_14 : decode b_M_letter 14 = .ok (.iload_n 2, 1) := by decide +kernel
theorem d_M_letter_15 : decode b_M_letter 15 = .ok (.aload_n 0, 1) := by decide +kernel
theorem d_M_letter_16 : decode b_M_letter 16 = .ok (.getfield 16, 3) := by decide +kernel
theorem d_M_letter_19 : decode b_M_letter 19 = .ok (.iload_n 3, 1) := by decide +kernel
theorem d_M_letter_20 : decode b_M_letter 20 = .ok (.iaload, 1) := by decide +kernel
theorem d_M_letter_21 : decode b_M_letter 21 = .ok (.if_icmp .lt 7, 3) := by decide +kernel
theorem d_M_letter_24 : decode b_M_letter 24 = .ok (.iconst (-1), 1) := by decide +kernel
theorem d_M_letter_25 : decode b_M_letter 25 = .ok (.goto 14, 3) := by decide +kernel
theorem d_M_letter_28 : decode b_M_letter 28 = .ok (.aload_n 0, 1) := by decide +kernel
theorem d_M_letter_29 : decode b_M_letter 29 = .ok (.getfield 13, 3) := by decide +kernel
theorem d_M_letter_32 : decode b_M_letter 32 = .ok (.bipush 8, 2) := by decide +kernel
theorem d_M_letter_34 : decode b_M_letter 34 = .ok (.iload_n 3, 1) := by decide +kernel
theorem d_M_letter_35 : decode b_M_letter 35 = .ok (.imul, 1) := by decide +kernel
theorem d_M_letter_36 : decode b_M_letter 36 = .ok (.iload_n 2, 1) := by decide +kernel
theorem d_M_letter_37 : decode b_M_letter 37 = .ok (.iadd, 1) := by decide +kernel
theorem d_M_letter_38 : decode b_M_letter 38 = .ok (.iaload, 1) := by decide +kernel
theorem d_M_letter_39 : decode b_M_letter 39 = .ok (.ireturn, 1) := by decide +kernel
theorem d_M_count_0 : decode b_M_count 0 = .ok (.aload_n 0, 1) := by decide +kernel
theorem d_M_count_1 : decode b_M_count 1 = .ok (.iload_n 1, 1) := by decide +kernel
theorem d_M_count_2 : decode b_M_count 2 = .ok (.invokevirtual 57, 3) := by decide +kernel
theorem d_M_count_5 : decode b_M_count 5 = .ok (.istore_n 2, 1) := by decide +kernel
theorem d_M_count_6 : decode b_M_count 6 = .ok (.iload_n 2, 1) := by decide +kernel
theorem d_M_count_7 : decode b_M_count 7 = .ok (.ifCond .ge 7, 3) := by decide +kernel
theorem d_M_count_10 : decode b_M_count 10 = .ok (.iconst 0, 1) := by decide +kernel
theorem d_M_count_11 : decode b_M_count 11 = .ok (.goto 9, 3) := by decide +kernel
theorem d_M_count_14 : decode b_M_count 14 = .ok (.aload_n 0, 1) := by decide +kernel
theorem d_M_count_15 : decode b_M_count 15 = .ok (.getfield 19, 3) := by decide +kernel
theorem d_M_count_18 : decode b_M_count 18 = .ok (.iload_n 2, 1) := by decide +kernel
theorem d_M_count_19 : decode b_M_count 19 = .ok (.iaload, 1) := by decide +kernel
theorem d_M_count_20 : decode b_M_count 20 = .ok (.ireturn, 1) := by decide +kernel
theorem d_M_rank_0 : decode b_M_rank 0 = .ok (.aload_n 0, 1) := by decide +kernel
theorem d_M_rank_1 : decode b_M_rank 1 = .ok (.invokevirtual 53, 3) := by decide +kernel
theorem d_M_rank_4 : decode b_M_rank 4 = .ok (.istore_n 1, 1) := by decide +kernel
theorem d_M_rank_5 : decode b_M_rank 5 = .ok (.iload_n 1, 1) := by decide +kernel
theorem d_M_rank_6 : decode b_M_rank 6 = .ok (.ifCond .ge 7, 3) := by decide +kernel
theorem d_M_rank_9 : decode b_M_rank 9 = .ok (.iconst (-1), 1) := by decide +kernel
theorem d_M_rank_10 : decode b_M_rank 10 = .ok (.goto 8, 3) := by decide +kernel
theorem d_M_rank_13 : decode b_M_rank 13 = .ok (.aload_n 0, 1) := by decide +kernel
theorem d_M_rank_14 : decode b_M_rank 14 = .ok (.iload_n 1, 1) := by decide +kernel
theorem d_M_rank_15 : decode b_M_rank 15 = .ok (.invokevirtual 44, 3) := by decide +kernel
theorem d_M_rank_18 : decode b_M_rank 18 = .ok (.ireturn, 1) := by decide +kernel
theorem d_M_reach_0 : decode b_M_reach 0 = .ok (.aload_n 0, 1) := by decide +kernel
theorem d_M_reach_1 : decode b_M_reach 1 = .ok (.getfield 22, 3) := by decide +kernel
theorem d_M_reach_4 : decode b_M_reach 4 = .ok (.iload_n 1, 1) := by decide +kernel
theorem d_M_reach_5 : decode b_M_reach 5 = .ok (.iaload, 1) := by decide +kernel
theorem d_M_reach_6 : decode b_M_reach 6 = .ok (.ifCond .ge 10, 3) := by decide +kernel
theorem d_M_reach_9 : decode b_M_reach 9 = .ok (.aload_n 0, 1) := by decide +kernel
theorem d_M_reach_10 : decode b_M_reach 10 = .ok (.getfield 22, 3) := by decide +kernel
theorem d_M_reach_13 : decode b_M_reach 13 = .ok (.iload_n 1, 1) := by decide +kernel
theorem d_M_reach_14 : decode b_M_reach 14 = .ok (.iload_n 2, 1) := by decide +kernel
theorem d_M_reach_15 : decode b_M_reach 15 = .ok (.iastore, 1) := by decide +kernel
theorem d_M_reach_16 : decode b_M_reach 16 = .ok (.return_, 1) := by decide +kernel
theorem d_M_far_0 : decode b_M_far 0 = .ok (.iconst 0, 1) := by decide +kernel
theorem d_M_far_1 : decode b_M_far 1 = .ok (.istore 4, 2) := by decide +kernel
theorem d_M_far_3 : decode b_M_far 3 = .ok (.iload 4, 2) := by decide +kernel
theorem d_M_far_5 : decode b_M_far 5 = .ok (.bipush 99, 2) := by decide +kernel
theorem d_M_far_7 : decode b_M_far 7 = .ok (.if_icmp .ge 17, 3) := by decide +kernel
theorem d_M_far_10 : decode b_M_far 10 = .ok (.aload_n 0, 1) := by decide +kernel
theorem d_M_far_11 : decode b_M_far 11 = .ok (.getfield 22, 3) := by decide +kernel
theorem d_M_far_14 : decode b_M_far 14 = .ok (.iload 4, 2) := by decide +kernel
theorem d_M_far_16 : decode b_M_far 16 = .ok (.iconst (-1), 1) := by decide +kernel
theorem d_M_far_17 : decode b_M_far 17 = .ok (.iastore, 1) := by decide +kernel
theorem d_M_far_18 : decode b_M_far 18 = .ok (.iinc 4 1, 3) := by decide +kernel
theorem d_M_far_21 : decode b_M_far 21 = .ok (.goto (-18), 3) := by decide +kernel
theorem d_M_far_24 : decode b_M_far 24 = .ok (.aload_n 0, 1) := by decide +kernel
theorem d_M_far_25 : decode b_M_far 25 = .ok (.getfield 22, 3) := by decide +kernel
theorem d_M_far_28 : decode b_M_far 28 = .ok (.bipush 9, 2) := by decide +kernel
theorem d_M_far_30 : decode b_M_far 30 = .ok (.iload_n 2, 1) := by decide +kernel
theorem d_M_far_31 : decode b_M_far 31 = .ok (.imul, 1) := by decide +kernel
theorem d_M_far_32 : decode b_M_far 32 = .ok (.iload_n 3, 1) := by decide +kernel
theorem d_M_far_33 : decode b_M_far 33 = .ok (.iadd, 1) := by decide +kernel
theorem d_M_far_34 : decode b_M_far 34 = .ok (.iconst 0, 1) := by decide +kernel
theorem d_M_far_35 : decode b_M_far 35 = .ok (.iastore, 1) := by decide +kernel
theorem d_M_far_36 : decode b_M_far 36 = .ok (.iconst 0, 1) := by decide +kernel
theorem d_M_far_37 : decode b_M_far 37 = .ok (.istore 4, 2) := by decide +kernel
theorem d_M_far_39 : decode b_M_far 39 = .ok (.iload 4, 2) := by decide +kernel
theorem d_M_far_41 : decode b_M_far 41 = .ok (.bipush 18, 2) := by decide +kernel
theorem d_M_far_43 : decode b_M_far 43 = .ok (.if_icmp .gt 260, 3) := by decide +kernel
theorem d_M_far_46 : decode b_M_far 46 = .ok (.iconst 0, 1) := by decide +kernel
theorem d_M_far_47 : decode b_M_far 47 = .ok (.istore 5, 2) := by decide +kernel
theorem d_M_far_49 : decode b_M_far 49 = .ok (.iload 5, 2) := by decide +kernel
theorem d_M_far_51 : decode b_M_far 51 = .ok (.bipush 99, 2) := by decide +kernel
theorem d_M_far_53 : decode b_M_far 53 = .ok (.if_icmp .ge 88, 3) := by decide +kernel
theorem d_M_far_56 : decode b_M_far 56 = .ok (.iload 5, 2) := by decide +kernel
theorem d_M_far_58 : decode b_M_far 58 = .ok (.bipush 9, 2) := by decide +kernel
theorem d_M_far_60 : decode b_M_far 60 = .ok (.idiv, 1) := by decide +kernel
theorem d_M_far_61 : decode b_M_far 61 = .ok (.istore 6, 2) := by decide +kernel
theorem d_M_far_63 : decode b_M_far 63 = .ok (.iload 5, 2) := by decide +kernel
theorem d_M_far_65 : decode b_M_far 65 = .ok (.bipush 9, 2) := by decide +kernel
theorem d_M_far_67 : decode b_M_far 67 = .ok (.irem, 1) := by decide +kernel
theorem d_M_far_68 : decode b_M_far 68 = .ok (.istore 7, 2) := by decide +kernel
theorem d_M_far_70 : decode b_M_far 70 = .ok (.aload_n 0, 1) := by decide +kernel
theorem d_M_far_71 : decode b_M_far 71 = .ok (.getfield 22, 3) := by decide +kernel
theorem d_M_far_74 : decode b_M_far 74 = .ok (.iload 5, 2) := by decide +kernel
theorem d_M_far_76 : decode b_M_far 76 = .ok (.iaload, 1) := by decide +kernel
theorem d_M_far_77 : decode b_M_far 77 = .ok (.iload 4, 2) := by decide +kernel
theorem d_M_far_79 : decode b_M_far 79 = .ok (.if_icmp .ne 56, 3) := by decide +kernel
theorem d_M_far_82 : decode b_M_far 82 = .ok (.iload 6, 2) := by decide +kernel
theorem d_M_far_84 : decode b_M_far 84 = .ok (.aload_n 0, 1) := by decide +kernel
theorem d_M_far_85 : decode b_M_far 85 = .ok (.getfield 29, 3) := by decide +kernel
theorem d_M_far_88 : decode b_M_far 88 = .ok (.if_icmp .ge 47, 3) := by decide +kernel
theorem d_M_far_91 : decode b_M_far 91 = .ok (.iload 7, 2) := by decide +kernel
theorem d_M_far_93 : decode b_M_far 93 = .ok (.aload_n 0, 1) := by decide +kernel
theorem d_M_far_94 : decode b_M_far 94 = .ok (.getfield 16, 3) := by decide +kernel
theorem d_M_far_97 : decode b_M_far 97 = .ok (.iload_n 1, 1) := by decide +kernel
theorem d_M_far_98 : decode b_M_far 98 = .ok (.iaload, 1) := by decide +kernel
theorem d_M_far_99 : decode b_M_far 99 = .ok (.if_icmp .ge 36, 3) := by decide +kernel
theorem d_M_far_102 : decode b_M_far 102 = .ok (.aload_n 0, 1) := by decide +kernel
theorem d_M_far_103 : decode b_M_far 103 = .ok (.getfield 7, 3) := by decide +kernel
theorem d_M_far_106 : decode b_M_far 106 = .ok (.iload 6, 2) := by decide +kernel
theorem d_M_far_108 : decode b_M_far 108 = .ok (.iaload, 1) := by decide +kernel
theorem d_M_far_109 : decode b_M_far 109 = .ok (.aload_n 0, 1) := by decide +kernel
theorem d_M_far_110 : decode b_M_far 110 = .ok (.getfield 13, 3) := by decide +kernel
theorem d_M_far_113 : decode b_M_far 113 = .ok (.bipush 8, 2) := by decide +kernel
theorem d_M_far_115 : decode b_M_far 115 = .ok (.iload_n 1, 1) := by decide +kernel
theorem d_M_far_116 : decode b_M_far 116 = .ok (.imul, 1) := by decide +kernel
theorem d_M_far_117 : decode b_M_far 117 = .ok (.iload 7, 2) := by decide +kernel
theorem d_M_far_119 : decode b_M_far 119 = .ok (.iadd, 1) := by decide +kernel
theorem d_M_far_120 : decode b_M_far 120 = .ok (.iaload, 1) := by decide +kernel
theorem d_M_far_121 : decode b_M_far 121 = .ok (.if_icmp .ne 14, 3) := by decide +kernel
theorem d_M_far_124 : decode b_M_far 124 = .ok (.aload_n 0, 1) := by decide +kernel
theorem d_M_far_125 : decode b_M_far 125 = .ok (.iload 5, 2) := by decide +kernel
theorem d_M_far_127 : decode b_M_far 127 = .ok (.bipush 10, 2) := by decide +kernel
theorem d_M_far_129 : decode b_M_far 129 = .ok (.iadd, 1) := by decide +kernel
theorem d_M_far_130 : decode b_M_far 130 = .ok (.iload 4, 2) := by decide +kernel
theorem d_M_far_132 : decode b_M_far 132 = .ok (.invokevirtual 60, 3) := by decide +kernel
theorem d_M_far_135 : decode b_M_far 135 = .ok (.iinc 5 1, 3) := by decide +kernel
theorem d_M_far_138 : decode b_M_far 138 = .ok (.goto (-89), 3) := by decide +kernel
theorem d_M_far_141 : decode b_M_far 141 = .ok (.aload_n 0, 1) := by decide +kernel
theorem d_M_far_142 : decode b_M_far 142 = .ok (.getfield 22, 3) := by decide +kernel
theorem d_M_far_145 : decode b_M_far 145 = .ok (.bipush 9, 2) := by decide +kernel
theorem d_M_far_147 : decode b_M_far 147 = .ok (.aload_n 0, 1) := by decide +kernel
theorem d_M_far_148 : decode b_M_far 148 = .ok (.getfield 29, 3) := by decide +kernel
theorem d_M_far_151 : decode b_M_far 151 = .ok (.imul, 1) := by decide +kernel
theorem d_M_far_152 : decode b_M_far 152 = .ok (.aload_n 0, 1) := by decide +kernel
theorem d_M_far_153 : decode b_M_far 153 = .ok (.getfield 16, 3) := by decide +kernel
theorem d_M_far_156 : decode b_M_far 156 = .ok (.iload_n 1, 1) := by decide +kernel
theorem d_M_far_157 : decode b_M_far 157 = .ok (.iaload, 1) := by decide +kernel
theorem d_M_far_158 : decode b_M_far 158 = .ok (.iadd, 1) := by decide +kernel
theorem d_M_far_159 : decode b_M_far 159 = .ok (.iaload, 1) := by decide +kernel
theorem d_M_far_160 : decode b_M_far 160 = .ok (.iload 4, 2) := by decide +kernel
theorem d_M_far_162 : decode b_M_far 162 = .ok (.if_icmp .ne 6, 3) := by decide +kernel
theorem d_M_far_165 : decode b_M_far 165 = .ok (.iload 4, 2) := by decide +kernel
theorem d_M_far_167 : decode b_M_far 167 = .ok (.ireturn, 1) := by decide +kernel
theorem d_M_far_168 : decode b_M_far 168 = .ok (.iconst 0, 1) := by decide +kernel
theorem d_M_far_169 : decode b_M_far 169 = .ok (.istore 5, 2) := by decide +kernel
theorem d_M_far_171 : decode b_M_far 171 = .ok (.iload 5, 2) := by decide +kernel
theorem d_M_far_173 : decode b_M_far 173 = .ok (.bipush 99, 2) := by decide +kernel
theorem d_M_far_175 : decode b_M_far 175 = .ok (.if_icmp .ge 122, 3) := by decide +kernel
theorem d_M_far_178 : decode b_M_far 178 = .ok (.aload_n 0, 1) := by decide +kernel
theorem d_M_far_179 : decode b_M_far 179 = .ok (.getfield 22, 3) := by decide +kernel
theorem d_M_far_182 : decode b_M_far 182 = .ok (.iload 5, 2) := by decide +kernel
theorem d_M_far_184 : decode b_M_far 184 = .ok (.iaload, 1) := by decide +kernel
theorem d_M_far_185 : decode b_M_far 185 = .ok (.iload 4, 2) := by decide +kernel
theorem d_M_far_187 : decode b_M_far 187 = .ok (.if_icmp .eq 6, 3) := by decide +kernel
theorem d_M_far_190 : decode b_M_far 190 = .ok (.goto 101, 3) := by decide +kernel
theorem d_M_far_193 : decode b_M_far 193 = .ok (.iload 5, 2) := by decide +kernel
theorem d_M_far_195 : decode b_M_far 195 = .ok (.bipush 9, 2) := by decide +kernel
theorem d_M_far_197 : decode b_M_far 197 = .ok (.idiv, 1) := by decide +kernel
theorem d_M_far_198 : decode b_M_far 198 = .ok (.aload_n 0, 1) := by decide +kernel
theorem d_M_far_199 : decode b_M_far 199 = .ok (.getfield 29, 3) := by decide +kernel
theorem d_M_far_202 : decode b_M_far 202 = .ok (.if_icmp .ge 7, 3) := by decide +kernel
theorem d_M_far_205 : decode b_M_far 205 = .ok (.iconst 1, 1) := by decide +kernel
theorem d_M_far_206 : decode b_M_far 206 = .ok (.goto 4, 3) := by decide +kernel
theorem d_M_far_209 : decode b_M_far 209 = .ok (.iconst 0, 1) := by decide +kernel
theorem d_M_far_210 : decode b_M_far 210 = .ok (.istore 6, 2) := by decide +kernel
theorem d_M_far_212 : decode b_M_far 212 = .ok (.iload 5, 2) := by decide +kernel
theorem d_M_far_214 : decode b_M_far 214 = .ok (.bipush 9, 2) := by decide +kernel
theorem d_M_far_216 : decode b_M_far 216 = .ok (.irem, 1) := by decide +kernel
theorem d_M_far_217 : decode b_M_far 217 = .ok (.aload_n 0, 1) := by decide +kernel
theorem d_M_far_218 : decode b_M_far 218 = .ok (.getfield 16, 3) := by decide +kernel
theorem d_M_far_221 : decode b_M_far 221 = .ok (.iload_n 1, 1) := by decide +kernel
theorem d_M_far_222 : decode b_M_far 222 = .ok (.iaload, 1) := by decide +kernel
theorem d_M_far_223 : decode b_M_far 223 = .ok (.if_icmp .ge 7, 3) := by decide +kernel
theorem d_M_far_226 : decode b_M_far 226 = .ok (.iconst 1, 1) := by decide +kernel
theorem d_M_far_227 : decode b_M_far 227 = .ok (.goto 4, 3) := by decide +kernel
theorem d_M_far_230 : decode b_M_far 230 = .ok (.iconst 0, 1) := by decide +kernel
theorem d_M_far_231 : decode b_M_far 231 = .ok (.istore 7, 2) := by decide +kernel
theorem d_M_far_233 : decode b_M_far 233 = .ok (.iload 6, 2) := by decide +kernel
theorem d_M_far_235 : decode b_M_far 235 = .ok (.ifCond .eq 21, 3) := by decide +kernel
theorem d_M_far_238 : decode b_M_far 238 = .ok (.iload 7, 2) := by decide +kernel
theorem d_M_far_240 : decode b_M_far 240 = .ok (.ifCond .eq 16, 3) := by decide +kernel
theorem d_M_far_243 : decode b_M_far 243 = .ok (.aload_n 0, 1) := by decide +kernel
theorem d_M_far_244 : decode b_M_far 244 = .ok (.iload 5, 2) := by decide +kernel
theorem d_M_far_246 : decode b_M_far 246 = .ok (.bipush 10, 2) := by decide +kernel
theorem d_M_far_248 : decode b_M_far 248 = .ok (.iadd, 1) := by decide +kernel
theorem d_M_far_249 : decode b_M_far 249 = .ok (.iload 4, 2) := by decide +kernel
theorem d_M_far_251 : decode b_M_far 251 = .ok (.iconst 1, 1) := by decide +kernel
theorem d_M_far_252 : decode b_M_far 252 = .ok (.iadd, 1) := by decide +kernel
theorem d_M_far_253 : decode b_M_far 253 = .ok (.invokevirtual 60, 3) := by decide +kernel
theorem d_M_far_256 : decode b_M_far 256 = .ok (.iload 6, 2) := by decide +kernel
theorem d_M_far_258 : decode b_M_far 258 = .ok (.ifCond .eq 16, 3) := by decide +kernel
theorem d_M_far_261 : decode b_M_far 261 = .ok (.aload_n 0, 1) := by decide +kernel
theorem d_M_far_262 : decode b_M_far 262 = .ok (.iload 5, 2) := by decide +kernel
theorem d_M_far_264 : decode b_M_far 264 = .ok (.bipush 9, 2) := by decide +kernel
theorem d_M_far_266 : decode b_M_far 266 = .ok (.iadd, 1) := by decide +kernel
theorem d_M_far_267 : decode b_M_far 267 = .ok (.iload 4, 2) := by decide +kernel
theorem d_M_far_269 : decode b_M_far 269 = .ok (.iconst 1, 1) := by decide +kernel
theorem d_M_far_270 : decode b_M_far 270 = .ok (.iadd, 1) := by decide +kernel
theorem d_M_far_271 : decode b_M_far 271 = .ok (.invokevirtual 60, 3) := by decide +kernel
theorem d_M_far_274 : decode b_M_far 274 = .ok (.iload 7, 2) := by decide +kernel
theorem d_M_far_276 : decode b_M_far 276 = .ok (.ifCond .eq 15, 3) := by decide +kernel
theorem d_M_far_279 : decode b_M_far 279 = .ok (.aload_n 0, 1) := by decide +kernel
theorem d_M_far_280 : decode b_M_far 280 = .ok (.iload 5, 2) := by decide +kernel
theorem d_M_far_282 : decode b_M_far 282 = .ok (.iconst 1, 1) := by decide +kernel
theorem d_M_far_283 : decode b_M_far 283 = .ok (.iadd, 1) := by decide +kernel
theorem d_M_far_284 : decode b_M_far 284 = .ok (.iload 4, 2) := by decide +kernel
theorem d_M_far_286 : decode b_M_far 286 = .ok (.iconst 1, 1) := by decide +kernel
theorem d_M_far_287 : decode b_M_far 287 = .ok (.iadd, 1) := by decide +kernel
theorem d_M_far_288 : decode b_M_far 288 = .ok (.invokevirtual 60, 3) := by decide +kernel
theorem d_M_far_291 : decode b_M_far 291 = .ok (.iinc 5 1, 3) := by decide +kernel
theorem d_M_far_294 : decode b_M_far 294 = .ok (.goto (-123), 3) := by decide +kernel
theorem d_M_far_297 : decode b_M_far 297 = .ok (.iinc 4 1, 3) := by decide +kernel
theorem d_M_far_300 : decode b_M_far 300 = .ok (.goto (-261), 3) := by decide +kernel
theorem d_M_far_303 : decode b_M_far 303 = .ok (.bipush 18, 2) := by decide +kernel
theorem d_M_far_305 : decode b_M_far 305 = .ok (.ireturn, 1) := by decide +kernel
theorem d_M_distance_0 : decode b_M_distance 0 = .ok (.aload_n 0, 1) := by decide +kernel
theorem d_M_distance_1 : decode b_M_distance 1 = .ok (.iload_n 1, 1) := by decide +kernel
theorem d_M_distance_2 : decode b_M_distance 2 = .ok (.invokevirtual 57, 3) := by decide +kernel
theorem d_M_distance_5 : decode b_M_distance 5 = .ok (.istore_n 2, 1) := by decide +kernel
theorem d_M_distance_6 : decode b_M_distance 6 = .ok (.iload_n 2, 1) := by decide +kernel
theorem d_M_distance_7 : decode b_M_distance 7 = .ok (.ifCond .ge 7, 3) := by decide +kernel
theorem d_M_distance_10 : decode b_M_distance 10 = .ok (.iconst (-1), 1) := by decide +kernel
theorem d_M_distance_11 : decode b_M_distance 11 = .ok (.goto 10, 3) := by decide +kernel
theorem d_M_distance_14 : decode b_M_distance 14 = .ok (.aload_n 0, 1) := by decide +kernel
theorem d_M_distance_15 : decode b_M_distance 15 = .ok (.iload_n 2, 1) := by decide +kernel
theorem d_M_distance_16 : decode b_M_distance 16 = .ok (.iconst 0, 1) := by decide +kernel
theorem d_M_distance_17 : decode b_M_distance 17 = .ok (.iconst 0, 1) := by decide +kernel
theorem d_M_distance_18 : decode b_M_distance 18 = .ok (.invokevirtual 64, 3) := by decide +kernel
theorem d_M_distance_21 : decode b_M_distance 21 = .ok (.ireturn, 1) := by decide +kernel
theorem d_M_near_0 : decode b_M_near 0 = .ok (.iconst 0, 1) := by decide +kernel
theorem d_M_near_1 : decode b_M_near 1 = .ok (.istore_n 2, 1) := by decide +kernel
theorem d_M_near_2 : decode b_M_near 2 = .ok (.iconst 0, 1) := by decide +kernel
theorem d_M_near_3 : decode b_M_near 3 = .ok (.istore_n 3, 1) := by decide +kernel
theorem d_M_near_4 : decode b_M_near 4 = .ok (.iload_n 3, 1) := by decide +kernel
theorem d_M_near_5 : decode b_M_near 5 = .ok (.aload_n 0, 1) := by decide +kernel
theorem d_M_near_6 : decode b_M_near 6 = .ok (.getfield 37, 3) := by decide +kernel
theorem d_M_near_9 : decode b_M_near 9 = .ok (.if_icmp .ge 23, 3) := by decide +kernel
theorem d_M_near_12 : decode b_M_near 12 = .ok (.aload_n 0, 1) := by decide +kernel
theorem d_M_near_13 : decode b_M_near 13 = .ok (.iload_n 3, 1) := by decide +kernel
theorem d_M_near_14 : decode b_M_near 14 = .ok (.iconst 0, 1) := by decide +kernel
theorem d_M_near_15 : decode b_M_near 15 = .ok (.iconst 0, 1) := by decide +kernel
theorem d_M_near_16 : decode b_M_near 16 = .ok (.invokevirtual 64, 3) := by decide +kernel
theorem d_M_near_19 : decode b_M_near 19 = .ok (.iload_n 1, 1) := by decide +kernel
theorem d_M_near_20 : decode b_M_near 20 = .ok (.if_icmp .gt 6, 3) := by decide +kernel
theorem d_M_near_23 : decode b_M_near 23 = .ok (.iinc 2 1, 3) := by decide +kernel
theorem d_M_near_26 : decode b_M_near 26 = .ok (.iinc 3 1, 3) := by decide +kernel
theorem d_M_near_29 : decode b_M_near 29 = .ok (.goto (-25), 3) := by decide +kernel
theorem d_M_near_32 : decode b_M_near 32 = .ok (.iload_n 2, 1) := by decide +kernel
theorem d_M_near_33 : decode b_M_near 33 = .ok (.ireturn, 1) := by decide +kernel
theorem d_M_better_0 : decode b_M_better 0 = .ok (.iload_n 2, 1) := by decide +kernel
theorem d_M_better_1 : decode b_M_better 1 = .ok (.iload 4, 2) := by decide +kernel
theorem d_M_better_3 : decode b_M_better 3 = .ok (.if_icmp .eq 15, 3) := by decide +kernel
theorem d_M_better_6 : decode b_M_better 6 = .ok (.iload_n 2, 1) := by decide +kernel
theorem d_M_better_7 : decode b_M_better 7 = .ok (.iload 4, 2) := by decide +kernel
theorem d_M_better_9 : decode b_M_better 9 = .ok (.if_icmp .ge 7, 3) := by decide +kernel
theorem d_M_better_12 : decode b_M_better 12 = .ok (.iconst 1, 1) := by decide +kernel
theorem d_M_better_13 : decode b_M_better 13 = .ok (.goto 4, 3) := by decide +kernel
theorem d_M_better_16 : decode b_M_better 16 = .ok (.iconst 0, 1) := by decide +kernel
theorem d_M_better_17 : decode b_M_better 17 = .ok (.ireturn, 1) := by decide +kernel
theorem d_M_better_18 : decode b_M_better 18 = .ok (.aload_n 0, 1) := by decide +kernel
theorem d_M_better_19 : decode b_M_better 19 = .ok (.getfield 19, 3) := by decide +kernel
theorem d_M_better_22 : decode b_M_better 22 = .ok (.iload_n 1, 1) := by decide +kernel
theorem d_M_better_23 : decode b_M_better 23 = .ok (.iaload, 1) := by decide +kernel
theorem d_M_better_24 : decode b_M_better 24 = .ok (.aload_n 0, 1) := by decide +kernel
theorem d_M_better_25 : decode b_M_better 25 = .ok (.getfield 19, 3) := by decide +kernel
theorem d_M_better_28 : decode b_M_better 28 = .ok (.iload_n 3, 1) := by decide +kernel
theorem d_M_better_29 : decode b_M_better 29 = .ok (.iaload, 1) := by decide +kernel
theorem d_M_better_30 : decode b_M_better 30 = .ok (.if_icmp .eq 26, 3) := by decide +kernel
theorem d_M_better_33 : decode b_M_better 33 = .ok (.aload_n 0, 1) := by decide +kernel
theorem d_M_better_34 : decode b_M_better 34 = .ok (.getfield 19, 3) := by decide +kernel
theorem d_M_better_37 : decode b_M_better 37 = .ok (.iload_n 1, 1) := by decide +kernel
theorem d_M_better_38 : decode b_M_better 38 = .ok (.iaload, 1) := by decide +kernel
theorem d_M_better_39 : decode b_M_better 39 = .ok (.aload_n 0, 1) := by decide +kernel
theorem d_M_better_40 : decode b_M_better 40 = .ok (.getfield 19, 3) := by decide +kernel
theorem d_M_better_43 : decode b_M_better 43 = .ok (.iload_n 3, 1) := by decide +kernel
theorem d_M_better_44 : decode b_M_better 44 = .ok (.iaload, 1) := by decide +kernel
theorem d_M_better_45 : decode b_M_better 45 = .ok (.if_icmp .le 7, 3) := by decide +kernel
theorem d_M_better_48 : decode b_M_better 48 = .ok (.iconst 1, 1) := by decide +kernel
theorem d_M_better_49 : decode b_M_better 49 = .ok (.goto 13, 3) := by decide +kernel
theorem d_M_better_52 : decode b_M_better 52 = .ok (.iconst 0, 1) := by decide +kernel
theorem d_M_better_53 : decode b_M_better 53 = .ok (.goto 9, 3) := by decide +kernel
theorem d_M_better_56 : decode b_M_better 56 = .ok (.aload_n 0, 1) := by decide +kernel
theorem d_M_better_57 : decode b_M_better 57 = .ok (.iload_n 1, 1) := by decide +kernel
theorem d_M_better_58 : decode b_M_better 58 = .ok (.iload_n 3, 1) := by decide +kernel
theorem d_M_better_59 : decode b_M_better 59 = .ok (.invokevirtual 40, 3) := by decide +kernel
theorem d_M_better_62 : decode b_M_better 62 = .ok (.ireturn, 1) := by decide +kernel
theorem d_M_suggest_0 : decode b_M_suggest 0 = .ok (.iconst 0, 1) := by decide +kernel
theorem d_M_suggest_1 : decode b_M_suggest 1 = .ok (.istore_n 3, 1) := by decide +kernel
theorem d_M_suggest_2 : decode b_M_suggest 2 = .ok (.iload_n 3, 1) := by decide +kernel
theorem d_M_suggest_3 : decode b_M_suggest 3 = .ok (.aload_n 0, 1) := by decide +kernel
theorem d_M_suggest_4 : decode b_M_suggest 4 = .ok (.getfield 37, 3) := by decide +kernel
theorem d_M_suggest_7 : decode b_M_suggest 7 = .ok (.if_icmp .ge 94, 3) := by decide +kernel
theorem d_M_suggest_10 : decode b_M_suggest 10 = .ok (.iload_n 1, 1) := by decide +kernel
theorem d_M_suggest_11 : decode b_M_suggest 11 = .ok (.ifCond .lt 90, 3) := by decide +kernel
theorem d_M_suggest_14 : decode b_M_suggest 14 = .ok (.aload_n 0, 1) := by decide +kernel
theorem d_M_suggest_15 : decode b_M_suggest 15 = .ok (.iload_n 3, 1) := by decide +kernel
theorem d_M_suggest_16 : decode b_M_suggest 16 = .ok (.iconst 0, 1) := by decide +kernel
theorem d_M_suggest_17 : decode b_M_suggest 17 = .ok (.iconst 0, 1) := by decide +kernel
theorem d_M_suggest_18 : decode b_M_suggest 18 = .ok (.invokevirtual 64, 3) := by decide +kernel
theorem d_M_suggest_21 : decode b_M_suggest 21 = .ok (.istore 4, 2) := by decide +kernel
theorem d_M_suggest_23 : decode b_M_suggest 23 = .ok (.iconst 0, 1) := by decide +kernel
theorem d_M_suggest_24 : decode b_M_suggest 24 = .ok (.istore 5, 2) := by decide +kernel
theorem d_M_suggest_26 : decode b_M_suggest 26 = .ok (.iconst 0, 1) := by decide +kernel
theorem d_M_suggest_27 : decode b_M_suggest 27 = .ok (.istore 6, 2) := by decide +kernel
theorem d_M_suggest_29 : decode b_M_suggest 29 = .ok (.iload 6, 2) := by decide +kernel
theorem d_M_suggest_31 : decode b_M_suggest 31 = .ok (.aload_n 0, 1) := by decide +kernel
theorem d_M_suggest_32 : decode b_M_suggest 32 = .ok (.getfield 37, 3) := by decide +kernel
theorem d_M_suggest_35 : decode b_M_suggest 35 = .ok (.if_icmp .ge 42, 3) := by decide +kernel
theorem d_M_suggest_38 : decode b_M_suggest 38 = .ok (.aload_n 0, 1) := by decide +kernel
theorem d_M_suggest_39 : decode b_M_suggest 39 = .ok (.iload 6, 2) := by decide +kernel
theorem d_M_suggest_41 : decode b_M_suggest 41 = .ok (.iconst 0, 1) := by decide +kernel
theorem d_M_suggest_42 : decode b_M_suggest 42 = .ok (.iconst 0, 1) := by decide +kernel
theorem d_M_suggest_43 : decode b_M_suggest 43 = .ok (.invokevirtual 64, 3) := by decide +kernel
theorem d_M_suggest_46 : decode b_M_suggest 46 = .ok (.istore 7, 2) := by decide +kernel
theorem d_M_suggest_48 : decode b_M_suggest 48 = .ok (.iload 7, 2) := by decide +kernel
theorem d_M_suggest_50 : decode b_M_suggest 50 = .ok (.iload_n 2, 1) := by decide +kernel
theorem d_M_suggest_51 : decode b_M_suggest 51 = .ok (.if_icmp .gt 20, 3) := by decide +kernel
theorem d_M_suggest_54 : decode b_M_suggest 54 = .ok (.aload_n 0, 1) := by decide +kernel
theorem d_M_suggest_55 : decode b_M_suggest 55 = .ok (.iload 6, 2) := by decide +kernel
theorem d_M_suggest_57 : decode b_M_suggest 57 = .ok (.iload 7, 2) := by decide +kernel
theorem d_M_suggest_59 : decode b_M_suggest 59 = .ok (.iload_n 3, 1) := by decide +kernel
theorem d_M_suggest_60 : decode b_M_suggest 60 = .ok (.iload 4, 2) := by decide +kernel
theorem d_M_suggest_62 : decode b_M_suggest 62 = .ok (.invokevirtual 68, 3) := by decide +kernel
theorem d_M_suggest_65 : decode b_M_suggest 65 = .ok (.ifCond .eq 6, 3) := by decide +kernel
theorem d_M_suggest_68 : decode b_M_suggest 68 = .ok (.iinc 5 1, 3) := by decide +kernel
theorem d_M_suggest_71 : decode b_M_suggest 71 = .ok (.iinc 6 1, 3) := by decide +kernel
theorem d_M_suggest_74 : decode b_M_suggest 74 = .ok (.goto (-45), 3) := by decide +kernel
theorem d_M_suggest_77 : decode b_M_suggest 77 = .ok (.iload 4, 2) := by decide +kernel
theorem d_M_suggest_79 : decode b_M_suggest 79 = .ok (.iload_n 2, 1) := by decide +kernel
theorem d_M_suggest_80 : decode b_M_suggest 80 = .ok (.if_icmp .gt 15, 3) := by decide +kernel
theorem d_M_suggest_83 : decode b_M_suggest 83 = .ok (.iload 5, 2) := by decide +kernel
theorem d_M_suggest_85 : decode b_M_suggest 85 = .ok (.iload_n 1, 1) := by decide +kernel
theorem d_M_suggest_86 : decode b_M_suggest 86 = .ok (.if_icmp .ne 9, 3) := by decide +kernel
theorem d_M_suggest_89 : decode b_M_suggest 89 = .ok (.aload_n 0, 1) := by decide +kernel
theorem d_M_suggest_90 : decode b_M_suggest 90 = .ok (.iload_n 3, 1) := by decide +kernel
theorem d_M_suggest_91 : decode b_M_suggest 91 = .ok (.invokevirtual 44, 3) := by decide +kernel
theorem d_M_suggest_94 : decode b_M_suggest 94 = .ok (.ireturn, 1) := by decide +kernel
theorem d_M_suggest_95 : decode b_M_suggest 95 = .ok (.iinc 3 1, 3) := by decide +kernel
theorem d_M_suggest_98 : decode b_M_suggest 98 = .ok (.goto (-96), 3) := by decide +kernel
theorem d_M_suggest_101 : decode b_M_suggest 101 = .ok (.iconst (-1), 1) := by decide +kernel
theorem d_M_suggest_102 : decode b_M_suggest 102 = .ok (.ireturn, 1) := by decide +kernel
theorem d_M_complete_0 : decode b_M_complete 0 = .ok (.iconst 0, 1) := by decide +kernel
theorem d_M_complete_1 : decode b_M_complete 1 = .ok (.istore_n 2, 1) := by decide +kernel
theorem d_M_complete_2 : decode b_M_complete 2 = .ok (.iload_n 2, 1) := by decide +kernel
theorem d_M_complete_3 : decode b_M_complete 3 = .ok (.aload_n 0, 1) := by decide +kernel
theorem d_M_complete_4 : decode b_M_complete 4 = .ok (.getfield 37, 3) := by decide +kernel
theorem d_M_complete_7 : decode b_M_complete 7 = .ok (.if_icmp .ge 76, 3) := by decide +kernel
theorem d_M_complete_10 : decode b_M_complete 10 = .ok (.iload_n 1, 1) := by decide +kernel
theorem d_M_complete_11 : decode b_M_complete 11 = .ok (.ifCond .lt 72, 3) := by decide +kernel
theorem d_M_complete_14 : decode b_M_complete 14 = .ok (.iconst 0, 1) := by decide +kernel
theorem d_M_complete_15 : decode b_M_complete 15 = .ok (.istore_n 3, 1) := by decide +kernel
theorem d_M_complete_16 : decode b_M_complete 16 = .ok (.iconst 0, 1) := by decide +kernel
theorem d_M_complete_17 : decode b_M_complete 17 = .ok (.istore 4, 2) := by decide +kernel
theorem d_M_complete_19 : decode b_M_complete 19 = .ok (.iload 4, 2) := by decide +kernel
theorem d_M_complete_21 : decode b_M_complete 21 = .ok (.aload_n 0, 1) := by decide +kernel
theorem d_M_complete_22 : decode b_M_complete 22 = .ok (.getfield 37, 3) := by decide +kernel
theorem d_M_complete_25 : decode b_M_complete 25 = .ok (.if_icmp .ge 33, 3) := by decide +kernel
theorem d_M_complete_28 : decode b_M_complete 28 = .ok (.aload_n 0, 1) := by decide +kernel
theorem d_M_complete_29 : decode b_M_complete 29 = .ok (.iload 4, 2) := by decide +kernel
theorem d_M_complete_31 : decode b_M_complete 31 = .ok (.invokevirtual 48, 3) := by decide +kernel
theorem d_M_complete_34 : decode b_M_complete 34 = .ok (.ifCond .eq 18, 3) := by decide +kernel
theorem d_M_complete_37 : decode b_M_complete 37 = .ok (.aload_n 0, 1) := by decide +kernel
theorem d_M_complete_38 : decode b_M_complete 38 = .ok (.iload 4, 2) := by decide +kernel
theorem d_M_complete_40 : decode b_M_complete 40 = .ok (.iconst 0, 1) := by decide +kernel
theorem d_M_complete_41 : decode b_M_complete 41 = .ok (.iload_n 2, 1) := by decide +kernel
theorem d_M_complete_42 : decode b_M_complete 42 = .ok (.iconst 0, 1) := by decide +kernel
theorem d_M_complete_43 : decode b_M_complete 43 = .ok (.invokevirtual 68, 3) := by decide +kernel
theorem d_M_complete_46 : decode b_M_complete 46 = .ok (.ifCond .eq 6, 3) := by decide +kernel
theorem d_M_complete_49 : decode b_M_complete 49 = .ok (.iinc 3 1, 3) := by decide +kernel
theorem d_M_complete_52 : decode b_M_complete 52 = .ok (.iinc 4 1, 3) := by decide +kernel
theorem d_M_complete_55 : decode b_M_complete 55 = .ok (.goto (-36), 3) := by decide +kernel
theorem d_M_complete_58 : decode b_M_complete 58 = .ok (.aload_n 0, 1) := by decide +kernel
theorem d_M_complete_59 : decode b_M_complete 59 = .ok (.iload_n 2, 1) := by decide +kernel
theorem d_M_complete_60 : decode b_M_complete 60 = .ok (.invokevirtual 48, 3) := by decide +kernel
theorem d_M_complete_63 : decode b_M_complete 63 = .ok (.ifCond .eq 14, 3) := by decide +kernel
theorem d_M_complete_66 : decode b_M_complete 66 = .ok (.iload_n 3, 1) := by decide +kernel
theorem d_M_complete_67 : decode b_M_complete 67 = .ok (.iload_n 1, 1) := by decide +kernel
theorem d_M_complete_68 : decode b_M_complete 68 = .ok (.if_icmp .ne 9, 3) := by decide +kernel
theorem d_M_complete_71 : decode b_M_complete 71 = .ok (.aload_n 0, 1) := by decide +kernel
theorem d_M_complete_72 : decode b_M_complete 72 = .ok (.iload_n 2, 1) := by decide +kernel
theorem d_M_complete_73 : decode b_M_complete 73 = .ok (.invokevirtual 44, 3) := by decide +kernel
theorem d_M_complete_76 : decode b_M_complete 76 = .ok (.ireturn, 1) := by decide +kernel
theorem d_M_complete_77 : decode b_M_complete 77 = .ok (.iinc 2 1, 3) := by decide +kernel
theorem d_M_complete_80 : decode b_M_complete 80 = .ok (.goto (-78), 3) := by decide +kernel
theorem d_M_complete_83 : decode b_M_complete 83 = .ok (.iconst (-1), 1) := by decide +kernel
theorem d_M_complete_84 : decode b_M_complete 84 = .ok (.ireturn, 1) := by decide +kernel
theorem d_M_edit_0 : decode b_M_edit 0 = .ok (.aload_n 0, 1) := by decide +kernel
theorem d_M_edit_1 : decode b_M_edit 1 = .ok (.iload_n 1, 1) := by decide +kernel
theorem d_M_edit_2 : decode b_M_edit 2 = .ok (.invokevirtual 57, 3) := by decide +kernel
theorem d_M_edit_5 : decode b_M_edit 5 = .ok (.istore_n 3, 1) := by decide +kernel
theorem d_M_edit_6 : decode b_M_edit 6 = .ok (.iload_n 3, 1) := by decide +kernel
theorem d_M_edit_7 : decode b_M_edit 7 = .ok (.ifCond .lt 13, 3) := by decide +kernel
theorem d_M_edit_10 : decode b_M_edit 10 = .ok (.iload_n 2, 1) := by decide +kernel
theorem d_M_edit_11 : decode b_M_edit 11 = .ok (.ifCond .lt 9, 3) := by decide +kernel
theorem d_M_edit_14 : decode b_M_edit 14 = .ok (.iload_n 2, 1) := by decide +kernel
theorem d_M_edit_15 : decode b_M_edit 15 = .ok (.bipush 18, 2) := by decide +kernel
theorem d_M_edit_17 : decode b_M_edit 17 = .ok (.if_icmp .le 5, 3) := by decide +kernel
theorem d_M_edit_20 : decode b_M_edit 20 = .ok (.iconst (-1), 1) := by decide +kernel
theorem d_M_edit_21 : decode b_M_edit 21 = .ok (.ireturn, 1) := by decide +kernel
theorem d_M_edit_22 : decode b_M_edit 22 = .ok (.iconst 0, 1) := by decide +kernel
theorem d_M_edit_23 : decode b_M_edit 23 = .ok (.istore 4, 2) := by decide +kernel
theorem d_M_edit_25 : decode b_M_edit 25 = .ok (.iconst 0, 1) := by decide +kernel
theorem d_M_edit_26 : decode b_M_edit 26 = .ok (.istore 5, 2) := by decide +kernel
theorem d_M_edit_28 : decode b_M_edit 28 = .ok (.aload_n 0, 1) := by decide +kernel
theorem d_M_edit_29 : decode b_M_edit 29 = .ok (.iload_n 3, 1) := by decide +kernel
theorem d_M_edit_30 : decode b_M_edit 30 = .ok (.iconst 0, 1) := by decide +kernel
theorem d_M_edit_31 : decode b_M_edit 31 = .ok (.iconst 0, 1) := by decide +kernel
theorem d_M_edit_32 : decode b_M_edit 32 = .ok (.invokevirtual 64, 3) := by decide +kernel
theorem d_M_edit_35 : decode b_M_edit 35 = .ok (.istore 6, 2) := by decide +kernel
theorem d_M_edit_37 : decode b_M_edit 37 = .ok (.iconst 0, 1) := by decide +kernel
theorem d_M_edit_38 : decode b_M_edit 38 = .ok (.istore 7, 2) := by decide +kernel
theorem d_M_edit_40 : decode b_M_edit 40 = .ok (.iload 7, 2) := by decide +kernel
theorem d_M_edit_42 : decode b_M_edit 42 = .ok (.iload_n 2, 1) := by decide +kernel
theorem d_M_edit_43 : decode b_M_edit 43 = .ok (.if_icmp .gt 62, 3) := by decide +kernel
theorem d_M_edit_46 : decode b_M_edit 46 = .ok (.aload_n 0, 1) := by decide +kernel
theorem d_M_edit_47 : decode b_M_edit 47 = .ok (.iload_n 3, 1) := by decide +kernel
theorem d_M_edit_48 : decode b_M_edit 48 = .ok (.iload 4, 2) := by decide +kernel
theorem d_M_edit_50 : decode b_M_edit 50 = .ok (.iload 5, 2) := by decide +kernel
theorem d_M_edit_52 : decode b_M_edit 52 = .ok (.iload 6, 2) := by decide +kernel
theorem d_M_edit_54 : decode b_M_edit 54 = .ok (.invokevirtual 72, 3) := by decide +kernel
theorem d_M_edit_57 : decode b_M_edit 57 = .ok (.istore 8, 2) := by decide +kernel
theorem d_M_edit_59 : decode b_M_edit 59 = .ok (.iload 8, 2) := by decide +kernel
theorem d_M_edit_61 : decode b_M_edit 61 = .ok (.ifCond .lt 9, 3) := by decide +kernel
theorem d_M_edit_64 : decode b_M_edit 64 = .ok (.iload 7, 2) := by decide +kernel
theorem d_M_edit_66 : decode b_M_edit 66 = .ok (.iload_n 2, 1) := by decide +kernel
theorem d_M_edit_67 : decode b_M_edit 67 = .ok (.if_icmp .ne 6, 3) := by decide +kernel
theorem d_M_edit_70 : decode b_M_edit 70 = .ok (.iload 8, 2) := by decide +kernel
theorem d_M_edit_72 : decode b_M_edit 72 = .ok (.ireturn, 1) := by decide +kernel
theorem d_M_edit_73 : decode b_M_edit 73 = .ok (.iload 8, 2) := by decide +kernel
theorem d_M_edit_75 : decode b_M_edit 75 = .ok (.ifCond .le 6, 3) := by decide +kernel
theorem d_M_edit_78 : decode b_M_edit 78 = .ok (.iinc 6 (-1), 3) := by decide +kernel
theorem d_M_edit_81 : decode b_M_edit 81 = .ok (.iload 8, 2) := by decide +kernel
theorem d_M_edit_83 : decode b_M_edit 83 = .ok (.iconst 3, 1) := by decide +kernel
theorem d_M_edit_84 : decode b_M_edit 84 = .ok (.if_icmp .eq 6, 3) := by decide +kernel
theorem d_M_edit_87 : decode b_M_edit 87 = .ok (.iinc 4 1, 3) := by decide +kernel
theorem d_M_edit_90 : decode b_M_edit 90 = .ok (.iload 8, 2) := by decide +kernel
theorem d_M_edit_92 : decode b_M_edit 92 = .ok (.iconst 2, 1) := by decide +kernel
theorem d_M_edit_93 : decode b_M_edit 93 = .ok (.if_icmp .eq 6, 3) := by decide +kernel
theorem d_M_edit_96 : decode b_M_edit 96 = .ok (.iinc 5 1, 3) := by decide +kernel
theorem d_M_edit_99 : decode b_M_edit 99 = .ok (.iinc 7 1, 3) := by decide +kernel
theorem d_M_edit_102 : decode b_M_edit 102 = .ok (.goto (-62), 3) := by decide +kernel
theorem d_M_edit_105 : decode b_M_edit 105 = .ok (.iconst (-1), 1) := by decide +kernel
theorem d_M_edit_106 : decode b_M_edit 106 = .ok (.ireturn, 1) := by decide +kernel
theorem d_M_next_0 : decode b_M_next 0 = .ok (.iload_n 2, 1) := by decide +kernel
theorem d_M_next_1 : decode b_M_next 1 = .ok (.aload_n 0, 1) := by decide +kernel
theorem d_M_next_2 : decode b_M_next 2 = .ok (.getfield 29, 3) := by decide +kernel
theorem d_M_next_5 : decode b_M_next 5 = .ok (.if_icmp .ge 7, 3) := by decide +kernel
theorem d_M_next_8 : decode b_M_next 8 = .ok (.iconst 1, 1) := by decide +kernel
theorem d_M_next_9 : decode b_M_next 9 = .ok (.goto 4, 3) := by decide +kernel
theorem d_M_next_12 : decode b_M_next 12 = .ok (.iconst 0, 1) := by decide +kernel
theorem d_M_next_13 : decode b_M_next 13 = .ok (.istore 5, 2) := by decide +kernel
theorem d_M_next_15 : decode b_M_next 15 = .ok (.iload_n 3, 1) := by decide +kernel
theorem d_M_next_16 : decode b_M_next 16 = .ok (.aload_n 0, 1) := by decide +kernel
theorem d_M_next_17 : decode b_M_next 17 = .ok (.getfield 16, 3) := by decide +kernel
theorem d_M_next_20 : decode b_M_next 20 = .ok (.iload_n 1, 1) := by decide +kernel
theorem d_M_next_21 : decode b_M_next 21 = .ok (.iaload, 1) := by decide +kernel
theorem d_M_next_22 : decode b_M_next 22 = .ok (.if_icmp .ge 7, 3) := by decide +kernel
theorem d_M_next_25 : decode b_M_next 25 = .ok (.iconst 1, 1) := by decide +kernel
theorem d_M_next_26 : decode b_M_next 26 = .ok (.goto 4, 3) := by decide +kernel
theorem d_M_next_29 : decode b_M_next 29 = .ok (.iconst 0, 1) := by decide +kernel
theorem d_M_next_30 : decode b_M_next 30 = .ok (.istore 6, 2) := by decide +kernel
theorem d_M_next_32 : decode b_M_next 32 = .ok (.iload 5, 2) := by decide +kernel
theorem d_M_next_34 : decode b_M_next 34 = .ok (.ifCond .eq 78, 3) := by decide +kernel
theorem d_M_next_37 : decode b_M_next 37 = .ok (.iload 6, 2) := by decide +kernel
theorem d_M_next_39 : decode b_M_next 39 = .ok (.ifCond .eq 73, 3) := by decide +kernel
theorem d_M_next_42 : decode b_M_next 42 = .ok (.aload_n 0, 1) := by decide +kernel
theorem d_M_next_43 : decode b_M_next 43 = .ok (.getfield 7, 3) := by decide +kernel
theorem d_M_next_46 : decode b_M_next 46 = .ok (.iload_n 2, 1) := by decide +kernel
theorem d_M_next_47 : decode b_M_next 47 = .ok (.iaload, 1) := by decide +kernel
theorem d_M_next_48 : decode b_M_next 48 = .ok (.aload_n 0, 1) := by decide +kernel
theorem d_M_next_49 : decode b_M_next 49 = .ok (.getfield 13, 3) := by decide +kernel
theorem d_M_next_52 : decode b_M_next 52 = .ok (.bipush 8, 2) := by decide +kernel
theorem d_M_next_54 : decode b_M_next 54 = .ok (.iload_n 1, 1) := by decide +kernel
theorem d_M_next_55 : decode b_M_next 55 = .ok (.imul, 1) := by decide +kernel
theorem d_M_next_56 : decode b_M_next 56 = .ok (.iload_n 3, 1) := by decide +kernel
theorem d_M_next_57 : decode b_M_next 57 = .ok (.iadd, 1) := by decide +kernel
theorem d_M_next_58 : decode b_M_next 58 = .ok (.iaload, 1) := by decide +kernel
theorem d_M_next_59 : decode b_M_next 59 = .ok (.if_icmp .ne 7, 3) := by decide +kernel
theorem d_M_next_62 : decode b_M_next 62 = .ok (.iconst 1, 1) := by decide +kernel
theorem d_M_next_63 : decode b_M_next 63 = .ok (.goto 4, 3) := by decide +kernel
theorem d_M_next_66 : decode b_M_next 66 = .ok (.iconst 0, 1) := by decide +kernel
theorem d_M_next_67 : decode b_M_next 67 = .ok (.istore 7, 2) := by decide +kernel
theorem d_M_next_69 : decode b_M_next 69 = .ok (.aload_n 0, 1) := by decide +kernel
theorem d_M_next_70 : decode b_M_next 70 = .ok (.iload_n 1, 1) := by decide +kernel
theorem d_M_next_71 : decode b_M_next 71 = .ok (.iload_n 2, 1) := by decide +kernel
theorem d_M_next_72 : decode b_M_next 72 = .ok (.iconst 1, 1) := by decide +kernel
theorem d_M_next_73 : decode b_M_next 73 = .ok (.iadd, 1) := by decide +kernel
theorem d_M_next_74 : decode b_M_next 74 = .ok (.iload_n 3, 1) := by decide +kernel
theorem d_M_next_75 : decode b_M_next 75 = .ok (.iconst 1, 1) := by decide +kernel
theorem d_M_next_76 : decode b_M_next 76 = .ok (.iadd, 1) := by decide +kernel
theorem d_M_next_77 : decode b_M_next 77 = .ok (.invokevirtual 64, 3) := by decide +kernel
theorem d_M_next_80 : decode b_M_next 80 = .ok (.istore 8, 2) := by decide +kernel
theorem d_M_next_82 : decode b_M_next 82 = .ok (.iload 7, 2) := by decide +kernel
theorem d_M_next_84 : decode b_M_next 84 = .ok (.ifCond .eq 12, 3) := by decide +kernel
theorem d_M_next_87 : decode b_M_next 87 = .ok (.iload 8, 2) := by decide +kernel
theorem d_M_next_89 : decode b_M_next 89 = .ok (.iload 4, 2) := by decide +kernel
theorem d_M_next_91 : decode b_M_next 91 = .ok (.if_icmp .ne 5, 3) := by decide +kernel
theorem d_M_next_94 : decode b_M_next 94 = .ok (.iconst 0, 1) := by decide +kernel
theorem d_M_next_95 : decode b_M_next 95 = .ok (.ireturn, 1) := by decide +kernel
theorem d_M_next_96 : decode b_M_next 96 = .ok (.iload 7, 2) := by decide +kernel
theorem d_M_next_98 : decode b_M_next 98 = .ok (.ifCond .ne 14, 3) := by decide +kernel
theorem d_M_next_101 : decode b_M_next 101 = .ok (.iload 8, 2) := by decide +kernel
theorem d_M_next_103 : decode b_M_next 103 = .ok (.iload 4, 2) := by decide +kernel
theorem d_M_next_105 : decode b_M_next 105 = .ok (.iconst 1, 1) := by decide +kernel
theorem d_M_next_106 : decode b_M_next 106 = .ok (.isub, 1) := by decide +kernel
theorem d_M_next_107 : decode b_M_next 107 = .ok (.if_icmp .ne 5, 3) := by decide +kernel
theorem d_M_next_110 : decode b_M_next 110 = .ok (.iconst 1, 1) := by decide +kernel
theorem d_M_next_111 : decode b_M_next 111 = .ok (.ireturn, 1) := by decide +kernel
theorem d_M_next_112 : decode b_M_next 112 = .ok (.iload 5, 2) := by decide +kernel
theorem d_M_next_114 : decode b_M_next 114 = .ok (.ifCond .eq 21, 3) := by decide +kernel
theorem d_M_next_117 : decode b_M_next 117 = .ok (.aload_n 0, 1) := by decide +kernel
theorem d_M_next_118 : decode b_M_next 118 = .ok (.iload_n 1, 1) := by decide +kernel
theorem d_M_next_119 : decode b_M_next 119 = .ok (.iload_n 2, 1) := by decide +kernel
theorem d_M_next_120 : decode b_M_next 120 = .ok (.iconst 1, 1) := by decide +kernel
theorem d_M_next_121 : decode b_M_next 121 = .ok (.iadd, 1) := by decide +kernel
theorem d_M_next_122 : decode b_M_next 122 = .ok (.iload_n 3, 1) := by decide +kernel
theorem d_M_next_123 : decode b_M_next 123 = .ok (.invokevirtual 64, 3) := by decide +kernel
theorem d_M_next_126 : decode b_M_next 126 = .ok (.iload 4, 2) := by decide +kernel
theorem d_M_next_128 : decode b_M_next 128 = .ok (.iconst 1, 1) := by decide +kernel
theorem d_M_next_129 : decode b_M_next 129 = .ok (.isub, 1) := by decide +kernel
theorem d_M_next_130 : decode b_M_next 130 = .ok (.if_icmp .ne 5, 3) := by decide +kernel
theorem d_M_next_133 : decode b_M_next 133 = .ok (.iconst 2, 1) := by decide +kernel
theorem d_M_next_134 : decode b_M_next 134 = .ok (.ireturn, 1) := by decide +kernel
theorem d_M_next_135 : decode b_M_next 135 = .ok (.iload 6, 2) := by decide +kernel
theorem d_M_next_137 : decode b_M_next 137 = .ok (.ifCond .eq 21, 3) := by decide +kernel
theorem d_M_next_140 : decode b_M_next 140 = .ok (.aload_n 0, 1) := by decide +kernel
theorem d_M_next_141 : decode b_M_next 141 = .ok (.iload_n 1, 1) := by decide +kernel
theorem d_M_next_142 : decode b_M_next 142 = .ok (.iload_n 2, 1) := by decide +kernel
theorem d_M_next_143 : decode b_M_next 143 = .ok (.iload_n 3, 1) := by decide +kernel
theorem d_M_next_144 : decode b_M_next 144 = .ok (.iconst 1, 1) := by decide +kernel
theorem d_M_next_145 : decode b_M_next 145 = .ok (.iadd, 1) := by decide +kernel
theorem d_M_next_146 : decode b_M_next 146 = .ok (.invokevirtual 64, 3) := by decide +kernel
theorem d_M_next_149 : decode b_M_next 149 = .ok (.iload 4, 2) := by decide +kernel
theorem d_M_next_151 : decode b_M_next 151 = .ok (.iconst 1, 1) := by decide +kernel
theorem d_M_next_152 : decode b_M_next 152 = .ok (.isub, 1) := by decide +kernel
theorem d_M_next_153 : decode b_M_next 153 = .ok (.if_icmp .ne 5, 3) := by decide +kernel
theorem d_M_next_156 : decode b_M_next 156 = .ok (.iconst 3, 1) := by decide +kernel
theorem d_M_next_157 : decode b_M_next 157 = .ok (.ireturn, 1) := by decide +kernel
theorem d_M_next_158 : decode b_M_next 158 = .ok (.iconst (-1), 1) := by decide +kernel
theorem d_M_next_159 : decode b_M_next 159 = .ok (.ireturn, 1) := by decide +kernel
theorem d_M_left_0 : decode b_M_left 0 = .ok (.lconst 0, 1) := by decide +kernel
theorem d_M_left_1 : decode b_M_left 1 = .ok (.lstore_n 2, 1) := by decide +kernel
theorem d_M_left_2 : decode b_M_left 2 = .ok (.iconst 0, 1) := by decide +kernel
theorem d_M_left_3 : decode b_M_left 3 = .ok (.istore 4, 2) := by decide +kernel
theorem d_M_left_5 : decode b_M_left 5 = .ok (.iload 4, 2) := by decide +kernel
theorem d_M_left_7 : decode b_M_left 7 = .ok (.aload_n 0, 1) := by decide +kernel
theorem d_M_left_8 : decode b_M_left 8 = .ok (.getfield 29, 3) := by decide +kernel
theorem d_M_left_11 : decode b_M_left 11 = .ok (.if_icmp .ge 36, 3) := by decide +kernel
theorem d_M_left_14 : decode b_M_left 14 = .ok (.iload_n 1, 1) := by decide +kernel
theorem d_M_left_15 : decode b_M_left 15 = .ok (.iload 4, 2) := by decide +kernel
theorem d_M_left_17 : decode b_M_left 17 = .ok (.ishr, 1) := by decide +kernel
theorem d_M_left_18 : decode b_M_left 18 = .ok (.iconst 1, 1) := by decide +kernel
theorem d_M_left_19 : decode b_M_left 19 = .ok (.iand, 1) := by decide +kernel
theorem d_M_left_20 : decode b_M_left 20 = .ok (.iconst 1, 1) := by decide +kernel
theorem d_M_left_21 : decode b_M_left 21 = .ok (.if_icmp .ne 20, 3) := by decide +kernel
theorem d_M_left_24 : decode b_M_left 24 = .ok (.ldc2_w 76, 3) := by decide +kernel
theorem d_M_left_27 : decode b_M_left 27 = .ok (.lload_n 2, 1) := by decide +kernel
theorem d_M_left_28 : decode b_M_left 28 = .ok (.lmul, 1) := by decide +kernel
theorem d_M_left_29 : decode b_M_left 29 = .ok (.aload_n 0, 1) := by decide +kernel
theorem d_M_left_30 : decode b_M_left 30 = .ok (.getfield 7, 3) := by decide +kernel
theorem d_M_left_33 : decode b_M_left 33 = .ok (.iload 4, 2) := by decide +kernel
theorem d_M_left_35 : decode b_M_left 35 = .ok (.iaload, 1) := by decide +kernel
theorem d_M_left_36 : decode b_M_left 36 = .ok (.i2l, 1) := by decide +kernel
theorem d_M_left_37 : decode b_M_left 37 = .ok (.ladd, 1) := by decide +kernel
theorem d_M_left_38 : decode b_M_left 38 = .ok (.lconst 1, 1) := by decide +kernel
theorem d_M_left_39 : decode b_M_left 39 = .ok (.ladd, 1) := by decide +kernel
theorem d_M_left_40 : decode b_M_left 40 = .ok (.lstore_n 2, 1) := by decide +kernel
theorem d_M_left_41 : decode b_M_left 41 = .ok (.iinc 4 1, 3) := by decide +kernel
theorem d_M_left_44 : decode b_M_left 44 = .ok (.goto (-39), 3) := by decide +kernel
theorem d_M_left_47 : decode b_M_left 47 = .ok (.lload_n 2, 1) := by decide +kernel
theorem d_M_left_48 : decode b_M_left 48 = .ok (.lreturn, 1) := by decide +kernel
theorem d_M_bits_0 : decode b_M_bits 0 = .ok (.iconst 0, 1) := by decide +kernel
theorem d_M_bits_1 : decode b_M_bits 1 = .ok (.istore_n 1, 1) := by decide +kernel
theorem d_M_bits_2 : decode b_M_bits 2 = .ok (.iconst 0, 1) := by decide +kernel
theorem d_M_bits_3 : decode b_M_bits 3 = .ok (.istore_n 2, 1) := by decide +kernel
theorem d_M_bits_4 : decode b_M_bits 4 = .ok (.iload_n 2, 1) := by decide +kernel
theorem d_M_bits_5 : decode b_M_bits 5 = .ok (.bipush 10, 2) := by decide +kernel
theorem d_M_bits_7 : decode b_M_bits 7 = .ok (.if_icmp .ge 17, 3) := by decide +kernel
theorem d_M_bits_10 : decode b_M_bits 10 = .ok (.iload_n 1, 1) := by decide +kernel
theorem d_M_bits_11 : decode b_M_bits 11 = .ok (.iload_n 0, 1) := by decide +kernel
theorem d_M_bits_12 : decode b_M_bits 12 = .ok (.iload_n 2, 1) := by decide +kernel
theorem d_M_bits_13 : decode b_M_bits 13 = .ok (.ishr, 1) := by decide +kernel
theorem d_M_bits_14 : decode b_M_bits 14 = .ok (.iconst 1, 1) := by decide +kernel
theorem d_M_bits_15 : decode b_M_bits 15 = .ok (.iand, 1) := by decide +kernel
theorem d_M_bits_16 : decode b_M_bits 16 = .ok (.iadd, 1) := by decide +kernel
theorem d_M_bits_17 : decode b_M_bits 17 = .ok (.istore_n 1, 1) := by decide +kernel
theorem d_M_bits_18 : decode b_M_bits 18 = .ok (.iinc 2 1, 3) := by decide +kernel
theorem d_M_bits_21 : decode b_M_bits 21 = .ok (.goto (-17), 3) := by decide +kernel
theorem d_M_bits_24 : decode b_M_bits 24 = .ok (.iload_n 1, 1) := by decide +kernel
theorem d_M_bits_25 : decode b_M_bits 25 = .ok (.ireturn, 1) := by decide +kernel
theorem d_M_drops_0 : decode b_M_drops 0 = .ok (.iload_n 1, 1) := by decide +kernel
theorem d_M_drops_1 : decode b_M_drops 1 = .ok (.ifCond .lt 11, 3) := by decide +kernel
theorem d_M_drops_4 : decode b_M_drops 4 = .ok (.iload_n 1, 1) := by decide +kernel
theorem d_M_drops_5 : decode b_M_drops 5 = .ok (.aload_n 0, 1) := by decide +kernel
theorem d_M_drops_6 : decode b_M_drops 6 = .ok (.getfield 29, 3) := by decide +kernel
theorem d_M_drops_9 : decode b_M_drops 9 = .ok (.if_icmp .le 5, 3) := by decide +kernel
theorem d_M_drops_12 : decode b_M_drops 12 = .ok (.iconst 0, 1) := by decide +kernel
theorem d_M_drops_13 : decode b_M_drops 13 = .ok (.ireturn, 1) := by decide +kernel
theorem d_M_drops_14 : decode b_M_drops 14 = .ok (.iconst 0, 1) := by decide +kernel
theorem d_M_drops_15 : decode b_M_drops 15 = .ok (.istore_n 2, 1) := by decide +kernel
theorem d_M_drops_16 : decode b_M_drops 16 = .ok (.iconst 0, 1) := by decide +kernel
theorem d_M_drops_17 : decode b_M_drops 17 = .ok (.istore_n 3, 1) := by decide +kernel
theorem d_M_drops_18 : decode b_M_drops 18 = .ok (.iload_n 3, 1) := by decide +kernel
theorem d_M_drops_19 : decode b_M_drops 19 = .ok (.iconst 1, 1) := by decide +kernel
theorem d_M_drops_20 : decode b_M_drops 20 = .ok (.aload_n 0, 1) := by decide +kernel
theorem d_M_drops_21 : decode b_M_drops 21 = .ok (.getfield 29, 3) := by decide +kernel
theorem d_M_drops_24 : decode b_M_drops 24 = .ok (.ishl, 1) := by decide +kernel
theorem d_M_drops_25 : decode b_M_drops 25 = .ok (.if_icmp .ge 91, 3) := by decide +kernel
theorem d_M_drops_28 : decode b_M_drops 28 = .ok (.iload_n 3, 1) := by decide +kernel
theorem d_M_drops_29 : decode b_M_drops 29 = .ok (.invokestatic 78, 3) := by decide +kernel
theorem d_M_drops_32 : decode b_M_drops 32 = .ok (.aload_n 0, 1) := by decide +kernel
theorem d_M_drops_33 : decode b_M_drops 33 = .ok (.getfield 29, 3) := by decide +kernel
theorem d_M_drops_36 : decode b_M_drops 36 = .ok (.iload_n 1, 1) := by decide +kernel
theorem d_M_drops_37 : decode b_M_drops 37 = .ok (.isub, 1) := by decide +kernel
theorem d_M_drops_38 : decode b_M_drops 38 = .ok (.if_icmp .eq 6, 3) := by decide +kernel
theorem d_M_drops_41 : decode b_M_drops 41 = .ok (.goto 69, 3) := by decide +kernel
theorem d_M_drops_44 : decode b_M_drops 44 = .ok (.aload_n 0, 1) := by decide +kernel
theorem d_M_drops_45 : decode b_M_drops 45 = .ok (.iload_n 3, 1) := by decide +kernel
theorem d_M_drops_46 : decode b_M_drops 46 = .ok (.invokevirtual 81, 3) := by decide +kernel
theorem d_M_drops_49 : decode b_M_drops 49 = .ok (.lstore 4, 2) := by decide +kernel
theorem d_M_drops_51 : decode b_M_drops 51 = .ok (.iconst 0, 1) := by decide +kernel
theorem d_M_drops_52 : decode b_M_drops 52 = .ok (.istore 6, 2) := by decide +kernel
theorem d_M_drops_54 : decode b_M_drops 54 = .ok (.iconst 0, 1) := by decide +kernel
theorem d_M_drops_55 : decode b_M_drops 55 = .ok (.istore 7, 2) := by decide +kernel
theorem d_M_drops_57 : decode b_M_drops 57 = .ok (.iload 7, 2) := by decide +kernel
theorem d_M_drops_59 : decode b_M_drops 59 = .ok (.iload_n 2, 1) := by decide +kernel
theorem d_M_drops_60 : decode b_M_drops 60 = .ok (.if_icmp .ge 34, 3) := by decide +kernel
theorem d_M_drops_63 : decode b_M_drops 63 = .ok (.iload 6, 2) := by decide +kernel
theorem d_M_drops_65 : decode b_M_drops 65 = .ok (.ifCond .ne 16, 3) := by decide +kernel
theorem d_M_drops_68 : decode b_M_drops 68 = .ok (.aload_n 0, 1) := by decide +kernel
theorem d_M_drops_69 : decode b_M_drops 69 = .ok (.getfield 25, 3) := by decide +kernel
theorem d_M_drops_72 : decode b_M_drops 72 = .ok (.iload 7, 2) := by decide +kernel
theorem d_M_drops_74 : decode b_M_drops 74 = .ok (.laload, 1) := by decide +kernel
theorem d_M_drops_75 : decode b_M_drops 75 = .ok (.lload 4, 2) := by decide +kernel
theorem d_M_drops_77 : decode b_M_drops 77 = .ok (.lcmp, 1) := by decide +kernel
theorem d_M_drops_78 : decode b_M_drops 78 = .ok (.ifCond .ne 7, 3) := by decide +kernel
theorem d_M_drops_81 : decode b_M_drops 81 = .ok (.iconst 1, 1) := by decide +kernel
theorem d_M_drops_82 : decode b_M_drops 82 = .ok (.goto 4, 3) := by decide +kernel
theorem d_M_drops_85 : decode b_M_drops 85 = .ok (.iconst 0, 1) := by decide +kernel
theorem d_M_drops_86 : decode b_M_drops 86 = .ok (.istore 6, 2) := by decide +kernel
theorem d_M_drops_88 : decode b_M_drops 88 = .ok (.iinc 7 1, 3) := by decide +kernel
theorem d_M_drops_91 : decode b_M_drops 91 = .ok (.goto (-34), 3) := by decide +kernel
theorem d_M_drops_94 : decode b_M_drops 94 = .ok (.iload 6, 2) := by decide +kernel
theorem d_M_drops_96 : decode b_M_drops 96 = .ok (.ifCond .ne 14, 3) := by decide +kernel
theorem d_M_drops_99 : decode b_M_drops 99 = .ok (.aload_n 0, 1) := by decide +kernel
theorem d_M_drops_100 : decode b_M_drops 100 = .ok (.getfield 25, 3) := by decide +kernel
theorem d_M_drops_103 : decode b_M_drops 103 = .ok (.iload_n 2, 1) := by decide +kernel
theorem d_M_drops_104 : decode b_M_drops 104 = .ok (.lload 4, 2) := by decide +kernel
theorem d_M_drops_106 : decode b_M_drops 106 = .ok (.lastore, 1) := by decide +kernel
theorem d_M_drops_107 : decode b_M_drops 107 = .ok (.iinc 2 1, 3) := by decide +kernel
theorem d_M_drops_110 : decode b_M_drops 110 = .ok (.iinc 3 1, 3) := by decide +kernel
theorem d_M_drops_113 : decode b_M_drops 113 = .ok (.goto (-95), 3) := by decide +kernel
theorem d_M_drops_116 : decode b_M_drops 116 = .ok (.iload_n 2, 1) := by decide +kernel
theorem d_M_drops_117 : decode b_M_drops 117 = .ok (.ireturn, 1) := by decide +kernel
