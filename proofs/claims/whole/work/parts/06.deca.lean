theorem d_S_init_0 : decode b_S_init 0 = .ok (.aload_n 0, 1) := by decide +kernel
theorem d_S_init_1 : decode b_S_init 1 = .ok (.invokespecial 3, 3) := by decide +kernel
theorem d_S_init_4 : decode b_S_init 4 = .ok (.aload_n 0, 1) := by decide +kernel
theorem d_S_init_5 : decode b_S_init 5 = .ok (.new 9, 3) := by decide +kernel
theorem d_S_init_8 : decode b_S_init 8 = .ok (.dup, 1) := by decide +kernel
theorem d_S_init_9 : decode b_S_init 9 = .ok (.bipush 10, 2) := by decide +kernel
theorem d_S_init_11 : decode b_S_init 11 = .ok (.invokespecial 11, 3) := by decide +kernel
theorem d_S_init_14 : decode b_S_init 14 = .ok (.putfield 14, 3) := by decide +kernel
theorem d_S_init_17 : decode b_S_init 17 = .ok (.aload_n 0, 1) := by decide +kernel
theorem d_S_init_18 : decode b_S_init 18 = .ok (.new 18, 3) := by decide +kernel
theorem d_S_init_21 : decode b_S_init 21 = .ok (.dup, 1) := by decide +kernel
theorem d_S_init_22 : decode b_S_init 22 = .ok (.invokespecial 20, 3) := by decide +kernel
theorem d_S_init_25 : decode b_S_init 25 = .ok (.putfield 21, 3) := by decide +kernel
theorem d_S_init_28 : decode b_S_init 28 = .ok (.aload_n 0, 1) := by decide +kernel
theorem d_S_init_29 : decode b_S_init 29 = .ok (.new 25, 3) := by decide +kernel
theorem d_S_init_32 : decode b_S_init 32 = .ok (.dup, 1) := by decide +kernel
theorem d_S_init_33 : decode b_S_init 33 = .ok (.invokespecial 27, 3) := by decide +kernel
theorem d_S_init_36 : decode b_S_init 36 = .ok (.putfield 28, 3) := by decide +kernel
theorem d_S_init_39 : decode b_S_init 39 = .ok (.aload_n 0, 1) := by decide +kernel
theorem d_S_init_40 : decode b_S_init 40 = .ok (.new 32, 3) := by decide +kernel
theorem d_S_init_43 : decode b_S_init 43 = .ok (.dup, 1) := by decide +kernel
theorem d_S_init_44 : decode b_S_init 44 = .ok (.invokespecial 34, 3) := by decide +kernel
theorem d_S_init_47 : decode b_S_init 47 = .ok (.putfield 35, 3) := by decide +kernel
theorem d_S_init_50 : decode b_S_init 50 = .ok (.aload_n 0, 1) := by decide +kernel
theorem d_S_init_51 : decode b_S_init 51 = .ok (.bipush 24, 2) := by decide +kernel
theorem d_S_init_53 : decode b_S_init 53 = .ok (.newarray .int, 2) := by decide +kernel
theorem d_S_init_55 : decode b_S_init 55 = .ok (.putfield 39, 3) := by decide +kernel
theorem d_S_init_58 : decode b_S_init 58 = .ok (.return_, 1) := by decide +kernel
theorem d_S_key_0 : decode b_S_key 0 = .ok (.aload_n 0, 1) := by decide +kernel
theorem d_S_key_1 : decode b_S_key 1 = .ok (.getfield 14, 3) := by decide +kernel
theorem d_S_key_4 : decode b_S_key 4 = .ok (.iload_n 1, 1) := by decide +kernel
theorem d_S_key_5 : decode b_S_key 5 = .ok (.invokevirtual 43, 3) := by decide +kernel
theorem d_S_key_8 : decode b_S_key 8 = .ok (.ireturn, 1) := by decide +kernel
theorem d_S_back_0 : decode b_S_back 0 = .ok (.aload_n 0, 1) := by decide +kernel
theorem d_S_back_1 : decode b_S_back 1 = .ok (.getfield 14, 3) := by decide +kernel
theorem d_S_back_4 : decode b_S_back 4 = .ok (.invokevirtual 47, 3) := by decide +kernel
theorem d_S_back_7 : decode b_S_back 7 = .ok (.ireturn, 1) := by decide +kernel
theorem d_S_wipe_0 : decode b_S_wipe 0 = .ok (.aload_n 0, 1) := by decide +kernel
theorem d_S_wipe_1 : decode b_S_wipe 1 = .ok (.getfield 14, 3) := by decide +kernel
theorem d_S_wipe_4 : decode b_S_wipe 4 = .ok (.invokevirtual 51, 3) := by decide +kernel
theorem d_S_wipe_7 : decode b_S_wipe 7 = .ok (.return_, 1) := by decide +kernel
theorem d_S_length_0 : decode b_S_length 0 = .ok (.aload_n 0, 1) := by decide +kernel
theorem d_S_length_1 : decode b_S_length 1 = .ok (.getfield 14, 3) := by decide +kernel
theorem d_S_length_4 : decode b_S_length 4 = .ok (.getfield 54, 3) := by decide +kernel
theorem d_S_length_7 : decode b_S_length 7 = .ok (.ireturn, 1) := by decide +kernel
theorem d_S_typed_0 : decode b_S_typed 0 = .ok (.aload_n 0, 1) := by decide +kernel
theorem d_S_typed_1 : decode b_S_typed 1 = .ok (.getfield 14, 3) := by decide +kernel
theorem d_S_typed_4 : decode b_S_typed 4 = .ok (.iload_n 1, 1) := by decide +kernel
theorem d_S_typed_5 : decode b_S_typed 5 = .ok (.invokevirtual 58, 3) := by decide +kernel
theorem d_S_typed_8 : decode b_S_typed 8 = .ok (.ireturn, 1) := by decide +kernel
theorem d_S_learn_0 : decode b_S_learn 0 = .ok (.iload_n 1, 1) := by decide +kernel
theorem d_S_learn_1 : decode b_S_learn 1 = .ok (.iconst 1, 1) := by decide +kernel
theorem d_S_learn_2 : decode b_S_learn 2 = .ok (.if_icmp .lt 9, 3) := by decide +kernel
theorem d_S_learn_5 : decode b_S_learn 5 = .ok (.iload_n 1, 1) := by decide +kernel
theorem d_S_learn_6 : decode b_S_learn 6 = .ok (.ldc 62, 2) := by decide +kernel
theorem d_S_learn_8 : decode b_S_learn 8 = .ok (.if_icmp .le 5, 3) := by decide +kernel
theorem d_S_learn_11 : decode b_S_learn 11 = .ok (.iconst (-1), 1) := by decide +kernel
theorem d_S_learn_12 : decode b_S_learn 12 = .ok (.ireturn, 1) := by decide +kernel
theorem d_S_learn_13 : decode b_S_learn 13 = .ok (.aload_n 0, 1) := by decide +kernel
theorem d_S_learn_14 : decode b_S_learn 14 = .ok (.getfield 14, 3) := by decide +kernel
theorem d_S_learn_17 : decode b_S_learn 17 = .ok (.getfield 54, 3) := by decide +kernel
theorem d_S_learn_20 : decode b_S_learn 20 = .ok (.iconst 1, 1) := by decide +kernel
theorem d_S_learn_21 : decode b_S_learn 21 = .ok (.if_icmp .lt 15, 3) := by decide +kernel
theorem d_S_learn_24 : decode b_S_learn 24 = .ok (.aload_n 0, 1) := by decide +kernel
theorem d_S_learn_25 : decode b_S_learn 25 = .ok (.getfield 14, 3) := by decide +kernel
theorem d_S_learn_28 : decode b_S_learn 28 = .ok (.getfield 54, 3) := by decide +kernel
theorem d_S_learn_31 : decode b_S_learn 31 = .ok (.bipush 8, 2) := by decide +kernel
theorem d_S_learn_33 : decode b_S_learn 33 = .ok (.if_icmp .le 6, 3) := by decide +kernel
theorem d_S_learn_36 : decode b_S_learn 36 = .ok (.bipush (-2), 2) := by decide +kernel
theorem d_S_learn_38 : decode b_S_learn 38 = .ok (.ireturn, 1) := by decide +kernel
theorem d_S_learn_39 : decode b_S_learn 39 = .ok (.aload_n 0, 1) := by decide +kernel
theorem d_S_learn_40 : decode b_S_learn 40 = .ok (.getfield 21, 3) := by decide +kernel
theorem d_S_learn_43 : decode b_S_learn 43 = .ok (.aload_n 0, 1) := by decide +kernel
theorem d_S_learn_44 : decode b_S_learn 44 = .ok (.getfield 14, 3) := by decide +kernel
theorem d_S_learn_47 : decode b_S_learn 47 = .ok (.invokevirtual 63, 3) := by decide +kernel
theorem d_S_learn_50 : decode b_S_learn 50 = .ok (.istore_n 2, 1) := by decide +kernel
theorem d_S_learn_51 : decode b_S_learn 51 = .ok (.iload_n 2, 1) := by decide +kernel
theorem d_S_learn_52 : decode b_S_learn 52 = .ok (.iconst (-1), 1) := by decide +kernel
theorem d_S_learn_53 : decode b_S_learn 53 = .ok (.if_icmp .eq 14, 3) := by decide +kernel
theorem d_S_learn_56 : decode b_S_learn 56 = .ok (.aload_n 0, 1) := by decide +kernel
theorem d_S_learn_57 : decode b_S_learn 57 = .ok (.getfield 21, 3) := by decide +kernel
theorem d_S_learn_60 : decode b_S_learn 60 = .ok (.iload_n 2, 1) := by decide +kernel
theorem d_S_learn_61 : decode b_S_learn 61 = .ok (.iload_n 1, 1) := by decide +kernel
theorem d_S_learn_62 : decode b_S_learn 62 = .ok (.invokevirtual 67, 3) := by decide +kernel
theorem d_S_learn_65 : decode b_S_learn 65 = .ok (.iconst 1, 1) := by decide +kernel
theorem d_S_learn_66 : decode b_S_learn 66 = .ok (.ireturn, 1) := by decide +kernel
theorem d_S_learn_67 : decode b_S_learn 67 = .ok (.aload_n 0, 1) := by decide +kernel
theorem d_S_learn_68 : decode b_S_learn 68 = .ok (.getfield 21, 3) := by decide +kernel
theorem d_S_learn_71 : decode b_S_learn 71 = .ok (.aload_n 0, 1) := by decide +kernel
theorem d_S_learn_72 : decode b_S_learn 72 = .ok (.getfield 14, 3) := by decide +kernel
theorem d_S_learn_75 : decode b_S_learn 75 = .ok (.iload_n 1, 1) := by decide +kernel
theorem d_S_learn_76 : decode b_S_learn 76 = .ok (.invokevirtual 71, 3) := by decide +kernel
theorem d_S_learn_79 : decode b_S_learn 79 = .ok (.ifCond .eq 7, 3) := by decide +kernel
theorem d_S_learn_82 : decode b_S_learn 82 = .ok (.iconst 0, 1) := by decide +kernel
theorem d_S_learn_83 : decode b_S_learn 83 = .ok (.goto 5, 3) := by decide +kernel
theorem d_S_learn_86 : decode b_S_learn 86 = .ok (.bipush (-3), 2) := by decide +kernel
theorem d_S_learn_88 : decode b_S_learn 88 = .ok (.ireturn, 1) := by decide +kernel
theorem d_S_forget_0 : decode b_S_forget 0 = .ok (.aload_n 0, 1) := by decide +kernel
theorem d_S_forget_1 : decode b_S_forget 1 = .ok (.getfield 21, 3) := by decide +kernel
theorem d_S_forget_4 : decode b_S_forget 4 = .ok (.iload_n 1, 1) := by decide +kernel
theorem d_S_forget_5 : decode b_S_forget 5 = .ok (.invokevirtual 75, 3) := by decide +kernel
theorem d_S_forget_8 : decode b_S_forget 8 = .ok (.ireturn, 1) := by decide +kernel
theorem d_S_words_0 : decode b_S_words 0 = .ok (.aload_n 0, 1) := by decide +kernel
theorem d_S_words_1 : decode b_S_words 1 = .ok (.getfield 21, 3) := by decide +kernel
theorem d_S_words_4 : decode b_S_words 4 = .ok (.getfield 78, 3) := by decide +kernel
theorem d_S_words_7 : decode b_S_words 7 = .ok (.ireturn, 1) := by decide +kernel
theorem d_S_letter_0 : decode b_S_letter 0 = .ok (.aload_n 0, 1) := by decide +kernel
theorem d_S_letter_1 : decode b_S_letter 1 = .ok (.getfield 21, 3) := by decide +kernel
theorem d_S_letter_4 : decode b_S_letter 4 = .ok (.iload_n 1, 1) := by decide +kernel
theorem d_S_letter_5 : decode b_S_letter 5 = .ok (.invokevirtual 79, 3) := by decide +kernel
theorem d_S_letter_8 : decode b_S_letter 8 = .ok (.ifCond .eq 18, 3) := by decide +kernel
theorem d_S_letter_11 : decode b_S_letter 11 = .ok (.aload_n 0, 1) := by decide +kernel
theorem d_S_letter_12 : decode b_S_letter 12 = .ok (.getfield 21, 3) := by decide +kernel
theorem d_S_letter_15 : decode b_S_letter 15 = .ok (.iload_n 1, 1) := by decide +kernel
theorem d_S_letter_16 : decode b_S_letter 16 = .ok (.invokevirtual 82, 3) := by decide +kernel
theorem d_S_letter_19 : decode b_S_letter 19 = .ok (.iload_n 2, 1) := by decide +kernel
theorem d_S_letter_20 : decode b_S_letter 20 = .ok (.invokevirtual 58, 3) := by decide +kernel
theorem d_S_letter_23 : decode b_S_letter 23 = .ok (.goto 4, 3) := by decide +kernel
theorem d_S_letter_26 : decode b_S_letter 26 = .ok (.iconst (-1), 1) := by decide +kernel
theorem d_S_letter_27 : decode b_S_letter 27 = .ok (.ireturn, 1) := by decide +kernel
theorem d_S_count_0 : decode b_S_count 0 = .ok (.aload_n 0, 1) := by decide +kernel
theorem d_S_count_1 : decode b_S_count 1 = .ok (.getfield 21, 3) := by decide +kernel
theorem d_S_count_4 : decode b_S_count 4 = .ok (.iload_n 1, 1) := by decide +kernel
theorem d_S_count_5 : decode b_S_count 5 = .ok (.invokevirtual 79, 3) := by decide +kernel
theorem d_S_count_8 : decode b_S_count 8 = .ok (.ifCond .eq 14, 3) := by decide +kernel
theorem d_S_count_11 : decode b_S_count 11 = .ok (.aload_n 0, 1) := by decide +kernel
theorem d_S_count_12 : decode b_S_count 12 = .ok (.getfield 21, 3) := by decide +kernel
theorem d_S_count_15 : decode b_S_count 15 = .ok (.iload_n 1, 1) := by decide +kernel
theorem d_S_count_16 : decode b_S_count 16 = .ok (.invokevirtual 86, 3) := by decide +kernel
theorem d_S_count_19 : decode b_S_count 19 = .ok (.goto 4, 3) := by decide +kernel
theorem d_S_count_22 : decode b_S_count 22 = .ok (.iconst 0, 1) := by decide +kernel
theorem d_S_count_23 : decode b_S_count 23 = .ok (.ireturn, 1) := by decide +kernel
theorem d_S_rank_0 : decode b_S_rank 0 = .ok (.aload_n 0, 1) := by decide +kernel
theorem d_S_rank_1 : decode b_S_rank 1 = .ok (.getfield 21, 3) := by decide +kernel
theorem d_S_rank_4 : decode b_S_rank 4 = .ok (.aload_n 0, 1) := by decide +kernel
theorem d_S_rank_5 : decode b_S_rank 5 = .ok (.getfield 14, 3) := by decide +kernel
theorem d_S_rank_8 : decode b_S_rank 8 = .ok (.invokevirtual 63, 3) := by decide +kernel
theorem d_S_rank_11 : decode b_S_rank 11 = .ok (.ireturn, 1) := by decide +kernel
theorem d_S_distance_0 : decode b_S_distance 0 = .ok (.aload_n 0, 1) := by decide +kernel
theorem d_S_distance_1 : decode b_S_distance 1 = .ok (.getfield 21, 3) := by decide +kernel
theorem d_S_distance_4 : decode b_S_distance 4 = .ok (.iload_n 1, 1) := by decide +kernel
theorem d_S_distance_5 : decode b_S_distance 5 = .ok (.invokevirtual 79, 3) := by decide +kernel
theorem d_S_distance_8 : decode b_S_distance 8 = .ok (.ifCond .eq 25, 3) := by decide +kernel
theorem d_S_distance_11 : decode b_S_distance 11 = .ok (.aload_n 0, 1) := by decide +kernel
theorem d_S_distance_12 : decode b_S_distance 12 = .ok (.getfield 28, 3) := by decide +kernel
theorem d_S_distance_15 : decode b_S_distance 15 = .ok (.aload_n 0, 1) := by decide +kernel
theorem d_S_distance_16 : decode b_S_distance 16 = .ok (.getfield 14, 3) := by decide +kernel
theorem d_S_distance_19 : decode b_S_distance 19 = .ok (.aload_n 0, 1) := by decide +kernel
theorem d_S_distance_20 : decode b_S_distance 20 = .ok (.getfield 21, 3) := by decide +kernel
theorem d_S_distance_23 : decode b_S_distance 23 = .ok (.iload_n 1, 1) := by decide +kernel
theorem d_S_distance_24 : decode b_S_distance 24 = .ok (.invokevirtual 82, 3) := by decide +kernel
theorem d_S_distance_27 : decode b_S_distance 27 = .ok (.invokevirtual 89, 3) := by decide +kernel
theorem d_S_distance_30 : decode b_S_distance 30 = .ok (.goto 4, 3) := by decide +kernel
theorem d_S_distance_33 : decode b_S_distance 33 = .ok (.iconst (-1), 1) := by decide +kernel
theorem d_S_distance_34 : decode b_S_distance 34 = .ok (.ireturn, 1) := by decide +kernel
theorem d_S_near_0 : decode b_S_near 0 = .ok (.aload_n 0, 1) := by decide +kernel
theorem d_S_near_1 : decode b_S_near 1 = .ok (.invokevirtual 93, 3) := by decide +kernel
theorem d_S_near_4 : decode b_S_near 4 = .ok (.iconst 0, 1) := by decide +kernel
theorem d_S_near_5 : decode b_S_near 5 = .ok (.istore_n 2, 1) := by decide +kernel
theorem d_S_near_6 : decode b_S_near 6 = .ok (.iconst 0, 1) := by decide +kernel
theorem d_S_near_7 : decode b_S_near 7 = .ok (.istore_n 3, 1) := by decide +kernel
theorem d_S_near_8 : decode b_S_near 8 = .ok (.iload_n 3, 1) := by decide +kernel
theorem d_S_near_9 : decode b_S_near 9 = .ok (.aload_n 0, 1) := by decide +kernel
theorem d_S_near_10 : decode b_S_near 10 = .ok (.getfield 21, 3) := by decide +kernel
theorem d_S_near_13 : decode b_S_near 13 = .ok (.getfield 78, 3) := by decide +kernel
theorem d_S_near_16 : decode b_S_near 16 = .ok (.if_icmp .ge 22, 3) := by decide +kernel
theorem d_S_near_19 : decode b_S_near 19 = .ok (.aload_n 0, 1) := by decide +kernel
theorem d_S_near_20 : decode b_S_near 20 = .ok (.getfield 39, 3) := by decide +kernel
theorem d_S_near_23 : decode b_S_near 23 = .ok (.iload_n 3, 1) := by decide +kernel
theorem d_S_near_24 : decode b_S_near 24 = .ok (.iaload, 1) := by decide +kernel
theorem d_S_near_25 : decode b_S_near 25 = .ok (.iload_n 1, 1) := by decide +kernel
theorem d_S_near_26 : decode b_S_near 26 = .ok (.if_icmp .gt 6, 3) := by decide +kernel
theorem d_S_near_29 : decode b_S_near 29 = .ok (.iinc 2 1, 3) := by decide +kernel
theorem d_S_near_32 : decode b_S_near 32 = .ok (.iinc 3 1, 3) := by decide +kernel
theorem d_S_near_35 : decode b_S_near 35 = .ok (.goto (-27), 3) := by decide +kernel
theorem d_S_near_38 : decode b_S_near 38 = .ok (.iload_n 2, 1) := by decide +kernel
theorem d_S_near_39 : decode b_S_near 39 = .ok (.ireturn, 1) := by decide +kernel
theorem d_S_suggest_0 : decode b_S_suggest 0 = .ok (.aload_n 0, 1) := by decide +kernel
theorem d_S_suggest_1 : decode b_S_suggest 1 = .ok (.invokevirtual 93, 3) := by decide +kernel
theorem d_S_suggest_4 : decode b_S_suggest 4 = .ok (.iconst 0, 1) := by decide +kernel
theorem d_S_suggest_5 : decode b_S_suggest 5 = .ok (.istore_n 3, 1) := by decide +kernel
theorem d_S_suggest_6 : decode b_S_suggest 6 = .ok (.iload_n 3, 1) := by decide +kernel
theorem d_S_suggest_7 : decode b_S_suggest 7 = .ok (.aload_n 0, 1) := by decide +kernel
theorem d_S_suggest_8 : decode b_S_suggest 8 = .ok (.getfield 21, 3) := by decide +kernel
theorem d_S_suggest_11 : decode b_S_suggest 11 = .ok (.getfield 78, 3) := by decide +kernel
theorem d_S_suggest_14 : decode b_S_suggest 14 = .ok (.if_icmp .ge 30, 3) := by decide +kernel
theorem d_S_suggest_17 : decode b_S_suggest 17 = .ok (.aload_n 0, 1) := by decide +kernel
theorem d_S_suggest_18 : decode b_S_suggest 18 = .ok (.getfield 39, 3) := by decide +kernel
theorem d_S_suggest_21 : decode b_S_suggest 21 = .ok (.iload_n 3, 1) := by decide +kernel
theorem d_S_suggest_22 : decode b_S_suggest 22 = .ok (.iaload, 1) := by decide +kernel
theorem d_S_suggest_23 : decode b_S_suggest 23 = .ok (.iload_n 2, 1) := by decide +kernel
theorem d_S_suggest_24 : decode b_S_suggest 24 = .ok (.if_icmp .gt 14, 3) := by decide +kernel
theorem d_S_suggest_27 : decode b_S_suggest 27 = .ok (.aload_n 0, 1) := by decide +kernel
theorem d_S_suggest_28 : decode b_S_suggest 28 = .ok (.iload_n 3, 1) := by decide +kernel
theorem d_S_suggest_29 : decode b_S_suggest 29 = .ok (.invokevirtual 96, 3) := by decide +kernel
theorem d_S_suggest_32 : decode b_S_suggest 32 = .ok (.iload_n 1, 1) := by decide +kernel
theorem d_S_suggest_33 : decode b_S_suggest 33 = .ok (.if_icmp .ne 5, 3) := by decide +kernel
theorem d_S_suggest_36 : decode b_S_suggest 36 = .ok (.iload_n 3, 1) := by decide +kernel
theorem d_S_suggest_37 : decode b_S_suggest 37 = .ok (.ireturn, 1) := by decide +kernel
theorem d_S_suggest_38 : decode b_S_suggest 38 = .ok (.iinc 3 1, 3) := by decide +kernel
theorem d_S_suggest_41 : decode b_S_suggest 41 = .ok (.goto (-35), 3) := by decide +kernel
theorem d_S_suggest_44 : decode b_S_suggest 44 = .ok (.iconst (-1), 1) := by decide +kernel
theorem d_S_suggest_45 : decode b_S_suggest 45 = .ok (.ireturn, 1) := by decide +kernel
theorem d_S_complete_0 : decode b_S_complete 0 = .ok (.iconst 0, 1) := by decide +kernel
theorem d_S_complete_1 : decode b_S_complete 1 = .ok (.istore_n 2, 1) := by decide +kernel
theorem d_S_complete_2 : decode b_S_complete 2 = .ok (.iload_n 2, 1) := by decide +kernel
theorem d_S_complete_3 : decode b_S_complete 3 = .ok (.aload_n 0, 1) := by decide +kernel
theorem d_S_complete_4 : decode b_S_complete 4 = .ok (.getfield 21, 3) := by decide +kernel
theorem d_S_complete_7 : decode b_S_complete 7 = .ok (.getfield 78, 3) := by decide +kernel
theorem d_S_complete_10 : decode b_S_complete 10 = .ok (.if_icmp .ge 28, 3) := by decide +kernel
theorem d_S_complete_13 : decode b_S_complete 13 = .ok (.aload_n 0, 1) := by decide +kernel
theorem d_S_complete_14 : decode b_S_complete 14 = .ok (.iload_n 2, 1) := by decide +kernel
theorem d_S_complete_15 : decode b_S_complete 15 = .ok (.invokevirtual 99, 3) := by decide +kernel
theorem d_S_complete_18 : decode b_S_complete 18 = .ok (.ifCond .eq 14, 3) := by decide +kernel
theorem d_S_complete_21 : decode b_S_complete 21 = .ok (.aload_n 0, 1) := by decide +kernel
theorem d_S_complete_22 : decode b_S_complete 22 = .ok (.iload_n 2, 1) := by decide +kernel
theorem d_S_complete_23 : decode b_S_complete 23 = .ok (.invokevirtual 102, 3) := by decide +kernel
theorem d_S_complete_26 : decode b_S_complete 26 = .ok (.iload_n 1, 1) := by decide +kernel
theorem d_S_complete_27 : decode b_S_complete 27 = .ok (.if_icmp .ne 5, 3) := by decide +kernel
theorem d_S_complete_30 : decode b_S_complete 30 = .ok (.iload_n 2, 1) := by decide +kernel
theorem d_S_complete_31 : decode b_S_complete 31 = .ok (.ireturn, 1) := by decide +kernel
theorem d_S_complete_32 : decode b_S_complete 32 = .ok (.iinc 2 1, 3) := by decide +kernel
theorem d_S_complete_35 : decode b_S_complete 35 = .ok (.goto (-33), 3) := by decide +kernel
theorem d_S_complete_38 : decode b_S_complete 38 = .ok (.iconst (-1), 1) := by decide +kernel
theorem d_S_complete_39 : decode b_S_complete 39 = .ok (.ireturn, 1) := by decide +kernel
theorem d_S_edit_0 : decode b_S_edit 0 = .ok (.aload_n 0, 1) := by decide +kernel
theorem d_S_edit_1 : decode b_S_edit 1 = .ok (.getfield 21, 3) := by decide +kernel
theorem d_S_edit_4 : decode b_S_edit 4 = .ok (.iload_n 1, 1) := by decide +kernel
theorem d_S_edit_5 : decode b_S_edit 5 = .ok (.invokevirtual 79, 3) := by decide +kernel
theorem d_S_edit_8 : decode b_S_edit 8 = .ok (.ifCond .eq 26, 3) := by decide +kernel
theorem d_S_edit_11 : decode b_S_edit 11 = .ok (.aload_n 0, 1) := by decide +kernel
theorem d_S_edit_12 : decode b_S_edit 12 = .ok (.getfield 28, 3) := by decide +kernel
theorem d_S_edit_15 : decode b_S_edit 15 = .ok (.aload_n 0, 1) := by decide +kernel
theorem d_S_edit_16 : decode b_S_edit 16 = .ok (.getfield 14, 3) := by decide +kernel
theorem d_S_edit_19 : decode b_S_edit 19 = .ok (.aload_n 0, 1) := by decide +kernel
theorem d_S_edit_20 : decode b_S_edit 20 = .ok (.getfield 21, 3) := by decide +kernel
theorem d_S_edit_23 : decode b_S_edit 23 = .ok (.iload_n 1, 1) := by decide +kernel
theorem d_S_edit_24 : decode b_S_edit 24 = .ok (.invokevirtual 82, 3) := by decide +kernel
theorem d_S_edit_27 : decode b_S_edit 27 = .ok (.iload_n 2, 1) := by decide +kernel
theorem d_S_edit_28 : decode b_S_edit 28 = .ok (.invokevirtual 105, 3) := by decide +kernel
theorem d_S_edit_31 : decode b_S_edit 31 = .ok (.goto 4, 3) := by decide +kernel
theorem d_S_edit_34 : decode b_S_edit 34 = .ok (.iconst (-1), 1) := by decide +kernel
theorem d_S_edit_35 : decode b_S_edit 35 = .ok (.ireturn, 1) := by decide +kernel
theorem d_S_drops_0 : decode b_S_drops 0 = .ok (.iload_n 1, 1) := by decide +kernel
theorem d_S_drops_1 : decode b_S_drops 1 = .ok (.ifCond .lt 14, 3) := by decide +kernel
theorem d_S_drops_4 : decode b_S_drops 4 = .ok (.iload_n 1, 1) := by decide +kernel
theorem d_S_drops_5 : decode b_S_drops 5 = .ok (.aload_n 0, 1) := by decide +kernel
theorem d_S_drops_6 : decode b_S_drops 6 = .ok (.getfield 14, 3) := by decide +kernel
theorem d_S_drops_9 : decode b_S_drops 9 = .ok (.getfield 54, 3) := by decide +kernel
theorem d_S_drops_12 : decode b_S_drops 12 = .ok (.if_icmp .le 5, 3) := by decide +kernel
theorem d_S_drops_15 : decode b_S_drops 15 = .ok (.iconst 0, 1) := by decide +kernel
theorem d_S_drops_16 : decode b_S_drops 16 = .ok (.ireturn, 1) := by decide +kernel
theorem d_S_drops_17 : decode b_S_drops 17 = .ok (.aload_n 0, 1) := by decide +kernel
theorem d_S_drops_18 : decode b_S_drops 18 = .ok (.getfield 35, 3) := by decide +kernel
theorem d_S_drops_21 : decode b_S_drops 21 = .ok (.aload_n 0, 1) := by decide +kernel
theorem d_S_drops_22 : decode b_S_drops 22 = .ok (.getfield 14, 3) := by decide +kernel
theorem d_S_drops_25 : decode b_S_drops 25 = .ok (.aload_n 0, 1) := by decide +kernel
theorem d_S_drops_26 : decode b_S_drops 26 = .ok (.getfield 14, 3) := by decide +kernel
theorem d_S_drops_29 : decode b_S_drops 29 = .ok (.getfield 54, 3) := by decide +kernel
theorem d_S_drops_32 : decode b_S_drops 32 = .ok (.iload_n 1, 1) := by decide +kernel
theorem d_S_drops_33 : decode b_S_drops 33 = .ok (.isub, 1) := by decide +kernel
theorem d_S_drops_34 : decode b_S_drops 34 = .ok (.invokevirtual 109, 3) := by decide +kernel
theorem d_S_drops_37 : decode b_S_drops 37 = .ok (.ireturn, 1) := by decide +kernel
theorem d_S_measureAll_0 : decode b_S_measureAll 0 = .ok (.iconst 0, 1) := by decide +kernel
theorem d_S_measureAll_1 : decode b_S_measureAll 1 = .ok (.istore_n 1, 1) := by decide +kernel
theorem d_S_measureAll_2 : decode b_S_measureAll 2 = .ok (.iload_n 1, 1) := by decide +kernel
theorem d_S_measureAll_3 : decode b_S_measureAll 3 = .ok (.aload_n 0, 1) := by decide +kernel
theorem d_S_measureAll_4 : decode b_S_measureAll 4 = .ok (.getfield 21, 3) := by decide +kernel
theorem d_S_measureAll_7 : decode b_S_measureAll 7 = .ok (.getfield 78, 3) := by decide +kernel
theorem d_S_measureAll_10 : decode b_S_measureAll 10 = .ok (.if_icmp .ge 34, 3) := by decide +kernel
theorem d_S_measureAll_13 : decode b_S_measureAll 13 = .ok (.aload_n 0, 1) := by decide +kernel
theorem d_S_measureAll_14 : decode b_S_measureAll 14 = .ok (.getfield 39, 3) := by decide +kernel
theorem d_S_measureAll_17 : decode b_S_measureAll 17 = .ok (.iload_n 1, 1) := by decide +kernel
theorem d_S_measureAll_18 : decode b_S_measureAll 18 = .ok (.aload_n 0, 1) := by decide +kernel
theorem d_S_measureAll_19 : decode b_S_measureAll 19 = .ok (.getfield 28, 3) := by decide +kernel
theorem d_S_measureAll_22 : decode b_S_measureAll 22 = .ok (.aload_n 0, 1) := by decide +kernel
theorem d_S_measureAll_23 : decode b_S_measureAll 23 = .ok (.getfield 14, 3) := by decide +kernel
theorem d_S_measureAll_26 : decode b_S_measureAll 26 = .ok (.aload_n 0, 1) := by decide +kernel
theorem d_S_measureAll_27 : decode b_S_measureAll 27 = .ok (.getfield 21, 3) := by decide +kernel
theorem d_S_measureAll_30 : decode b_S_measureAll 30 = .ok (.iload_n 1, 1) := by decide +kernel
theorem d_S_measureAll_31 : decode b_S_measureAll 31 = .ok (.invokevirtual 82, 3) := by decide +kernel
theorem d_S_measureAll_34 : decode b_S_measureAll 34 = .ok (.invokevirtual 89, 3) := by decide +kernel
theorem d_S_measureAll_37 : decode b_S_measureAll 37 = .ok (.iastore, 1) := by decide +kernel
theorem d_S_measureAll_38 : decode b_S_measureAll 38 = .ok (.iinc 1 1, 3) := by decide +kernel
theorem d_S_measureAll_41 : decode b_S_measureAll 41 = .ok (.goto (-39), 3) := by decide +kernel
theorem d_S_measureAll_44 : decode b_S_measureAll 44 = .ok (.return_, 1) := by decide +kernel
theorem d_S_placeAmongSuggestions_0 : decode b_S_placeAmongSuggestions 0 = .ok (.iconst 0, 1) := by decide +kernel
theorem d_S_placeAmongSuggestions_1 : decode b_S_placeAmongSuggestions 1 = .ok (.istore_n 2, 1) := by decide +kernel
theorem d_S_placeAmongSuggestions_2 : decode b_S_placeAmongSuggestions 2 = .ok (.iconst 0, 1) := by decide +kernel
theorem d_S_placeAmongSuggestions_3 : decode b_S_placeAmongSuggestions 3 = .ok (.istore_n 3, 1) := by decide +kernel
theorem d_S_placeAmongSuggestions_4 : decode b_S_placeAmongSuggestions 4 = .ok (.iload_n 3, 1) := by decide +kernel
theorem d_S_placeAmongSuggestions_5 : decode b_S_placeAmongSuggestions 5 = .ok (.aload_n 0, 1) := by decide +kernel
theorem d_S_placeAmongSuggestions_6 : decode b_S_placeAmongSuggestions 6 = .ok (.getfield 21, 3) := by decide +kernel
theorem d_S_placeAmongSuggestions_9 : decode b_S_placeAmongSuggestions 9 = .ok (.getfield 78, 3) := by decide +kernel
theorem d_S_placeAmongSuggestions_12 : decode b_S_placeAmongSuggestions 12 = .ok (.if_icmp .ge 21, 3) := by decide +kernel
theorem d_S_placeAmongSuggestions_15 : decode b_S_placeAmongSuggestions 15 = .ok (.aload_n 0, 1) := by decide +kernel
theorem d_S_placeAmongSuggestions_16 : decode b_S_placeAmongSuggestions 16 = .ok (.iload_n 3, 1) := by decide +kernel
theorem d_S_placeAmongSuggestions_17 : decode b_S_placeAmongSuggestions 17 = .ok (.iload_n 1, 1) := by decide +kernel
theorem d_S_placeAmongSuggestions_18 : decode b_S_placeAmongSuggestions 18 = .ok (.invokevirtual 113, 3) := by decide +kernel
theorem d_S_placeAmongSuggestions_21 : decode b_S_placeAmongSuggestions 21 = .ok (.ifCond .eq 6, 3) := by decide +kernel
theorem d_S_placeAmongSuggestions_24 : decode b_S_placeAmongSuggestions 24 = .ok (.iinc 2 1, 3) := by decide +kernel
theorem d_S_placeAmongSuggestions_27 : decode b_S_placeAmongSuggestions 27 = .ok (.iinc 3 1, 3) := by decide +kernel
theorem d_S_placeAmongSuggestions_30 : decode b_S_placeAmongSuggestions 30 = .ok (.goto (-26), 3) := by decide +kernel
theorem d_S_placeAmongSuggestions_33 : decode b_S_placeAmongSuggestions 33 = .ok (.iload_n 2, 1) := by decide +kernel
theorem d_S_placeAmongSuggestions_34 : decode b_S_placeAmongSuggestions 34 = .ok (.ireturn, 1) := by decide +kernel
theorem d_S_isSuggestedBefore_0 : decode b_S_isSuggestedBefore 0 = .ok (.aload_n 0, 1) := by decide +kernel
theorem d_S_isSuggestedBefore_1 : decode b_S_isSuggestedBefore 1 = .ok (.getfield 39, 3) := by decide +kernel
theorem d_S_isSuggestedBefore_4 : decode b_S_isSuggestedBefore 4 = .ok (.iload_n 1, 1) := by decide +kernel
theorem d_S_isSuggestedBefore_5 : decode b_S_isSuggestedBefore 5 = .ok (.iaload, 1) := by decide +kernel
theorem d_S_isSuggestedBefore_6 : decode b_S_isSuggestedBefore 6 = .ok (.aload_n 0, 1) := by decide +kernel
theorem d_S_isSuggestedBefore_7 : decode b_S_isSuggestedBefore 7 = .ok (.getfield 39, 3) := by decide +kernel
theorem d_S_isSuggestedBefore_10 : decode b_S_isSuggestedBefore 10 = .ok (.iload_n 2, 1) := by decide +kernel
theorem d_S_isSuggestedBefore_11 : decode b_S_isSuggestedBefore 11 = .ok (.iaload, 1) := by decide +kernel
theorem d_S_isSuggestedBefore_12 : decode b_S_isSuggestedBefore 12 = .ok (.if_icmp .eq 24, 3) := by decide +kernel
theorem d_S_isSuggestedBefore_15 : decode b_S_isSuggestedBefore 15 = .ok (.aload_n 0, 1) := by decide +kernel
theorem d_S_isSuggestedBefore_16 : decode b_S_isSuggestedBefore 16 = .ok (.getfield 39, 3) := by decide +kernel
theorem d_S_isSuggestedBefore_19 : decode b_S_isSuggestedBefore 19 = .ok (.iload_n 1, 1) := by decide +kernel
theorem d_S_isSuggestedBefore_20 : decode b_S_isSuggestedBefore 20 = .ok (.iaload, 1) := by decide +kernel
theorem d_S_isSuggestedBefore_21 : decode b_S_isSuggestedBefore 21 = .ok (.aload_n 0, 1) := by decide +kernel
theorem d_S_isSuggestedBefore_22 : decode b_S_isSuggestedBefore 22 = .ok (.getfield 39, 3) := by decide +kernel
theorem d_S_isSuggestedBefore_25 : decode b_S_isSuggestedBefore 25 = .ok (.iload_n 2, 1) := by decide +kernel
theorem d_S_isSuggestedBefore_26 : decode b_S_isSuggestedBefore 26 = .ok (.iaload, 1) := by decide +kernel
theorem d_S_isSuggestedBefore_27 : decode b_S_isSuggestedBefore 27 = .ok (.if_icmp .ge 7, 3) := by decide +kernel
theorem d_S_isSuggestedBefore_30 : decode b_S_isSuggestedBefore 30 = .ok (.iconst 1, 1) := by decide +kernel
theorem d_S_isSuggestedBefore_31 : decode b_S_isSuggestedBefore 31 = .ok (.goto 4, 3) := by decide +kernel
theorem d_S_isSuggestedBefore_34 : decode b_S_isSuggestedBefore 34 = .ok (.iconst 0, 1) := by decide +kernel
theorem d_S_isSuggestedBefore_35 : decode b_S_isSuggestedBefore 35 = .ok (.ireturn, 1) := by decide +kernel
theorem d_S_isSuggestedBefore_36 : decode b_S_isSuggestedBefore 36 = .ok (.aload_n 0, 1) := by decide +kernel
theorem d_S_isSuggestedBefore_37 : decode b_S_isSuggestedBefore 37 = .ok (.getfield 21, 3) := by decide +kernel
theorem d_S_isSuggestedBefore_40 : decode b_S_isSuggestedBefore 40 = .ok (.iload_n 1, 1) := by decide +kernel
theorem d_S_isSuggestedBefore_41 : decode b_S_isSuggestedBefore 41 = .ok (.iload_n 2, 1) := by decide +kernel
theorem d_S_isSuggestedBefore_42 : decode b_S_isSuggestedBefore 42 = .ok (.invokevirtual 117, 3) := by decide +kernel
theorem d_S_isSuggestedBefore_45 : decode b_S_isSuggestedBefore 45 = .ok (.ireturn, 1) := by decide +kernel
theorem d_S_placeAmongCompletions_0 : decode b_S_placeAmongCompletions 0 = .ok (.iconst 0, 1) := by decide +kernel
theorem d_S_placeAmongCompletions_1 : decode b_S_placeAmongCompletions 1 = .ok (.istore_n 2, 1) := by decide +kernel
theorem d_S_placeAmongCompletions_2 : decode b_S_placeAmongCompletions 2 = .ok (.iconst 0, 1) := by decide +kernel
theorem d_S_placeAmongCompletions_3 : decode b_S_placeAmongCompletions 3 = .ok (.istore_n 3, 1) := by decide +kernel
theorem d_S_placeAmongCompletions_4 : decode b_S_placeAmongCompletions 4 = .ok (.iload_n 3, 1) := by decide +kernel
theorem d_S_placeAmongCompletions_5 : decode b_S_placeAmongCompletions 5 = .ok (.aload_n 0, 1) := by decide +kernel
theorem d_S_placeAmongCompletions_6 : decode b_S_placeAmongCompletions 6 = .ok (.getfield 21, 3) := by decide +kernel
theorem d_S_placeAmongCompletions_9 : decode b_S_placeAmongCompletions 9 = .ok (.getfield 78, 3) := by decide +kernel
theorem d_S_placeAmongCompletions_12 : decode b_S_placeAmongCompletions 12 = .ok (.if_icmp .ge 32, 3) := by decide +kernel
theorem d_S_placeAmongCompletions_15 : decode b_S_placeAmongCompletions 15 = .ok (.aload_n 0, 1) := by decide +kernel
theorem d_S_placeAmongCompletions_16 : decode b_S_placeAmongCompletions 16 = .ok (.iload_n 3, 1) := by decide +kernel
theorem d_S_placeAmongCompletions_17 : decode b_S_placeAmongCompletions 17 = .ok (.invokevirtual 99, 3) := by decide +kernel
theorem d_S_placeAmongCompletions_20 : decode b_S_placeAmongCompletions 20 = .ok (.ifCond .eq 18, 3) := by decide +kernel
theorem d_S_placeAmongCompletions_23 : decode b_S_placeAmongCompletions 23 = .ok (.aload_n 0, 1) := by decide +kernel
theorem d_S_placeAmongCompletions_24 : decode b_S_placeAmongCompletions 24 = .ok (.getfield 21, 3) := by decide +kernel
theorem d_S_placeAmongCompletions_27 : decode b_S_placeAmongCompletions 27 = .ok (.iload_n 3, 1) := by decide +kernel
theorem d_S_placeAmongCompletions_28 : decode b_S_placeAmongCompletions 28 = .ok (.iload_n 1, 1) := by decide +kernel
theorem d_S_placeAmongCompletions_29 : decode b_S_placeAmongCompletions 29 = .ok (.invokevirtual 117, 3) := by decide +kernel
theorem d_S_placeAmongCompletions_32 : decode b_S_placeAmongCompletions 32 = .ok (.ifCond .eq 6, 3) := by decide +kernel
theorem d_S_placeAmongCompletions_35 : decode b_S_placeAmongCompletions 35 = .ok (.iinc 2 1, 3) := by decide +kernel
theorem d_S_placeAmongCompletions_38 : decode b_S_placeAmongCompletions 38 = .ok (.iinc 3 1, 3) := by decide +kernel
theorem d_S_placeAmongCompletions_41 : decode b_S_placeAmongCompletions 41 = .ok (.goto (-37), 3) := by decide +kernel
theorem d_S_placeAmongCompletions_44 : decode b_S_placeAmongCompletions 44 = .ok (.iload_n 2, 1) := by decide +kernel
theorem d_S_placeAmongCompletions_45 : decode b_S_placeAmongCompletions 45 = .ok (.ireturn, 1) := by decide +kernel
theorem d_S_isCompletion_0 : decode b_S_isCompletion 0 = .ok (.aload_n 0, 1) := by decide +kernel
theorem d_S_isCompletion_1 : decode b_S_isCompletion 1 = .ok (.getfield 21, 3) := by decide +kernel
theorem d_S_isCompletion_4 : decode b_S_isCompletion 4 = .ok (.iload_n 1, 1) := by decide +kernel
theorem d_S_isCompletion_5 : decode b_S_isCompletion 5 = .ok (.invokevirtual 82, 3) := by decide +kernel
theorem d_S_isCompletion_8 : decode b_S_isCompletion 8 = .ok (.aload_n 0, 1) := by decide +kernel
theorem d_S_isCompletion_9 : decode b_S_isCompletion 9 = .ok (.getfield 14, 3) := by decide +kernel
theorem d_S_isCompletion_12 : decode b_S_isCompletion 12 = .ok (.invokevirtual 120, 3) := by decide +kernel
theorem d_S_isCompletion_15 : decode b_S_isCompletion 15 = .ok (.ireturn, 1) := by decide +kernel
theorem d_D_init_0 : decode b_D_init 0 = .ok (.aload_n 0, 1) := by decide +kernel
theorem d_D_init_1 : decode b_D_init 1 = .ok (.invokespecial 3, 3) := by decide +kernel
theorem d_D_init_4 : decode b_D_init 4 = .ok (.aload_n 0, 1) := by decide +kernel
theorem d_D_init_5 : decode b_D_init 5 = .ok (.bipush 24, 2) := by decide +kernel
theorem d_D_init_7 : decode b_D_init 7 = .ok (.anewarray 9, 3) := by decide +kernel
theorem d_D_init_10 : decode b_D_init 10 = .ok (.putfield 11, 3) := by decide +kernel
theorem d_D_init_13 : decode b_D_init 13 = .ok (.iconst 0, 1) := by decide +kernel
theorem d_D_init_14 : decode b_D_init 14 = .ok (.istore_n 1, 1) := by decide +kernel
theorem d_D_init_15 : decode b_D_init 15 = .ok (.iload_n 1, 1) := by decide +kernel
theorem d_D_init_16 : decode b_D_init 16 = .ok (.bipush 24, 2) := by decide +kernel
theorem d_D_init_18 : decode b_D_init 18 = .ok (.if_icmp .ge 22, 3) := by decide +kernel
theorem d_D_init_21 : decode b_D_init 21 = .ok (.aload_n 0, 1) := by decide +kernel
theorem d_D_init_22 : decode b_D_init 22 = .ok (.getfield 11, 3) := by decide +kernel
theorem d_D_init_25 : decode b_D_init 25 = .ok (.iload_n 1, 1) := by decide +kernel
theorem d_D_init_26 : decode b_D_init 26 = .ok (.new 9, 3) := by decide +kernel
theorem d_D_init_29 : decode b_D_init 29 = .ok (.dup, 1) := by decide +kernel
theorem d_D_init_30 : decode b_D_init 30 = .ok (.invokespecial 17, 3) := by decide +kernel
theorem d_D_init_33 : decode b_D_init 33 = .ok (.aastore, 1) := by decide +kernel
theorem d_D_init_34 : decode b_D_init 34 = .ok (.iinc 1 1, 3) := by decide +kernel
theorem d_D_init_37 : decode b_D_init 37 = .ok (.goto (-22), 3) := by decide +kernel
theorem d_D_init_40 : decode b_D_init 40 = .ok (.aload_n 0, 1) := by decide +kernel
theorem d_D_init_41 : decode b_D_init 41 = .ok (.iconst 0, 1) := by decide +kernel
theorem d_D_init_42 : decode b_D_init 42 = .ok (.putfield 18, 3) := by decide +kernel
theorem d_D_init_45 : decode b_D_init 45 = .ok (.return_, 1) := by decide +kernel
theorem d_D_has_0 : decode b_D_has 0 = .ok (.iload_n 1, 1) := by decide +kernel
theorem d_D_has_1 : decode b_D_has 1 = .ok (.ifCond .lt 15, 3) := by decide +kernel
theorem d_D_has_4 : decode b_D_has 4 = .ok (.iload_n 1, 1) := by decide +kernel
theorem d_D_has_5 : decode b_D_has 5 = .ok (.aload_n 0, 1) := by decide +kernel
theorem d_D_has_6 : decode b_D_has 6 = .ok (.getfield 18, 3) := by decide +kernel
theorem d_D_has_9 : decode b_D_has 9 = .ok (.if_icmp .ge 7, 3) := by decide +kernel
theorem d_D_has_12 : decode b_D_has 12 = .ok (.iconst 1, 1) := by decide +kernel
theorem d_D_has_13 : decode b_D_has 13 = .ok (.goto 4, 3) := by decide +kernel
theorem d_D_has_16 : decode b_D_has 16 = .ok (.iconst 0, 1) := by decide +kernel
theorem d_D_has_17 : decode b_D_has 17 = .ok (.ireturn, 1) := by decide +kernel
theorem d_D_lettersOf_0 : decode b_D_lettersOf 0 = .ok (.aload_n 0, 1) := by decide +kernel
theorem d_D_lettersOf_1 : decode b_D_lettersOf 1 = .ok (.getfield 11, 3) := by decide +kernel
theorem d_D_lettersOf_4 : decode b_D_lettersOf 4 = .ok (.iload_n 1, 1) := by decide +kernel
theorem d_D_lettersOf_5 : decode b_D_lettersOf 5 = .ok (.aaload, 1) := by decide +kernel
theorem d_D_lettersOf_6 : decode b_D_lettersOf 6 = .ok (.getfield 22, 3) := by decide +kernel
theorem d_D_lettersOf_9 : decode b_D_lettersOf 9 = .ok (.areturn, 1) := by decide +kernel
theorem d_D_timesOf_0 : decode b_D_timesOf 0 = .ok (.aload_n 0, 1) := by decide +kernel
theorem d_D_timesOf_1 : decode b_D_timesOf 1 = .ok (.getfield 11, 3) := by decide +kernel
theorem d_D_timesOf_4 : decode b_D_timesOf 4 = .ok (.iload_n 1, 1) := by decide +kernel
theorem d_D_timesOf_5 : decode b_D_timesOf 5 = .ok (.aaload, 1) := by decide +kernel
theorem d_D_timesOf_6 : decode b_D_timesOf 6 = .ok (.getfield 26, 3) := by decide +kernel
theorem d_D_timesOf_9 : decode b_D_timesOf 9 = .ok (.ireturn, 1) := by decide +kernel
theorem d_D_addTimes_0 : decode b_D_addTimes 0 = .ok (.aload_n 0, 1) := by decide +kernel
theorem d_D_addTimes_1 : decode b_D_addTimes 1 = .ok (.getfield 11, 3) := by decide +kernel
theorem d_D_addTimes_4 : decode b_D_addTimes 4 = .ok (.iload_n 1, 1) := by decide +kernel
theorem d_D_addTimes_5 : decode b_D_addTimes 5 = .ok (.aaload, 1) := by decide +kernel
theorem d_D_addTimes_6 : decode b_D_addTimes 6 = .ok (.ldc 29, 2) := by decide +kernel
theorem d_D_addTimes_8 : decode b_D_addTimes 8 = .ok (.aload_n 0, 1) := by decide +kernel
theorem d_D_addTimes_9 : decode b_D_addTimes 9 = .ok (.getfield 11, 3) := by decide +kernel
theorem d_D_addTimes_12 : decode b_D_addTimes 12 = .ok (.iload_n 1, 1) := by decide +kernel
theorem d_D_addTimes_13 : decode b_D_addTimes 13 = .ok (.aaload, 1) := by decide +kernel
theorem d_D_addTimes_14 : decode b_D_addTimes 14 = .ok (.getfield 26, 3) := by decide +kernel
theorem d_D_addTimes_17 : decode b_D_addTimes 17 = .ok (.iload_n 2, 1) := by decide +kernel
theorem d_D_addTimes_18 : decode b_D_addTimes 18 = .ok (.iadd, 1) := by decide +kernel
theorem d_D_addTimes_19 : decode b_D_addTimes 19 = .ok (.invokestatic 30, 3) := by decide +kernel
theorem d_D_addTimes_22 : decode b_D_addTimes 22 = .ok (.putfield 26, 3) := by decide +kernel
theorem d_D_addTimes_25 : decode b_D_addTimes 25 = .ok (.return_, 1) := by decide +kernel
theorem d_D_isPreferred_0 : decode b_D_isPreferred 0 = .ok (.aload_n 0, 1) := by decide +kernel
theorem d_D_isPreferred_1 : decode b_D_isPreferred 1 = .ok (.getfield 11, 3) := by decide +kernel
theorem d_D_isPreferred_4 : decode b_D_isPreferred 4 = .ok (.iload_n 1, 1) := by decide +kernel
theorem d_D_isPreferred_5 : decode b_D_isPreferred 5 = .ok (.aaload, 1) := by decide +kernel
theorem d_D_isPreferred_6 : decode b_D_isPreferred 6 = .ok (.getfield 26, 3) := by decide +kernel
theorem d_D_isPreferred_9 : decode b_D_isPreferred 9 = .ok (.aload_n 0, 1) := by decide +kernel
theorem d_D_isPreferred_10 : decode b_D_isPreferred 10 = .ok (.getfield 11, 3) := by decide +kernel
theorem d_D_isPreferred_13 : decode b_D_isPreferred 13 = .ok (.iload_n 2, 1) := by decide +kernel
theorem d_D_isPreferred_14 : decode b_D_isPreferred 14 = .ok (.aaload, 1) := by decide +kernel
theorem d_D_isPreferred_15 : decode b_D_isPreferred 15 = .ok (.getfield 26, 3) := by decide +kernel
theorem d_D_isPreferred_18 : decode b_D_isPreferred 18 = .ok (.if_icmp .eq 30, 3) := by decide +kernel
theorem d_D_isPreferred_21 : decode b_D_isPreferred 21 = .ok (.aload_n 0, 1) := by decide +kernel
theorem d_D_isPreferred_22 : decode b_D_isPreferred 22 = .ok (.getfield 11, 3) := by decide +kernel
theorem d_D_isPreferred_25 : decode b_D_isPreferred 25 = .ok (.iload_n 1, 1) := by decide +kernel
theorem d_D_isPreferred_26 : decode b_D_isPreferred 26 = .ok (.aaload, 1) := by decide +kernel
theorem d_D_isPreferred_27 : decode b_D_isPreferred 27 = .ok (.getfield 26, 3) := by decide +kernel
theorem d_D_isPreferred_30 : decode b_D_isPreferred 30 = .ok (.aload_n 0, 1) := by decide +kernel
theorem d_D_isPreferred_31 : decode b_D_isPreferred 31 = .ok (.getfield 11, 3) := by decide +kernel
theorem d_D_isPreferred_34 : decode b_D_isPreferred 34 = .ok (.iload_n 2, 1) := by decide +kernel
theorem d_D_isPreferred_35 : decode b_D_isPreferred 35 = .ok (.aaload, 1) := by decide +kernel
theorem d_D_isPreferred_36 : decode b_D_isPreferred 36 = .ok (.getfield 26, 3) := by decide +kernel
theorem d_D_isPreferred_39 : decode b_D_isPreferred 39 = .ok (.if_icmp .le 7, 3) := by decide +kernel
theorem d_D_isPreferred_42 : decode b_D_isPreferred 42 = .ok (.iconst 1, 1) := by decide +kernel
theorem d_D_isPreferred_43 : decode b_D_isPreferred 43 = .ok (.goto 4, 3) := by decide +kernel
theorem d_D_isPreferred_46 : decode b_D_isPreferred 46 = .ok (.iconst 0, 1) := by decide +kernel
theorem d_D_isPreferred_47 : decode b_D_isPreferred 47 = .ok (.ireturn, 1) := by decide +kernel
theorem d_D_isPreferred_48 : decode b_D_isPreferred 48 = .ok (.iload_n 1, 1) := by decide +kernel
theorem d_D_isPreferred_49 : decode b_D_isPreferred 49 = .ok (.iload_n 2, 1) := by decide +kernel
theorem d_D_isPreferred_50 : decode b_D_isPreferred 50 = .ok (.if_icmp .ge 7, 3) := by decide +kernel
theorem d_D_isPreferred_53 : decode b_D_isPreferred 53 = .ok (.iconst 1, 1) := by decide +kernel
theorem d_D_isPreferred_54 : decode b_D_isPreferred 54 = .ok (.goto 4, 3) := by decide +kernel
theorem d_D_isPreferred_57 : decode b_D_isPreferred 57 = .ok (.iconst 0, 1) := by decide +kernel
theorem d_D_isPreferred_58 : decode b_D_isPreferred 58 = .ok (.ireturn, 1) := by decide +kernel
theorem d_D_find_0 : decode b_D_find 0 = .ok (.iconst 0, 1) := by decide +kernel
theorem d_D_find_1 : decode b_D_find 1 = .ok (.istore_n 2, 1) := by decide +kernel
theorem d_D_find_2 : decode b_D_find 2 = .ok (.iload_n 2, 1) := by decide +kernel
theorem d_D_find_3 : decode b_D_find 3 = .ok (.aload_n 0, 1) := by decide +kernel
theorem d_D_find_4 : decode b_D_find 4 = .ok (.getfield 18, 3) := by decide +kernel
theorem d_D_find_7 : decode b_D_find 7 = .ok (.if_icmp .ge 27, 3) := by decide +kernel
theorem d_D_find_10 : decode b_D_find 10 = .ok (.aload_n 0, 1) := by decide +kernel
theorem d_D_find_11 : decode b_D_find 11 = .ok (.getfield 11, 3) := by decide +kernel
theorem d_D_find_14 : decode b_D_find 14 = .ok (.iload_n 2, 1) := by decide +kernel
theorem d_D_find_15 : decode b_D_find 15 = .ok (.aaload, 1) := by decide +kernel
theorem d_D_find_16 : decode b_D_find 16 = .ok (.getfield 22, 3) := by decide +kernel
theorem d_D_find_19 : decode b_D_find 19 = .ok (.aload_n 1, 1) := by decide +kernel
theorem d_D_find_20 : decode b_D_find 20 = .ok (.invokevirtual 36, 3) := by decide +kernel
theorem d_D_find_23 : decode b_D_find 23 = .ok (.ifCond .eq 5, 3) := by decide +kernel
theorem d_D_find_26 : decode b_D_find 26 = .ok (.iload_n 2, 1) := by decide +kernel
theorem d_D_find_27 : decode b_D_find 27 = .ok (.ireturn, 1) := by decide +kernel
theorem d_D_find_28 : decode b_D_find 28 = .ok (.iinc 2 1, 3) := by decide +kernel
theorem d_D_find_31 : decode b_D_find 31 = .ok (.goto (-29), 3) := by decide +kernel
theorem d_D_find_34 : decode b_D_find 34 = .ok (.iconst (-1), 1) := by decide +kernel
theorem d_D_find_35 : decode b_D_find 35 = .ok (.ireturn, 1) := by decide +kernel
theorem d_D_insert_0 : decode b_D_insert 0 = .ok (.aload_n 0, 1) := by decide +kernel
theorem d_D_insert_1 : decode b_D_insert 1 = .ok (.getfield 18, 3) := by decide +kernel
theorem d_D_insert_4 : decode b_D_insert 4 = .ok (.bipush 24, 2) := by decide +kernel
theorem d_D_insert_6 : decode b_D_insert 6 = .ok (.if_icmp .lt 5, 3) := by decide +kernel
theorem d_D_insert_9 : decode b_D_insert 9 = .ok (.iconst 0, 1) := by decide +kernel
theorem d_D_insert_10 : decode b_D_insert 10 = .ok (.ireturn, 1) := by decide +kernel
theorem d_D_insert_11 : decode b_D_insert 11 = .ok (.aload_n 0, 1) := by decide +kernel
theorem d_D_insert_12 : decode b_D_insert 12 = .ok (.getfield 11, 3) := by decide +kernel
theorem d_D_insert_15 : decode b_D_insert 15 = .ok (.aload_n 0, 1) := by decide +kernel
theorem d_D_insert_16 : decode b_D_insert 16 = .ok (.getfield 18, 3) := by decide +kernel
theorem d_D_insert_19 : decode b_D_insert 19 = .ok (.aaload, 1) := by decide +kernel
theorem d_D_insert_20 : decode b_D_insert 20 = .ok (.astore_n 3, 1) := by decide +kernel
theorem d_D_insert_21 : decode b_D_insert 21 = .ok (.aload_n 3, 1) := by decide +kernel
theorem d_D_insert_22 : decode b_D_insert 22 = .ok (.getfield 22, 3) := by decide +kernel
theorem d_D_insert_25 : decode b_D_insert 25 = .ok (.aload_n 1, 1) := by decide +kernel
theorem d_D_insert_26 : decode b_D_insert 26 = .ok (.invokevirtual 42, 3) := by decide +kernel
theorem d_D_insert_29 : decode b_D_insert 29 = .ok (.aload_n 3, 1) := by decide +kernel
theorem d_D_insert_30 : decode b_D_insert 30 = .ok (.iload_n 2, 1) := by decide +kernel
theorem d_D_insert_31 : decode b_D_insert 31 = .ok (.putfield 26, 3) := by decide +kernel
theorem d_D_insert_34 : decode b_D_insert 34 = .ok (.aload_n 0, 1) := by decide +kernel
theorem d_D_insert_35 : decode b_D_insert 35 = .ok (.aload_n 1, 1) := by decide +kernel
theorem d_D_insert_36 : decode b_D_insert 36 = .ok (.invokevirtual 46, 3) := by decide +kernel
theorem d_D_insert_39 : decode b_D_insert 39 = .ok (.istore 4, 2) := by decide +kernel
theorem d_D_insert_41 : decode b_D_insert 41 = .ok (.aload_n 0, 1) := by decide +kernel
theorem d_D_insert_42 : decode b_D_insert 42 = .ok (.getfield 18, 3) := by decide +kernel
theorem d_D_insert_45 : decode b_D_insert 45 = .ok (.istore 5, 2) := by decide +kernel
theorem d_D_insert_47 : decode b_D_insert 47 = .ok (.iload 5, 2) := by decide +kernel
theorem d_D_insert_49 : decode b_D_insert 49 = .ok (.iload 4, 2) := by decide +kernel
theorem d_D_insert_51 : decode b_D_insert 51 = .ok (.if_icmp .le 25, 3) := by decide +kernel
theorem d_D_insert_54 : decode b_D_insert 54 = .ok (.aload_n 0, 1) := by decide +kernel
theorem d_D_insert_55 : decode b_D_insert 55 = .ok (.getfield 11, 3) := by decide +kernel
theorem d_D_insert_58 : decode b_D_insert 58 = .ok (.iload 5, 2) := by decide +kernel
theorem d_D_insert_60 : decode b_D_insert 60 = .ok (.aload_n 0, 1) := by decide +kernel
theorem d_D_insert_61 : decode b_D_insert 61 = .ok (.getfield 11, 3) := by decide +kernel
theorem d_D_insert_64 : decode b_D_insert 64 = .ok (.iload 5, 2) := by decide +kernel
theorem d_D_insert_66 : decode b_D_insert 66 = .ok (.iconst 1, 1) := by decide +kernel
theorem d_D_insert_67 : decode b_D_insert 67 = .ok (.isub, 1) := by decide +kernel
theorem d_D_insert_68 : decode b_D_insert 68 = .ok (.aaload, 1) := by decide +kernel
theorem d_D_insert_69 : decode b_D_insert 69 = .ok (.aastore, 1) := by decide +kernel
theorem d_D_insert_70 : decode b_D_insert 70 = .ok (.iinc 5 (-1), 3) := by decide +kernel
theorem d_D_insert_73 : decode b_D_insert 73 = .ok (.goto (-26), 3) := by decide +kernel
theorem d_D_insert_76 : decode b_D_insert 76 = .ok (.aload_n 0, 1) := by decide +kernel
theorem d_D_insert_77 : decode b_D_insert 77 = .ok (.getfield 11, 3) := by decide +kernel
theorem d_D_insert_80 : decode b_D_insert 80 = .ok (.iload 4, 2) := by decide +kernel
theorem d_D_insert_82 : decode b_D_insert 82 = .ok (.aload_n 3, 1) := by decide +kernel
theorem d_D_insert_83 : decode b_D_insert 83 = .ok (.aastore, 1) := by decide +kernel
theorem d_D_insert_84 : decode b_D_insert 84 = .ok (.aload_n 0, 1) := by decide +kernel
theorem d_D_insert_85 : decode b_D_insert 85 = .ok (.dup, 1) := by decide +kernel
theorem d_D_insert_86 : decode b_D_insert 86 = .ok (.getfield 18, 3) := by decide +kernel
theorem d_D_insert_89 : decode b_D_insert 89 = .ok (.iconst 1, 1) := by decide +kernel
theorem d_D_insert_90 : decode b_D_insert 90 = .ok (.iadd, 1) := by decide +kernel
theorem d_D_insert_91 : decode b_D_insert 91 = .ok (.putfield 18, 3) := by decide +kernel
theorem d_D_insert_94 : decode b_D_insert 94 = .ok (.iconst 1, 1) := by decide +kernel
theorem d_D_insert_95 : decode b_D_insert 95 = .ok (.ireturn, 1) := by decide +kernel
theorem d_D_remove_0 : decode b_D_remove 0 = .ok (.aload_n 0, 1) := by decide +kernel
theorem d_D_remove_1 : decode b_D_remove 1 = .ok (.iload_n 1, 1) := by decide +kernel
theorem d_D_remove_2 : decode b_D_remove 2 = .ok (.invokevirtual 50, 3) := by decide +kernel
theorem d_D_remove_5 : decode b_D_remove 5 = .ok (.ifCond .ne 5, 3) := by decide +kernel
theorem d_D_remove_8 : decode b_D_remove 8 = .ok (.iconst 0, 1) := by decide +kernel
theorem d_D_remove_9 : decode b_D_remove 9 = .ok (.ireturn, 1) := by decide +kernel
theorem d_D_remove_10 : decode b_D_remove 10 = .ok (.aload_n 0, 1) := by decide +kernel
theorem d_D_remove_11 : decode b_D_remove 11 = .ok (.getfield 11, 3) := by decide +kernel
theorem d_D_remove_14 : decode b_D_remove 14 = .ok (.iload_n 1, 1) := by decide +kernel
theorem d_D_remove_15 : decode b_D_remove 15 = .ok (.aaload, 1) := by decide +kernel
theorem d_D_remove_16 : decode b_D_remove 16 = .ok (.astore_n 2, 1) := by decide +kernel
theorem d_D_remove_17 : decode b_D_remove 17 = .ok (.aload_n 0, 1) := by decide +kernel
theorem d_D_remove_18 : decode b_D_remove 18 = .ok (.dup, 1) := by decide +kernel
theorem d_D_remove_19 : decode b_D_remove 19 = .ok (.getfield 18, 3) := by decide +kernel
theorem d_D_remove_22 : decode b_D_remove 22 = .ok (.iconst 1, 1) := by decide +kernel
theorem d_D_remove_23 : decode b_D_remove 23 = .ok (.isub, 1) := by decide +kernel
theorem d_D_remove_24 : decode b_D_remove 24 = .ok (.putfield 18, 3) := by decide +kernel
theorem d_D_remove_27 : decode b_D_remove 27 = .ok (.iload_n 1, 1) := by decide +kernel
theorem d_D_remove_28 : decode b_D_remove 28 = .ok (.istore_n 3, 1) := by decide +kernel
theorem d_D_remove_29 : decode b_D_remove 29 = .ok (.iload_n 3, 1) := by decide +kernel
theorem d_D_remove_30 : decode b_D_remove 30 = .ok (.aload_n 0, 1) := by decide +kernel
theorem d_D_remove_31 : decode b_D_remove 31 = .ok (.getfield 18, 3) := by decide +kernel
theorem d_D_remove_34 : decode b_D_remove 34 = .ok (.if_icmp .ge 23, 3) := by decide +kernel
theorem d_D_remove_37 : decode b_D_remove 37 = .ok (.aload_n 0, 1) := by decide +kernel
theorem d_D_remove_38 : decode b_D_remove 38 = .ok (.getfield 11, 3) := by decide +kernel
theorem d_D_remove_41 : decode b_D_remove 41 = .ok (.iload_n 3, 1) := by decide +kernel
theorem d_D_remove_42 : decode b_D_remove 42 = .ok (.aload_n 0, 1) := by decide +kernel
theorem d_D_remove_43 : decode b_D_remove 43 = .ok (.getfield 11, 3) := by decide +kernel
theorem d_D_remove_46 : decode b_D_remove 46 = .ok (.iload_n 3, 1) := by decide +kernel
theorem d_D_remove_47 : decode b_D_remove 47 = .ok (.iconst 1, 1) := by decide +kernel
theorem d_D_remove_48 : decode b_D_remove 48 = .ok (.iadd, 1) := by decide +kernel
theorem d_D_remove_49 : decode b_D_remove 49 = .ok (.aaload, 1) := by decide +kernel
theorem d_D_remove_50 : decode b_D_remove 50 = .ok (.aastore, 1) := by decide +kernel
theorem d_D_remove_51 : decode b_D_remove 51 = .ok (.iinc 3 1, 3) := by decide +kernel
theorem d_D_remove_54 : decode b_D_remove 54 = .ok (.goto (-25), 3) := by decide +kernel
theorem d_D_remove_57 : decode b_D_remove 57 = .ok (.aload_n 0, 1) := by decide +kernel
theorem d_D_remove_58 : decode b_D_remove 58 = .ok (.getfield 11, 3) := by decide +kernel
theorem d_D_remove_61 : decode b_D_remove 61 = .ok (.aload_n 0, 1) := by decide +kernel
theorem d_D_remove_62 : decode b_D_remove 62 = .ok (.getfield 18, 3) := by decide +kernel
theorem d_D_remove_65 : decode b_D_remove 65 = .ok (.aload_n 2, 1) := by decide +kernel
theorem d_D_remove_66 : decode b_D_remove 66 = .ok (.aastore, 1) := by decide +kernel
theorem d_D_remove_67 : decode b_D_remove 67 = .ok (.iconst 1, 1) := by decide +kernel
theorem d_D_remove_68 : decode b_D_remove 68 = .ok (.ireturn, 1) := by decide +kernel
theorem d_D_placeFor_0 : decode b_D_placeFor 0 = .ok (.iconst 0, 1) := by decide +kernel
theorem d_D_placeFor_1 : decode b_D_placeFor 1 = .ok (.istore_n 2, 1) := by decide +kernel
theorem d_D_placeFor_2 : decode b_D_placeFor 2 = .ok (.iconst 0, 1) := by decide +kernel
theorem d_D_placeFor_3 : decode b_D_placeFor 3 = .ok (.istore_n 3, 1) := by decide +kernel
theorem d_D_placeFor_4 : decode b_D_placeFor 4 = .ok (.iload_n 3, 1) := by decide +kernel
theorem d_D_placeFor_5 : decode b_D_placeFor 5 = .ok (.aload_n 0, 1) := by decide +kernel
theorem d_D_placeFor_6 : decode b_D_placeFor 6 = .ok (.getfield 18, 3) := by decide +kernel
theorem d_D_placeFor_9 : decode b_D_placeFor 9 = .ok (.if_icmp .ge 28, 3) := by decide +kernel
theorem d_D_placeFor_12 : decode b_D_placeFor 12 = .ok (.aload_n 0, 1) := by decide +kernel
theorem d_D_placeFor_13 : decode b_D_placeFor 13 = .ok (.getfield 11, 3) := by decide +kernel
theorem d_D_placeFor_16 : decode b_D_placeFor 16 = .ok (.iload_n 3, 1) := by decide +kernel
theorem d_D_placeFor_17 : decode b_D_placeFor 17 = .ok (.aaload, 1) := by decide +kernel
theorem d_D_placeFor_18 : decode b_D_placeFor 18 = .ok (.getfield 22, 3) := by decide +kernel
theorem d_D_placeFor_21 : decode b_D_placeFor 21 = .ok (.aload_n 1, 1) := by decide +kernel
theorem d_D_placeFor_22 : decode b_D_placeFor 22 = .ok (.invokevirtual 54, 3) := by decide +kernel
theorem d_D_placeFor_25 : decode b_D_placeFor 25 = .ok (.ifCond .eq 6, 3) := by decide +kernel
theorem d_D_placeFor_28 : decode b_D_placeFor 28 = .ok (.iinc 2 1, 3) := by decide +kernel
theorem d_D_placeFor_31 : decode b_D_placeFor 31 = .ok (.iinc 3 1, 3) := by decide +kernel
theorem d_D_placeFor_34 : decode b_D_placeFor 34 = .ok (.goto (-30), 3) := by decide +kernel
theorem d_D_placeFor_37 : decode b_D_placeFor 37 = .ok (.iload_n 2, 1) := by decide +kernel
theorem d_D_placeFor_38 : decode b_D_placeFor 38 = .ok (.ireturn, 1) := by decide +kernel
theorem d_R_init_0 : decode b_R_init 0 = .ok (.aload_n 0, 1) := by decide +kernel
theorem d_R_init_1 : decode b_R_init 1 = .ok (.invokespecial 3, 3) := by decide +kernel
theorem d_R_init_4 : decode b_R_init 4 = .ok (.aload_n 0, 1) := by decide +kernel
theorem d_R_init_5 : decode b_R_init 5 = .ok (.bipush 11, 2) := by decide +kernel
theorem d_R_init_7 : decode b_R_init 7 = .ok (.bipush 11, 2) := by decide +kernel
theorem d_R_init_9 : decode b_R_init 9 = .ok (.multianewarray 9 2, 4) := by decide +kernel
theorem d_R_init_13 : decode b_R_init 13 = .ok (.putfield 11, 3) := by decide +kernel
theorem d_R_init_16 : decode b_R_init 16 = .ok (.return_, 1) := by decide +kernel
theorem d_R_listsOf_0 : decode b_R_listsOf 0 = .ok (.iconst 0, 1) := by decide +kernel
theorem d_R_listsOf_1 : decode b_R_listsOf 1 = .ok (.istore_n 3, 1) := by decide +kernel
theorem d_R_listsOf_2 : decode b_R_listsOf 2 = .ok (.iload_n 3, 1) := by decide +kernel
theorem d_R_listsOf_3 : decode b_R_listsOf 3 = .ok (.aload_n 1, 1) := by decide +kernel
theorem d_R_listsOf_4 : decode b_R_listsOf 4 = .ok (.getfield 16, 3) := by decide +kernel
theorem d_R_listsOf_7 : decode b_R_listsOf 7 = .ok (.if_icmp .gt 58, 3) := by decide +kernel
theorem d_R_listsOf_10 : decode b_R_listsOf 10 = .ok (.aload_n 0, 1) := by decide +kernel
theorem d_R_listsOf_11 : decode b_R_listsOf 11 = .ok (.getfield 11, 3) := by decide +kernel
theorem d_R_listsOf_14 : decode b_R_listsOf 14 = .ok (.iload_n 3, 1) := by decide +kernel
theorem d_R_listsOf_15 : decode b_R_listsOf 15 = .ok (.aaload, 1) := by decide +kernel
theorem d_R_listsOf_16 : decode b_R_listsOf 16 = .ok (.iconst 0, 1) := by decide +kernel
theorem d_R_listsOf_17 : decode b_R_listsOf 17 = .ok (.iconst 1, 1) := by decide +kernel
theorem d_R_listsOf_18 : decode b_R_listsOf 18 = .ok (.iastore, 1) := by decide +kernel
theorem d_R_listsOf_19 : decode b_R_listsOf 19 = .ok (.iconst 1, 1) := by decide +kernel
theorem d_R_listsOf_20 : decode b_R_listsOf 20 = .ok (.istore 4, 2) := by decide +kernel
theorem d_R_listsOf_22 : decode b_R_listsOf 22 = .ok (.iload 4, 2) := by decide +kernel
theorem d_R_listsOf_24 : decode b_R_listsOf 24 = .ok (.iload_n 2, 1) := by decide +kernel
theorem d_R_listsOf_25 : decode b_R_listsOf 25 = .ok (.if_icmp .gt 34, 3) := by decide +kernel
theorem d_R_listsOf_28 : decode b_R_listsOf 28 = .ok (.aload_n 0, 1) := by decide +kernel
theorem d_R_listsOf_29 : decode b_R_listsOf 29 = .ok (.getfield 11, 3) := by decide +kernel
theorem d_R_listsOf_32 : decode b_R_listsOf 32 = .ok (.iload_n 3, 1) := by decide +kernel
theorem d_R_listsOf_33 : decode b_R_listsOf 33 = .ok (.aaload, 1) := by decide +kernel
theorem d_R_listsOf_34 : decode b_R_listsOf 34 = .ok (.iload 4, 2) := by decide +kernel
theorem d_R_listsOf_36 : decode b_R_listsOf 36 = .ok (.iload_n 3, 1) := by decide +kernel
theorem d_R_listsOf_37 : decode b_R_listsOf 37 = .ok (.ifCond .ne 7, 3) := by decide +kernel
theorem d_R_listsOf_40 : decode b_R_listsOf 40 = .ok (.iconst 0, 1) := by decide +kernel
theorem d_R_listsOf_41 : decode b_R_listsOf 41 = .ok (.goto 11, 3) := by decide +kernel
theorem d_R_listsOf_44 : decode b_R_listsOf 44 = .ok (.aload_n 0, 1) := by decide +kernel
theorem d_R_listsOf_45 : decode b_R_listsOf 45 = .ok (.aload_n 1, 1) := by decide +kernel
theorem d_R_listsOf_46 : decode b_R_listsOf 46 = .ok (.iload_n 3, 1) := by decide +kernel
theorem d_R_listsOf_47 : decode b_R_listsOf 47 = .ok (.iload 4, 2) := by decide +kernel
theorem d_R_listsOf_49 : decode b_R_listsOf 49 = .ok (.invokevirtual 22, 3) := by decide +kernel
theorem d_R_listsOf_52 : decode b_R_listsOf 52 = .ok (.iastore, 1) := by decide +kernel
theorem d_R_listsOf_53 : decode b_R_listsOf 53 = .ok (.iinc 4 1, 3) := by decide +kernel
theorem d_R_listsOf_56 : decode b_R_listsOf 56 = .ok (.goto (-34), 3) := by decide +kernel
theorem d_R_listsOf_59 : decode b_R_listsOf 59 = .ok (.iinc 3 1, 3) := by decide +kernel
theorem d_R_listsOf_62 : decode b_R_listsOf 62 = .ok (.goto (-60), 3) := by decide +kernel
theorem d_R_listsOf_65 : decode b_R_listsOf 65 = .ok (.aload_n 0, 1) := by decide +kernel
theorem d_R_listsOf_66 : decode b_R_listsOf 66 = .ok (.getfield 11, 3) := by decide +kernel
theorem d_R_listsOf_69 : decode b_R_listsOf 69 = .ok (.aload_n 1, 1) := by decide +kernel
theorem d_R_listsOf_70 : decode b_R_listsOf 70 = .ok (.getfield 16, 3) := by decide +kernel
theorem d_R_listsOf_73 : decode b_R_listsOf 73 = .ok (.aaload, 1) := by decide +kernel
theorem d_R_listsOf_74 : decode b_R_listsOf 74 = .ok (.iload_n 2, 1) := by decide +kernel
theorem d_R_listsOf_75 : decode b_R_listsOf 75 = .ok (.iaload, 1) := by decide +kernel
theorem d_R_listsOf_76 : decode b_R_listsOf 76 = .ok (.ireturn, 1) := by decide +kernel
theorem d_R_listsWithin_0 : decode b_R_listsWithin 0 = .ok (.iload_n 2, 1) := by decide +kernel
theorem d_R_listsWithin_1 : decode b_R_listsWithin 1 = .ok (.iconst 1, 1) := by decide +kernel
theorem d_R_listsWithin_2 : decode b_R_listsWithin 2 = .ok (.isub, 1) := by decide +kernel
theorem d_R_listsWithin_3 : decode b_R_listsWithin 3 = .ok (.istore 4, 2) := by decide +kernel
theorem d_R_listsWithin_5 : decode b_R_listsWithin 5 = .ok (.aload_n 0, 1) := by decide +kernel
theorem d_R_listsWithin_6 : decode b_R_listsWithin 6 = .ok (.getfield 11, 3) := by decide +kernel
theorem d_R_listsWithin_9 : decode b_R_listsWithin 9 = .ok (.iload 4, 2) := by decide +kernel
theorem d_R_listsWithin_11 : decode b_R_listsWithin 11 = .ok (.aaload, 1) := by decide +kernel
theorem d_R_listsWithin_12 : decode b_R_listsWithin 12 = .ok (.iload_n 3, 1) := by decide +kernel
theorem d_R_listsWithin_13 : decode b_R_listsWithin 13 = .ok (.iaload, 1) := by decide +kernel
theorem d_R_listsWithin_14 : decode b_R_listsWithin 14 = .ok (.aload_n 0, 1) := by decide +kernel
theorem d_R_listsWithin_15 : decode b_R_listsWithin 15 = .ok (.getfield 11, 3) := by decide +kernel
theorem d_R_listsWithin_18 : decode b_R_listsWithin 18 = .ok (.iload 4, 2) := by decide +kernel
theorem d_R_listsWithin_20 : decode b_R_listsWithin 20 = .ok (.aaload, 1) := by decide +kernel
theorem d_R_listsWithin_21 : decode b_R_listsWithin 21 = .ok (.iload_n 3, 1) := by decide +kernel
theorem d_R_listsWithin_22 : decode b_R_listsWithin 22 = .ok (.iconst 1, 1) := by decide +kernel
theorem d_R_listsWithin_23 : decode b_R_listsWithin 23 = .ok (.isub, 1) := by decide +kernel
theorem d_R_listsWithin_24 : decode b_R_listsWithin 24 = .ok (.iaload, 1) := by decide +kernel
theorem d_R_listsWithin_25 : decode b_R_listsWithin 25 = .ok (.iadd, 1) := by decide +kernel
theorem d_R_listsWithin_26 : decode b_R_listsWithin 26 = .ok (.istore 5, 2) := by decide +kernel
theorem d_R_listsWithin_28 : decode b_R_listsWithin 28 = .ok (.aload_n 0, 1) := by decide +kernel
theorem d_R_listsWithin_29 : decode b_R_listsWithin 29 = .ok (.aload_n 1, 1) := by decide +kernel
theorem d_R_listsWithin_30 : decode b_R_listsWithin 30 = .ok (.iload 4, 2) := by decide +kernel
theorem d_R_listsWithin_32 : decode b_R_listsWithin 32 = .ok (.invokevirtual 26, 3) := by decide +kernel
theorem d_R_listsWithin_35 : decode b_R_listsWithin 35 = .ok (.istore 6, 2) := by decide +kernel
theorem d_R_listsWithin_37 : decode b_R_listsWithin 37 = .ok (.iload 6, 2) := by decide +kernel
theorem d_R_listsWithin_39 : decode b_R_listsWithin 39 = .ok (.iconst (-1), 1) := by decide +kernel
theorem d_R_listsWithin_40 : decode b_R_listsWithin 40 = .ok (.if_icmp .ne 8, 3) := by decide +kernel
theorem d_R_listsWithin_43 : decode b_R_listsWithin 43 = .ok (.iload 5, 2) := by decide +kernel
theorem d_R_listsWithin_45 : decode b_R_listsWithin 45 = .ok (.goto 17, 3) := by decide +kernel
theorem d_R_listsWithin_48 : decode b_R_listsWithin 48 = .ok (.iload 5, 2) := by decide +kernel
theorem d_R_listsWithin_50 : decode b_R_listsWithin 50 = .ok (.aload_n 0, 1) := by decide +kernel
theorem d_R_listsWithin_51 : decode b_R_listsWithin 51 = .ok (.getfield 11, 3) := by decide +kernel
theorem d_R_listsWithin_54 : decode b_R_listsWithin 54 = .ok (.iload 6, 2) := by decide +kernel
theorem d_R_listsWithin_56 : decode b_R_listsWithin 56 = .ok (.aaload, 1) := by decide +kernel
theorem d_R_listsWithin_57 : decode b_R_listsWithin 57 = .ok (.iload_n 3, 1) := by decide +kernel
theorem d_R_listsWithin_58 : decode b_R_listsWithin 58 = .ok (.iconst 1, 1) := by decide +kernel
theorem d_R_listsWithin_59 : decode b_R_listsWithin 59 = .ok (.isub, 1) := by decide +kernel
theorem d_R_listsWithin_60 : decode b_R_listsWithin 60 = .ok (.iaload, 1) := by decide +kernel
theorem d_R_listsWithin_61 : decode b_R_listsWithin 61 = .ok (.isub, 1) := by decide +kernel
theorem d_R_listsWithin_62 : decode b_R_listsWithin 62 = .ok (.ireturn, 1) := by decide +kernel
theorem d_R_placeBefore_0 : decode b_R_placeBefore 0 = .ok (.iload_n 2, 1) := by decide +kernel
theorem d_R_placeBefore_1 : decode b_R_placeBefore 1 = .ok (.iconst 1, 1) := by decide +kernel
theorem d_R_placeBefore_2 : decode b_R_placeBefore 2 = .ok (.isub, 1) := by decide +kernel
theorem d_R_placeBefore_3 : decode b_R_placeBefore 3 = .ok (.istore_n 3, 1) := by decide +kernel
theorem d_R_placeBefore_4 : decode b_R_placeBefore 4 = .ok (.iload_n 3, 1) := by decide +kernel
theorem d_R_placeBefore_5 : decode b_R_placeBefore 5 = .ok (.ifCond .lt 24, 3) := by decide +kernel
theorem d_R_placeBefore_8 : decode b_R_placeBefore 8 = .ok (.aload_n 1, 1) := by decide +kernel
theorem d_R_placeBefore_9 : decode b_R_placeBefore 9 = .ok (.iload_n 3, 1) := by decide +kernel
theorem d_R_placeBefore_10 : decode b_R_placeBefore 10 = .ok (.invokevirtual 30, 3) := by decide +kernel
theorem d_R_placeBefore_13 : decode b_R_placeBefore 13 = .ok (.aload_n 1, 1) := by decide +kernel
theorem d_R_placeBefore_14 : decode b_R_placeBefore 14 = .ok (.iload_n 2, 1) := by decide +kernel
theorem d_R_placeBefore_15 : decode b_R_placeBefore 15 = .ok (.invokevirtual 30, 3) := by decide +kernel
theorem d_R_placeBefore_18 : decode b_R_placeBefore 18 = .ok (.if_icmp .ne 5, 3) := by decide +kernel
theorem d_R_placeBefore_21 : decode b_R_placeBefore 21 = .ok (.iload_n 3, 1) := by decide +kernel
theorem d_R_placeBefore_22 : decode b_R_placeBefore 22 = .ok (.ireturn, 1) := by decide +kernel
theorem d_R_placeBefore_23 : decode b_R_placeBefore 23 = .ok (.iinc 3 (-1), 3) := by decide +kernel
theorem d_R_placeBefore_26 : decode b_R_placeBefore 26 = .ok (.goto (-22), 3) := by decide +kernel
theorem d_R_placeBefore_29 : decode b_R_placeBefore 29 = .ok (.iconst (-1), 1) := by decide +kernel
theorem d_R_placeBefore_30 : decode b_R_placeBefore 30 = .ok (.ireturn, 1) := by decide +kernel
theorem d_E_init_0 : decode b_E_init 0 = .ok (.aload_n 0, 1) := by decide +kernel
theorem d_E_init_1 : decode b_E_init 1 = .ok (.invokespecial 3, 3) := by decide +kernel
theorem d_E_init_4 : decode b_E_init 4 = .ok (.aload_n 0, 1) := by decide +kernel
theorem d_E_init_5 : decode b_E_init 5 = .ok (.bipush 11, 2) := by decide +kernel
theorem d_E_init_7 : decode b_E_init 7 = .ok (.bipush 9, 2) := by decide +kernel
theorem d_E_init_9 : decode b_E_init 9 = .ok (.multianewarray 9 2, 4) := by decide +kernel
theorem d_E_init_13 : decode b_E_init 13 = .ok (.putfield 11, 3) := by decide +kernel
theorem d_E_init_16 : decode b_E_init 16 = .ok (.return_, 1) := by decide +kernel
theorem d_E_measure_0 : decode b_E_measure 0 = .ok (.aload_n 1, 1) := by decide +kernel
theorem d_E_measure_1 : decode b_E_measure 1 = .ok (.getfield 16, 3) := by decide +kernel
theorem d_E_measure_4 : decode b_E_measure 4 = .ok (.istore_n 3, 1) := by decide +kernel
theorem d_E_measure_5 : decode b_E_measure 5 = .ok (.iload_n 3, 1) := by decide +kernel
theorem d_E_measure_6 : decode b_E_measure 6 = .ok (.ifCond .lt 44, 3) := by decide +kernel
theorem d_E_measure_9 : decode b_E_measure 9 = .ok (.aload_n 2, 1) := by decide +kernel
theorem d_E_measure_10 : decode b_E_measure 10 = .ok (.getfield 16, 3) := by decide +kernel
theorem d_E_measure_13 : decode b_E_measure 13 = .ok (.istore 4, 2) := by decide +kernel
theorem d_E_measure_15 : decode b_E_measure 15 = .ok (.iload 4, 2) := by decide +kernel
theorem d_E_measure_17 : decode b_E_measure 17 = .ok (.ifCond .lt 27, 3) := by decide +kernel
theorem d_E_measure_20 : decode b_E_measure 20 = .ok (.aload_n 0, 1) := by decide +kernel
theorem d_E_measure_21 : decode b_E_measure 21 = .ok (.getfield 11, 3) := by decide +kernel
theorem d_E_measure_24 : decode b_E_measure 24 = .ok (.iload_n 3, 1) := by decide +kernel
theorem d_E_measure_25 : decode b_E_measure 25 = .ok (.aaload, 1) := by decide +kernel
theorem d_E_measure_26 : decode b_E_measure 26 = .ok (.iload 4, 2) := by decide +kernel
theorem d_E_measure_28 : decode b_E_measure 28 = .ok (.aload_n 0, 1) := by decide +kernel
theorem d_E_measure_29 : decode b_E_measure 29 = .ok (.aload_n 1, 1) := by decide +kernel
theorem d_E_measure_30 : decode b_E_measure 30 = .ok (.iload_n 3, 1) := by decide +kernel
theorem d_E_measure_31 : decode b_E_measure 31 = .ok (.aload_n 2, 1) := by decide +kernel
theorem d_E_measure_32 : decode b_E_measure 32 = .ok (.iload 4, 2) := by decide +kernel
theorem d_E_measure_34 : decode b_E_measure 34 = .ok (.invokevirtual 22, 3) := by decide +kernel
theorem d_E_measure_37 : decode b_E_measure 37 = .ok (.iastore, 1) := by decide +kernel
theorem d_E_measure_38 : decode b_E_measure 38 = .ok (.iinc 4 (-1), 3) := by decide +kernel
theorem d_E_measure_41 : decode b_E_measure 41 = .ok (.goto (-26), 3) := by decide +kernel
theorem d_E_measure_44 : decode b_E_measure 44 = .ok (.iinc 3 (-1), 3) := by decide +kernel
theorem d_E_measure_47 : decode b_E_measure 47 = .ok (.goto (-42), 3) := by decide +kernel
theorem d_E_measure_50 : decode b_E_measure 50 = .ok (.aload_n 0, 1) := by decide +kernel
theorem d_E_measure_51 : decode b_E_measure 51 = .ok (.getfield 11, 3) := by decide +kernel
theorem d_E_measure_54 : decode b_E_measure 54 = .ok (.iconst 0, 1) := by decide +kernel
theorem d_E_measure_55 : decode b_E_measure 55 = .ok (.aaload, 1) := by decide +kernel
theorem d_E_measure_56 : decode b_E_measure 56 = .ok (.iconst 0, 1) := by decide +kernel
theorem d_E_measure_57 : decode b_E_measure 57 = .ok (.iaload, 1) := by decide +kernel
theorem d_E_measure_58 : decode b_E_measure 58 = .ok (.ireturn, 1) := by decide +kernel
theorem d_E_editAt_0 : decode b_E_editAt 0 = .ok (.aload_n 0, 1) := by decide +kernel
theorem d_E_editAt_1 : decode b_E_editAt 1 = .ok (.aload_n 1, 1) := by decide +kernel
theorem d_E_editAt_2 : decode b_E_editAt 2 = .ok (.aload_n 2, 1) := by decide +kernel
theorem d_E_editAt_3 : decode b_E_editAt 3 = .ok (.invokevirtual 26, 3) := by decide +kernel
theorem d_E_editAt_6 : decode b_E_editAt 6 = .ok (.pop, 1) := by decide +kernel
theorem d_E_editAt_7 : decode b_E_editAt 7 = .ok (.iconst 0, 1) := by decide +kernel
theorem d_E_editAt_8 : decode b_E_editAt 8 = .ok (.istore 4, 2) := by decide +kernel
theorem d_E_editAt_10 : decode b_E_editAt 10 = .ok (.iconst 0, 1) := by decide +kernel
theorem d_E_editAt_11 : decode b_E_editAt 11 = .ok (.istore 5, 2) := by decide +kernel
theorem d_E_editAt_13 : decode b_E_editAt 13 = .ok (.iconst 0, 1) := by decide +kernel
theorem d_E_editAt_14 : decode b_E_editAt 14 = .ok (.istore 6, 2) := by decide +kernel
theorem d_E_editAt_16 : decode b_E_editAt 16 = .ok (.iload 6, 2) := by decide +kernel
theorem d_E_editAt_18 : decode b_E_editAt 18 = .ok (.bipush 18, 2) := by decide +kernel
theorem d_E_editAt_20 : decode b_E_editAt 20 = .ok (.if_icmp .ge 84, 3) := by decide +kernel
theorem d_E_editAt_23 : decode b_E_editAt 23 = .ok (.iload 4, 2) := by decide +kernel
theorem d_E_editAt_25 : decode b_E_editAt 25 = .ok (.aload_n 1, 1) := by decide +kernel
theorem d_E_editAt_26 : decode b_E_editAt 26 = .ok (.getfield 16, 3) := by decide +kernel
theorem d_E_editAt_29 : decode b_E_editAt 29 = .ok (.if_icmp .ne 14, 3) := by decide +kernel
theorem d_E_editAt_32 : decode b_E_editAt 32 = .ok (.iload 5, 2) := by decide +kernel
theorem d_E_editAt_34 : decode b_E_editAt 34 = .ok (.aload_n 2, 1) := by decide +kernel
theorem d_E_editAt_35 : decode b_E_editAt 35 = .ok (.getfield 16, 3) := by decide +kernel
theorem d_E_editAt_38 : decode b_E_editAt 38 = .ok (.if_icmp .ne 5, 3) := by decide +kernel
theorem d_E_editAt_41 : decode b_E_editAt 41 = .ok (.iconst (-1), 1) := by decide +kernel
theorem d_E_editAt_42 : decode b_E_editAt 42 = .ok (.ireturn, 1) := by decide +kernel
theorem d_E_editAt_43 : decode b_E_editAt 43 = .ok (.aload_n 0, 1) := by decide +kernel
theorem d_E_editAt_44 : decode b_E_editAt 44 = .ok (.aload_n 1, 1) := by decide +kernel
theorem d_E_editAt_45 : decode b_E_editAt 45 = .ok (.iload 4, 2) := by decide +kernel
theorem d_E_editAt_47 : decode b_E_editAt 47 = .ok (.aload_n 2, 1) := by decide +kernel
theorem d_E_editAt_48 : decode b_E_editAt 48 = .ok (.iload 5, 2) := by decide +kernel
theorem d_E_editAt_50 : decode b_E_editAt 50 = .ok (.invokevirtual 30, 3) := by decide +kernel
theorem d_E_editAt_53 : decode b_E_editAt 53 = .ok (.istore 7, 2) := by decide +kernel
theorem d_E_editAt_55 : decode b_E_editAt 55 = .ok (.iload 6, 2) := by decide +kernel
theorem d_E_editAt_57 : decode b_E_editAt 57 = .ok (.iload_n 3, 1) := by decide +kernel
theorem d_E_editAt_58 : decode b_E_editAt 58 = .ok (.if_icmp .ne 6, 3) := by decide +kernel
theorem d_E_editAt_61 : decode b_E_editAt 61 = .ok (.iload 7, 2) := by decide +kernel
theorem d_E_editAt_63 : decode b_E_editAt 63 = .ok (.ireturn, 1) := by decide +kernel
theorem d_E_editAt_64 : decode b_E_editAt 64 = .ok (.iload 7, 2) := by decide +kernel
theorem d_E_editAt_66 : decode b_E_editAt 66 = .ok (.iconst 3, 1) := by decide +kernel
theorem d_E_editAt_67 : decode b_E_editAt 67 = .ok (.if_icmp .ne 8, 3) := by decide +kernel
theorem d_E_editAt_70 : decode b_E_editAt 70 = .ok (.iload 4, 2) := by decide +kernel
theorem d_E_editAt_72 : decode b_E_editAt 72 = .ok (.goto 7, 3) := by decide +kernel
theorem d_E_editAt_75 : decode b_E_editAt 75 = .ok (.iload 4, 2) := by decide +kernel
theorem d_E_editAt_77 : decode b_E_editAt 77 = .ok (.iconst 1, 1) := by decide +kernel
theorem d_E_editAt_78 : decode b_E_editAt 78 = .ok (.iadd, 1) := by decide +kernel
theorem d_E_editAt_79 : decode b_E_editAt 79 = .ok (.istore 4, 2) := by decide +kernel
theorem d_E_editAt_81 : decode b_E_editAt 81 = .ok (.iload 7, 2) := by decide +kernel
theorem d_E_editAt_83 : decode b_E_editAt 83 = .ok (.iconst 2, 1) := by decide +kernel
theorem d_E_editAt_84 : decode b_E_editAt 84 = .ok (.if_icmp .ne 8, 3) := by decide +kernel
theorem d_E_editAt_87 : decode b_E_editAt 87 = .ok (.iload 5, 2) := by decide +kernel
theorem d_E_editAt_89 : decode b_E_editAt 89 = .ok (.goto 7, 3) := by decide +kernel
theorem d_E_editAt_92 : decode b_E_editAt 92 = .ok (.iload 5, 2) := by decide +kernel
theorem d_E_editAt_94 : decode b_E_editAt 94 = .ok (.iconst 1, 1) := by decide +kernel
theorem d_E_editAt_95 : decode b_E_editAt 95 = .ok (.iadd, 1) := by decide +kernel
theorem d_E_editAt_96 : decode b_E_editAt 96 = .ok (.istore 5, 2) := by decide +kernel
theorem d_E_editAt_98 : decode b_E_editAt 98 = .ok (.iinc 6 1, 3) := by decide +kernel
theorem d_E_editAt_101 : decode b_E_editAt 101 = .ok (.goto (-85), 3) := by decide +kernel
theorem d_E_editAt_104 : decode b_E_editAt 104 = .ok (.iconst (-1), 1) := by decide +kernel
theorem d_E_editAt_105 : decode b_E_editAt 105 = .ok (.ireturn, 1) := by decide +kernel
theorem d_E_leastCost_0 : decode b_E_leastCost 0 = .ok (.iload_n 2, 1) := by decide +kernel
theorem d_E_leastCost_1 : decode b_E_leastCost 1 = .ok (.aload_n 1, 1) := by decide +kernel
theorem d_E_leastCost_2 : decode b_E_leastCost 2 = .ok (.getfield 16, 3) := by decide +kernel
theorem d_E_leastCost_5 : decode b_E_leastCost 5 = .ok (.if_icmp .ne 11, 3) := by decide +kernel
theorem d_E_leastCost_8 : decode b_E_leastCost 8 = .ok (.aload_n 3, 1) := by decide +kernel
theorem d_E_leastCost_9 : decode b_E_leastCost 9 = .ok (.getfield 16, 3) := by decide +kernel
theorem d_E_leastCost_12 : decode b_E_leastCost 12 = .ok (.iload 4, 2) := by decide +kernel
theorem d_E_leastCost_14 : decode b_E_leastCost 14 = .ok (.isub, 1) := by decide +kernel
theorem d_E_leastCost_15 : decode b_E_leastCost 15 = .ok (.ireturn, 1) := by decide +kernel
theorem d_E_leastCost_16 : decode b_E_leastCost 16 = .ok (.iload 4, 2) := by decide +kernel
theorem d_E_leastCost_18 : decode b_E_leastCost 18 = .ok (.aload_n 3, 1) := by decide +kernel
theorem d_E_leastCost_19 : decode b_E_leastCost 19 = .ok (.getfield 16, 3) := by decide +kernel
theorem d_E_leastCost_22 : decode b_E_leastCost 22 = .ok (.if_icmp .ne 10, 3) := by decide +kernel
theorem d_E_leastCost_25 : decode b_E_leastCost 25 = .ok (.aload_n 1, 1) := by decide +kernel
theorem d_E_leastCost_26 : decode b_E_leastCost 26 = .ok (.getfield 16, 3) := by decide +kernel
theorem d_E_leastCost_29 : decode b_E_leastCost 29 = .ok (.iload_n 2, 1) := by decide +kernel
theorem d_E_leastCost_30 : decode b_E_leastCost 30 = .ok (.isub, 1) := by decide +kernel
theorem d_E_leastCost_31 : decode b_E_leastCost 31 = .ok (.ireturn, 1) := by decide +kernel
theorem d_E_leastCost_32 : decode b_E_leastCost 32 = .ok (.aload_n 0, 1) := by decide +kernel
theorem d_E_leastCost_33 : decode b_E_leastCost 33 = .ok (.getfield 11, 3) := by decide +kernel
theorem d_E_leastCost_36 : decode b_E_leastCost 36 = .ok (.iload_n 2, 1) := by decide +kernel
theorem d_E_leastCost_37 : decode b_E_leastCost 37 = .ok (.iconst 1, 1) := by decide +kernel
theorem d_E_leastCost_38 : decode b_E_leastCost 38 = .ok (.iadd, 1) := by decide +kernel
theorem d_E_leastCost_39 : decode b_E_leastCost 39 = .ok (.aaload, 1) := by decide +kernel
theorem d_E_leastCost_40 : decode b_E_leastCost 40 = .ok (.iload 4, 2) := by decide +kernel
theorem d_E_leastCost_42 : decode b_E_leastCost 42 = .ok (.iconst 1, 1) := by decide +kernel
theorem d_E_leastCost_43 : decode b_E_leastCost 43 = .ok (.iadd, 1) := by decide +kernel
theorem d_E_leastCost_44 : decode b_E_leastCost 44 = .ok (.iaload, 1) := by decide +kernel
theorem d_E_leastCost_45 : decode b_E_leastCost 45 = .ok (.aload_n 1, 1) := by decide +kernel
theorem d_E_leastCost_46 : decode b_E_leastCost 46 = .ok (.iload_n 2, 1) := by decide +kernel
theorem d_E_leastCost_47 : decode b_E_leastCost 47 = .ok (.invokevirtual 33, 3) := by decide +kernel
theorem d_E_leastCost_50 : decode b_E_leastCost 50 = .ok (.aload_n 3, 1) := by decide +kernel
theorem d_E_leastCost_51 : decode b_E_leastCost 51 = .ok (.iload 4, 2) := by decide +kernel
theorem d_E_leastCost_53 : decode b_E_leastCost 53 = .ok (.invokevirtual 33, 3) := by decide +kernel
theorem d_E_leastCost_56 : decode b_E_leastCost 56 = .ok (.if_icmp .ne 7, 3) := by decide +kernel
theorem d_E_leastCost_59 : decode b_E_leastCost 59 = .ok (.iconst 0, 1) := by decide +kernel
theorem d_E_leastCost_60 : decode b_E_leastCost 60 = .ok (.goto 4, 3) := by decide +kernel
theorem d_E_leastCost_63 : decode b_E_leastCost 63 = .ok (.iconst 1, 1) := by decide +kernel
theorem d_E_leastCost_64 : decode b_E_leastCost 64 = .ok (.iadd, 1) := by decide +kernel
theorem d_E_leastCost_65 : decode b_E_leastCost 65 = .ok (.istore 5, 2) := by decide +kernel
theorem d_E_leastCost_67 : decode b_E_leastCost 67 = .ok (.iconst 1, 1) := by decide +kernel
theorem d_E_leastCost_68 : decode b_E_leastCost 68 = .ok (.aload_n 0, 1) := by decide +kernel
theorem d_E_leastCost_69 : decode b_E_leastCost 69 = .ok (.getfield 11, 3) := by decide +kernel
theorem d_E_leastCost_72 : decode b_E_leastCost 72 = .ok (.iload_n 2, 1) := by decide +kernel
theorem d_E_leastCost_73 : decode b_E_leastCost 73 = .ok (.iconst 1, 1) := by decide +kernel
theorem d_E_leastCost_74 : decode b_E_leastCost 74 = .ok (.iadd, 1) := by decide +kernel
theorem d_E_leastCost_75 : decode b_E_leastCost 75 = .ok (.aaload, 1) := by decide +kernel
theorem d_E_leastCost_76 : decode b_E_leastCost 76 = .ok (.iload 4, 2) := by decide +kernel
theorem d_E_leastCost_78 : decode b_E_leastCost 78 = .ok (.iaload, 1) := by decide +kernel
theorem d_E_leastCost_79 : decode b_E_leastCost 79 = .ok (.aload_n 0, 1) := by decide +kernel
theorem d_E_leastCost_80 : decode b_E_leastCost 80 = .ok (.getfield 11, 3) := by decide +kernel
theorem d_E_leastCost_83 : decode b_E_leastCost 83 = .ok (.iload_n 2, 1) := by decide +kernel
theorem d_E_leastCost_84 : decode b_E_leastCost 84 = .ok (.aaload, 1) := by decide +kernel
theorem d_E_leastCost_85 : decode b_E_leastCost 85 = .ok (.iload 4, 2) := by decide +kernel
theorem d_E_leastCost_87 : decode b_E_leastCost 87 = .ok (.iconst 1, 1) := by decide +kernel
theorem d_E_leastCost_88 : decode b_E_leastCost 88 = .ok (.iadd, 1) := by decide +kernel
theorem d_E_leastCost_89 : decode b_E_leastCost 89 = .ok (.iaload, 1) := by decide +kernel
theorem d_E_leastCost_90 : decode b_E_leastCost 90 = .ok (.invokestatic 37, 3) := by decide +kernel
theorem d_E_leastCost_93 : decode b_E_leastCost 93 = .ok (.iadd, 1) := by decide +kernel
theorem d_E_leastCost_94 : decode b_E_leastCost 94 = .ok (.istore 6, 2) := by decide +kernel
theorem d_E_leastCost_96 : decode b_E_leastCost 96 = .ok (.iload 5, 2) := by decide +kernel
theorem d_E_leastCost_98 : decode b_E_leastCost 98 = .ok (.iload 6, 2) := by decide +kernel
theorem d_E_leastCost_100 : decode b_E_leastCost 100 = .ok (.invokestatic 37, 3) := by decide +kernel
theorem d_E_leastCost_103 : decode b_E_leastCost 103 = .ok (.ireturn, 1) := by decide +kernel
theorem d_E_firstEdit_0 : decode b_E_firstEdit 0 = .ok (.iload_n 2, 1) := by decide +kernel
theorem d_E_firstEdit_1 : decode b_E_firstEdit 1 = .ok (.aload_n 1, 1) := by decide +kernel
theorem d_E_firstEdit_2 : decode b_E_firstEdit 2 = .ok (.getfield 16, 3) := by decide +kernel
theorem d_E_firstEdit_5 : decode b_E_firstEdit 5 = .ok (.if_icmp .ne 5, 3) := by decide +kernel
theorem d_E_firstEdit_8 : decode b_E_firstEdit 8 = .ok (.iconst 3, 1) := by decide +kernel
theorem d_E_firstEdit_9 : decode b_E_firstEdit 9 = .ok (.ireturn, 1) := by decide +kernel
theorem d_E_firstEdit_10 : decode b_E_firstEdit 10 = .ok (.iload 4, 2) := by decide +kernel
theorem d_E_firstEdit_12 : decode b_E_firstEdit 12 = .ok (.aload_n 3, 1) := by decide +kernel
theorem d_E_firstEdit_13 : decode b_E_firstEdit 13 = .ok (.getfield 16, 3) := by decide +kernel
theorem d_E_firstEdit_16 : decode b_E_firstEdit 16 = .ok (.if_icmp .ne 5, 3) := by decide +kernel
theorem d_E_firstEdit_19 : decode b_E_firstEdit 19 = .ok (.iconst 2, 1) := by decide +kernel
theorem d_E_firstEdit_20 : decode b_E_firstEdit 20 = .ok (.ireturn, 1) := by decide +kernel
theorem d_E_firstEdit_21 : decode b_E_firstEdit 21 = .ok (.aload_n 1, 1) := by decide +kernel
theorem d_E_firstEdit_22 : decode b_E_firstEdit 22 = .ok (.iload_n 2, 1) := by decide +kernel
theorem d_E_firstEdit_23 : decode b_E_firstEdit 23 = .ok (.invokevirtual 33, 3) := by decide +kernel
theorem d_E_firstEdit_26 : decode b_E_firstEdit 26 = .ok (.aload_n 3, 1) := by decide +kernel
theorem d_E_firstEdit_27 : decode b_E_firstEdit 27 = .ok (.iload 4, 2) := by decide +kernel
theorem d_E_firstEdit_29 : decode b_E_firstEdit 29 = .ok (.invokevirtual 33, 3) := by decide +kernel
theorem d_E_firstEdit_32 : decode b_E_firstEdit 32 = .ok (.if_icmp .ne 7, 3) := by decide +kernel
theorem d_E_firstEdit_35 : decode b_E_firstEdit 35 = .ok (.iconst 1, 1) := by decide +kernel
theorem d_E_firstEdit_36 : decode b_E_firstEdit 36 = .ok (.goto 4, 3) := by decide +kernel
theorem d_E_firstEdit_39 : decode b_E_firstEdit 39 = .ok (.iconst 0, 1) := by decide +kernel
theorem d_E_firstEdit_40 : decode b_E_firstEdit 40 = .ok (.istore 5, 2) := by decide +kernel
theorem d_E_firstEdit_42 : decode b_E_firstEdit 42 = .ok (.iload 5, 2) := by decide +kernel
theorem d_E_firstEdit_44 : decode b_E_firstEdit 44 = .ok (.ifCond .eq 30, 3) := by decide +kernel
theorem d_E_firstEdit_47 : decode b_E_firstEdit 47 = .ok (.aload_n 0, 1) := by decide +kernel
theorem d_E_firstEdit_48 : decode b_E_firstEdit 48 = .ok (.getfield 11, 3) := by decide +kernel
theorem d_E_firstEdit_51 : decode b_E_firstEdit 51 = .ok (.iload_n 2, 1) := by decide +kernel
theorem d_E_firstEdit_52 : decode b_E_firstEdit 52 = .ok (.aaload, 1) := by decide +kernel
theorem d_E_firstEdit_53 : decode b_E_firstEdit 53 = .ok (.iload 4, 2) := by decide +kernel
theorem d_E_firstEdit_55 : decode b_E_firstEdit 55 = .ok (.iaload, 1) := by decide +kernel
theorem d_E_firstEdit_56 : decode b_E_firstEdit 56 = .ok (.aload_n 0, 1) := by decide +kernel
theorem d_E_firstEdit_57 : decode b_E_firstEdit 57 = .ok (.getfield 11, 3) := by decide +kernel
theorem d_E_firstEdit_60 : decode b_E_firstEdit 60 = .ok (.iload_n 2, 1) := by decide +kernel
theorem d_E_firstEdit_61 : decode b_E_firstEdit 61 = .ok (.iconst 1, 1) := by decide +kernel
theorem d_E_firstEdit_62 : decode b_E_firstEdit 62 = .ok (.iadd, 1) := by decide +kernel
theorem d_E_firstEdit_63 : decode b_E_firstEdit 63 = .ok (.aaload, 1) := by decide +kernel
theorem d_E_firstEdit_64 : decode b_E_firstEdit 64 = .ok (.iload 4, 2) := by decide +kernel
theorem d_E_firstEdit_66 : decode b_E_firstEdit 66 = .ok (.iconst 1, 1) := by decide +kernel
theorem d_E_firstEdit_67 : decode b_E_firstEdit 67 = .ok (.iadd, 1) := by decide +kernel
theorem d_E_firstEdit_68 : decode b_E_firstEdit 68 = .ok (.iaload, 1) := by decide +kernel
theorem d_E_firstEdit_69 : decode b_E_firstEdit 69 = .ok (.if_icmp .ne 5, 3) := by decide +kernel
theorem d_E_firstEdit_72 : decode b_E_firstEdit 72 = .ok (.iconst 0, 1) := by decide +kernel
theorem d_E_firstEdit_73 : decode b_E_firstEdit 73 = .ok (.ireturn, 1) := by decide +kernel
theorem d_E_firstEdit_74 : decode b_E_firstEdit 74 = .ok (.iload 5, 2) := by decide +kernel
theorem d_E_firstEdit_76 : decode b_E_firstEdit 76 = .ok (.ifCond .ne 32, 3) := by decide +kernel
theorem d_E_firstEdit_79 : decode b_E_firstEdit 79 = .ok (.aload_n 0, 1) := by decide +kernel
theorem d_E_firstEdit_80 : decode b_E_firstEdit 80 = .ok (.getfield 11, 3) := by decide +kernel
theorem d_E_firstEdit_83 : decode b_E_firstEdit 83 = .ok (.iload_n 2, 1) := by decide +kernel
theorem d_E_firstEdit_84 : decode b_E_firstEdit 84 = .ok (.aaload, 1) := by decide +kernel
theorem d_E_firstEdit_85 : decode b_E_firstEdit 85 = .ok (.iload 4, 2) := by decide +kernel
theorem d_E_firstEdit_87 : decode b_E_firstEdit 87 = .ok (.iaload, 1) := by decide +kernel
theorem d_E_firstEdit_88 : decode b_E_firstEdit 88 = .ok (.iconst 1, 1) := by decide +kernel
theorem d_E_firstEdit_89 : decode b_E_firstEdit 89 = .ok (.aload_n 0, 1) := by decide +kernel
theorem d_E_firstEdit_90 : decode b_E_firstEdit 90 = .ok (.getfield 11, 3) := by decide +kernel
theorem d_E_firstEdit_93 : decode b_E_firstEdit 93 = .ok (.iload_n 2, 1) := by decide +kernel
theorem d_E_firstEdit_94 : decode b_E_firstEdit 94 = .ok (.iconst 1, 1) := by decide +kernel
theorem d_E_firstEdit_95 : decode b_E_firstEdit 95 = .ok (.iadd, 1) := by decide +kernel
theorem d_E_firstEdit_96 : decode b_E_firstEdit 96 = .ok (.aaload, 1) := by decide +kernel
theorem d_E_firstEdit_97 : decode b_E_firstEdit 97 = .ok (.iload 4, 2) := by decide +kernel
theorem d_E_firstEdit_99 : decode b_E_firstEdit 99 = .ok (.iconst 1, 1) := by decide +kernel
theorem d_E_firstEdit_100 : decode b_E_firstEdit 100 = .ok (.iadd, 1) := by decide +kernel
theorem d_E_firstEdit_101 : decode b_E_firstEdit 101 = .ok (.iaload, 1) := by decide +kernel
theorem d_E_firstEdit_102 : decode b_E_firstEdit 102 = .ok (.iadd, 1) := by decide +kernel
theorem d_E_firstEdit_103 : decode b_E_firstEdit 103 = .ok (.if_icmp .ne 5, 3) := by decide +kernel
theorem d_E_firstEdit_106 : decode b_E_firstEdit 106 = .ok (.iconst 1, 1) := by decide +kernel
theorem d_E_firstEdit_107 : decode b_E_firstEdit 107 = .ok (.ireturn, 1) := by decide +kernel
theorem d_E_firstEdit_108 : decode b_E_firstEdit 108 = .ok (.aload_n 0, 1) := by decide +kernel
theorem d_E_firstEdit_109 : decode b_E_firstEdit 109 = .ok (.getfield 11, 3) := by decide +kernel
theorem d_E_firstEdit_112 : decode b_E_firstEdit 112 = .ok (.iload_n 2, 1) := by decide +kernel
theorem d_E_firstEdit_113 : decode b_E_firstEdit 113 = .ok (.aaload, 1) := by decide +kernel
theorem d_E_firstEdit_114 : decode b_E_firstEdit 114 = .ok (.iload 4, 2) := by decide +kernel
theorem d_E_firstEdit_116 : decode b_E_firstEdit 116 = .ok (.iaload, 1) := by decide +kernel
theorem d_E_firstEdit_117 : decode b_E_firstEdit 117 = .ok (.iconst 1, 1) := by decide +kernel
theorem d_E_firstEdit_118 : decode b_E_firstEdit 118 = .ok (.aload_n 0, 1) := by decide +kernel
theorem d_E_firstEdit_119 : decode b_E_firstEdit 119 = .ok (.getfield 11, 3) := by decide +kernel
theorem d_E_firstEdit_122 : decode b_E_firstEdit 122 = .ok (.iload_n 2, 1) := by decide +kernel
theorem d_E_firstEdit_123 : decode b_E_firstEdit 123 = .ok (.iconst 1, 1) := by decide +kernel
theorem d_E_firstEdit_124 : decode b_E_firstEdit 124 = .ok (.iadd, 1) := by decide +kernel
theorem d_E_firstEdit_125 : decode b_E_firstEdit 125 = .ok (.aaload, 1) := by decide +kernel
theorem d_E_firstEdit_126 : decode b_E_firstEdit 126 = .ok (.iload 4, 2) := by decide +kernel
theorem d_E_firstEdit_128 : decode b_E_firstEdit 128 = .ok (.iaload, 1) := by decide +kernel
theorem d_E_firstEdit_129 : decode b_E_firstEdit 129 = .ok (.iadd, 1) := by decide +kernel
theorem d_E_firstEdit_130 : decode b_E_firstEdit 130 = .ok (.if_icmp .ne 7, 3) := by decide +kernel
theorem d_E_firstEdit_133 : decode b_E_firstEdit 133 = .ok (.iconst 2, 1) := by decide +kernel
theorem d_E_firstEdit_134 : decode b_E_firstEdit 134 = .ok (.goto 4, 3) := by decide +kernel
theorem d_E_firstEdit_137 : decode b_E_firstEdit 137 = .ok (.iconst 3, 1) := by decide +kernel
theorem d_E_firstEdit_138 : decode b_E_firstEdit 138 = .ok (.ireturn, 1) := by decide +kernel
theorem d_L_init_0 : decode b_L_init 0 = .ok (.aload_n 0, 1) := by decide +kernel
theorem d_L_init_1 : decode b_L_init 1 = .ok (.invokespecial 3, 3) := by decide +kernel
theorem d_L_init_4 : decode b_L_init 4 = .ok (.aload_n 0, 1) := by decide +kernel
theorem d_L_init_5 : decode b_L_init 5 = .ok (.iload_n 1, 1) := by decide +kernel
theorem d_L_init_6 : decode b_L_init 6 = .ok (.newarray .int, 2) := by decide +kernel
theorem d_L_init_8 : decode b_L_init 8 = .ok (.putfield 9, 3) := by decide +kernel
theorem d_L_init_11 : decode b_L_init 11 = .ok (.aload_n 0, 1) := by decide +kernel
theorem d_L_init_12 : decode b_L_init 12 = .ok (.iconst 0, 1) := by decide +kernel
theorem d_L_init_13 : decode b_L_init 13 = .ok (.putfield 15, 3) := by decide +kernel
theorem d_L_init_16 : decode b_L_init 16 = .ok (.return_, 1) := by decide +kernel
theorem d_L_at_0 : decode b_L_at 0 = .ok (.iload_n 1, 1) := by decide +kernel
theorem d_L_at_1 : decode b_L_at 1 = .ok (.ifCond .lt 20, 3) := by decide +kernel
theorem d_L_at_4 : decode b_L_at 4 = .ok (.iload_n 1, 1) := by decide +kernel
theorem d_L_at_5 : decode b_L_at 5 = .ok (.aload_n 0, 1) := by decide +kernel
theorem d_L_at_6 : decode b_L_at 6 = .ok (.getfield 15, 3) := by decide +kernel
theorem d_L_at_9 : decode b_L_at 9 = .ok (.if_icmp .ge 12, 3) := by decide +kernel
theorem d_L_at_12 : decode b_L_at 12 = .ok (.aload_n 0, 1) := by decide +kernel
theorem d_L_at_13 : decode b_L_at 13 = .ok (.getfield 9, 3) := by decide +kernel
theorem d_L_at_16 : decode b_L_at 16 = .ok (.iload_n 1, 1) := by decide +kernel
theorem d_L_at_17 : decode b_L_at 17 = .ok (.iaload, 1) := by decide +kernel
theorem d_L_at_18 : decode b_L_at 18 = .ok (.goto 4, 3) := by decide +kernel
theorem d_L_at_21 : decode b_L_at 21 = .ok (.iconst (-1), 1) := by decide +kernel
theorem d_L_at_22 : decode b_L_at 22 = .ok (.ireturn, 1) := by decide +kernel
theorem d_L_append_0 : decode b_L_append 0 = .ok (.iload_n 1, 1) := by decide +kernel
theorem d_L_append_1 : decode b_L_append 1 = .ok (.ifCond .lt 21, 3) := by decide +kernel
theorem d_L_append_4 : decode b_L_append 4 = .ok (.iload_n 1, 1) := by decide +kernel
theorem d_L_append_5 : decode b_L_append 5 = .ok (.bipush 26, 2) := by decide +kernel
theorem d_L_append_7 : decode b_L_append 7 = .ok (.if_icmp .ge 15, 3) := by decide +kernel
theorem d_L_append_10 : decode b_L_append 10 = .ok (.aload_n 0, 1) := by decide +kernel
theorem d_L_append_11 : decode b_L_append 11 = .ok (.getfield 15, 3) := by decide +kernel
theorem d_L_append_14 : decode b_L_append 14 = .ok (.aload_n 0, 1) := by decide +kernel
theorem d_L_append_15 : decode b_L_append 15 = .ok (.getfield 9, 3) := by decide +kernel
theorem d_L_append_18 : decode b_L_append 18 = .ok (.arraylength, 1) := by decide +kernel
theorem d_L_append_19 : decode b_L_append 19 = .ok (.if_icmp .lt 5, 3) := by decide +kernel
theorem d_L_append_22 : decode b_L_append 22 = .ok (.iconst 0, 1) := by decide +kernel
theorem d_L_append_23 : decode b_L_append 23 = .ok (.ireturn, 1) := by decide +kernel
theorem d_L_append_24 : decode b_L_append 24 = .ok (.aload_n 0, 1) := by decide +kernel
theorem d_L_append_25 : decode b_L_append 25 = .ok (.getfield 9, 3) := by decide +kernel
theorem d_L_append_28 : decode b_L_append 28 = .ok (.aload_n 0, 1) := by decide +kernel
theorem d_L_append_29 : decode b_L_append 29 = .ok (.getfield 15, 3) := by decide +kernel
theorem d_L_append_32 : decode b_L_append 32 = .ok (.iload_n 1, 1) := by decide +kernel
theorem d_L_append_33 : decode b_L_append 33 = .ok (.iastore, 1) := by decide +kernel
theorem d_L_append_34 : decode b_L_append 34 = .ok (.aload_n 0, 1) := by decide +kernel
theorem d_L_append_35 : decode b_L_append 35 = .ok (.dup, 1) := by decide +kernel
theorem d_L_append_36 : decode b_L_append 36 = .ok (.getfield 15, 3) := by decide +kernel
theorem d_L_append_39 : decode b_L_append 39 = .ok (.iconst 1, 1) := by decide +kernel
theorem d_L_append_40 : decode b_L_append 40 = .ok (.iadd, 1) := by decide +kernel
theorem d_L_append_41 : decode b_L_append 41 = .ok (.putfield 15, 3) := by decide +kernel
theorem d_L_append_44 : decode b_L_append 44 = .ok (.iconst 1, 1) := by decide +kernel
theorem d_L_append_45 : decode b_L_append 45 = .ok (.ireturn, 1) := by decide +kernel
theorem d_L_removeLast_0 : decode b_L_removeLast 0 = .ok (.aload_n 0, 1) := by decide +kernel
theorem d_L_removeLast_1 : decode b_L_removeLast 1 = .ok (.getfield 15, 3) := by decide +kernel
theorem d_L_removeLast_4 : decode b_L_removeLast 4 = .ok (.ifCond .ne 5, 3) := by decide +kernel
theorem d_L_removeLast_7 : decode b_L_removeLast 7 = .ok (.iconst 0, 1) := by decide +kernel
theorem d_L_removeLast_8 : decode b_L_removeLast 8 = .ok (.ireturn, 1) := by decide +kernel
theorem d_L_removeLast_9 : decode b_L_removeLast 9 = .ok (.aload_n 0, 1) := by decide +kernel
theorem d_L_removeLast_10 : decode b_L_removeLast 10 = .ok (.dup, 1) := by decide +kernel
theorem d_L_removeLast_11 : decode b_L_removeLast 11 = .ok (.getfield 15, 3) := by decide +kernel
theorem d_L_removeLast_14 : decode b_L_removeLast 14 = .ok (.iconst 1, 1) := by decide +kernel
theorem d_L_removeLast_15 : decode b_L_removeLast 15 = .ok (.isub, 1) := by decide +kernel
theorem d_L_removeLast_16 : decode b_L_removeLast 16 = .ok (.putfield 15, 3) := by decide +kernel
theorem d_L_removeLast_19 : decode b_L_removeLast 19 = .ok (.iconst 1, 1) := by decide +kernel
theorem d_L_removeLast_20 : decode b_L_removeLast 20 = .ok (.ireturn, 1) := by decide +kernel
theorem d_L_clear_0 : decode b_L_clear 0 = .ok (.aload_n 0, 1) := by decide +kernel
theorem d_L_clear_1 : decode b_L_clear 1 = .ok (.iconst 0, 1) := by decide +kernel
theorem d_L_clear_2 : decode b_L_clear 2 = .ok (.putfield 15, 3) := by decide +kernel
theorem d_L_clear_5 : decode b_L_clear 5 = .ok (.return_, 1) := by decide +kernel
theorem d_L_copyFrom_0 : decode b_L_copyFrom 0 = .ok (.aload_n 0, 1) := by decide +kernel
theorem d_L_copyFrom_1 : decode b_L_copyFrom 1 = .ok (.invokevirtual 19, 3) := by decide +kernel
theorem d_L_copyFrom_4 : decode b_L_copyFrom 4 = .ok (.iconst 0, 1) := by decide +kernel
theorem d_L_copyFrom_5 : decode b_L_copyFrom 5 = .ok (.istore_n 2, 1) := by decide +kernel
theorem d_L_copyFrom_6 : decode b_L_copyFrom 6 = .ok (.iload_n 2, 1) := by decide +kernel
theorem d_L_copyFrom_7 : decode b_L_copyFrom 7 = .ok (.aload_n 1, 1) := by decide +kernel
theorem d_L_copyFrom_8 : decode b_L_copyFrom 8 = .ok (.getfield 15, 3) := by decide +kernel
theorem d_L_copyFrom_11 : decode b_L_copyFrom 11 = .ok (.if_icmp .ge 19, 3) := by decide +kernel
theorem d_L_copyFrom_14 : decode b_L_copyFrom 14 = .ok (.aload_n 0, 1) := by decide +kernel
theorem d_L_copyFrom_15 : decode b_L_copyFrom 15 = .ok (.aload_n 1, 1) := by decide +kernel
theorem d_L_copyFrom_16 : decode b_L_copyFrom 16 = .ok (.iload_n 2, 1) := by decide +kernel
theorem d_L_copyFrom_17 : decode b_L_copyFrom 17 = .ok (.invokevirtual 22, 3) := by decide +kernel
theorem d_L_copyFrom_20 : decode b_L_copyFrom 20 = .ok (.invokevirtual 26, 3) := by decide +kernel
theorem d_L_copyFrom_23 : decode b_L_copyFrom 23 = .ok (.pop, 1) := by decide +kernel
theorem d_L_copyFrom_24 : decode b_L_copyFrom 24 = .ok (.iinc 2 1, 3) := by decide +kernel
theorem d_L_copyFrom_27 : decode b_L_copyFrom 27 = .ok (.goto (-21), 3) := by decide +kernel
theorem d_L_copyFrom_30 : decode b_L_copyFrom 30 = .ok (.return_, 1) := by decide +kernel
theorem d_L_beginsWith_0 : decode b_L_beginsWith 0 = .ok (.iconst 0, 1) := by decide +kernel
theorem d_L_beginsWith_1 : decode b_L_beginsWith 1 = .ok (.istore_n 2, 1) := by decide +kernel
theorem d_L_beginsWith_2 : decode b_L_beginsWith 2 = .ok (.iload_n 2, 1) := by decide +kernel
theorem d_L_beginsWith_3 : decode b_L_beginsWith 3 = .ok (.aload_n 1, 1) := by decide +kernel
theorem d_L_beginsWith_4 : decode b_L_beginsWith 4 = .ok (.getfield 15, 3) := by decide +kernel
theorem d_L_beginsWith_7 : decode b_L_beginsWith 7 = .ok (.if_icmp .ge 24, 3) := by decide +kernel
theorem d_L_beginsWith_10 : decode b_L_beginsWith 10 = .ok (.aload_n 0, 1) := by decide +kernel
theorem d_L_beginsWith_11 : decode b_L_beginsWith 11 = .ok (.iload_n 2, 1) := by decide +kernel
theorem d_L_beginsWith_12 : decode b_L_beginsWith 12 = .ok (.invokevirtual 22, 3) := by decide +kernel
theorem d_L_beginsWith_15 : decode b_L_beginsWith 15 = .ok (.aload_n 1, 1) := by decide +kernel
theorem d_L_beginsWith_16 : decode b_L_beginsWith 16 = .ok (.iload_n 2, 1) := by decide +kernel
theorem d_L_beginsWith_17 : decode b_L_beginsWith 17 = .ok (.invokevirtual 22, 3) := by decide +kernel
theorem d_L_beginsWith_20 : decode b_L_beginsWith 20 = .ok (.if_icmp .eq 5, 3) := by decide +kernel
theorem d_L_beginsWith_23 : decode b_L_beginsWith 23 = .ok (.iconst 0, 1) := by decide +kernel
theorem d_L_beginsWith_24 : decode b_L_beginsWith 24 = .ok (.ireturn, 1) := by decide +kernel
theorem d_L_beginsWith_25 : decode b_L_beginsWith 25 = .ok (.iinc 2 1, 3) := by decide +kernel
theorem d_L_beginsWith_28 : decode b_L_beginsWith 28 = .ok (.goto (-26), 3) := by decide +kernel
theorem d_L_beginsWith_31 : decode b_L_beginsWith 31 = .ok (.iconst 1, 1) := by decide +kernel
theorem d_L_beginsWith_32 : decode b_L_beginsWith 32 = .ok (.ireturn, 1) := by decide +kernel
theorem d_L_isSameAs_0 : decode b_L_isSameAs 0 = .ok (.aload_n 0, 1) := by decide +kernel
theorem d_L_isSameAs_1 : decode b_L_isSameAs 1 = .ok (.getfield 15, 3) := by decide +kernel
theorem d_L_isSameAs_4 : decode b_L_isSameAs 4 = .ok (.aload_n 1, 1) := by decide +kernel
theorem d_L_isSameAs_5 : decode b_L_isSameAs 5 = .ok (.getfield 15, 3) := by decide +kernel
theorem d_L_isSameAs_8 : decode b_L_isSameAs 8 = .ok (.if_icmp .ne 15, 3) := by decide +kernel
theorem d_L_isSameAs_11 : decode b_L_isSameAs 11 = .ok (.aload_n 0, 1) := by decide +kernel
theorem d_L_isSameAs_12 : decode b_L_isSameAs 12 = .ok (.aload_n 1, 1) := by decide +kernel
theorem d_L_isSameAs_13 : decode b_L_isSameAs 13 = .ok (.invokevirtual 30, 3) := by decide +kernel
theorem d_L_isSameAs_16 : decode b_L_isSameAs 16 = .ok (.ifCond .eq 7, 3) := by decide +kernel
theorem d_L_isSameAs_19 : decode b_L_isSameAs 19 = .ok (.iconst 1, 1) := by decide +kernel
theorem d_L_isSameAs_20 : decode b_L_isSameAs 20 = .ok (.goto 4, 3) := by decide +kernel
theorem d_L_isSameAs_23 : decode b_L_isSameAs 23 = .ok (.iconst 0, 1) := by decide +kernel
theorem d_L_isSameAs_24 : decode b_L_isSameAs 24 = .ok (.ireturn, 1) := by decide +kernel
theorem d_L_isBefore_0 : decode b_L_isBefore 0 = .ok (.iconst 0, 1) := by decide +kernel
theorem d_L_isBefore_1 : decode b_L_isBefore 1 = .ok (.istore_n 2, 1) := by decide +kernel
theorem d_L_isBefore_2 : decode b_L_isBefore 2 = .ok (.iload_n 2, 1) := by decide +kernel
theorem d_L_isBefore_3 : decode b_L_isBefore 3 = .ok (.aload_n 1, 1) := by decide +kernel
theorem d_L_isBefore_4 : decode b_L_isBefore 4 = .ok (.getfield 15, 3) := by decide +kernel
theorem d_L_isBefore_7 : decode b_L_isBefore 7 = .ok (.if_icmp .ge 41, 3) := by decide +kernel
theorem d_L_isBefore_10 : decode b_L_isBefore 10 = .ok (.aload_n 0, 1) := by decide +kernel
theorem d_L_isBefore_11 : decode b_L_isBefore 11 = .ok (.iload_n 2, 1) := by decide +kernel
theorem d_L_isBefore_12 : decode b_L_isBefore 12 = .ok (.invokevirtual 22, 3) := by decide +kernel
theorem d_L_isBefore_15 : decode b_L_isBefore 15 = .ok (.aload_n 1, 1) := by decide +kernel
theorem d_L_isBefore_16 : decode b_L_isBefore 16 = .ok (.iload_n 2, 1) := by decide +kernel
theorem d_L_isBefore_17 : decode b_L_isBefore 17 = .ok (.invokevirtual 22, 3) := by decide +kernel
theorem d_L_isBefore_20 : decode b_L_isBefore 20 = .ok (.if_icmp .eq 22, 3) := by decide +kernel
theorem d_L_isBefore_23 : decode b_L_isBefore 23 = .ok (.aload_n 0, 1) := by decide +kernel
theorem d_L_isBefore_24 : decode b_L_isBefore 24 = .ok (.iload_n 2, 1) := by decide +kernel
theorem d_L_isBefore_25 : decode b_L_isBefore 25 = .ok (.invokevirtual 22, 3) := by decide +kernel
theorem d_L_isBefore_28 : decode b_L_isBefore 28 = .ok (.aload_n 1, 1) := by decide +kernel
theorem d_L_isBefore_29 : decode b_L_isBefore 29 = .ok (.iload_n 2, 1) := by decide +kernel
theorem d_L_isBefore_30 : decode b_L_isBefore 30 = .ok (.invokevirtual 22, 3) := by decide +kernel
theorem d_L_isBefore_33 : decode b_L_isBefore 33 = .ok (.if_icmp .ge 7, 3) := by decide +kernel
theorem d_L_isBefore_36 : decode b_L_isBefore 36 = .ok (.iconst 1, 1) := by decide +kernel
theorem d_L_isBefore_37 : decode b_L_isBefore 37 = .ok (.goto 4, 3) := by decide +kernel
theorem d_L_isBefore_40 : decode b_L_isBefore 40 = .ok (.iconst 0, 1) := by decide +kernel
theorem d_L_isBefore_41 : decode b_L_isBefore 41 = .ok (.ireturn, 1) := by decide +kernel
theorem d_L_isBefore_42 : decode b_L_isBefore 42 = .ok (.iinc 2 1, 3) := by decide +kernel
theorem d_L_isBefore_45 : decode b_L_isBefore 45 = .ok (.goto (-43), 3) := by decide +kernel
theorem d_L_isBefore_48 : decode b_L_isBefore 48 = .ok (.iconst 0, 1) := by decide +kernel
theorem d_L_isBefore_49 : decode b_L_isBefore 49 = .ok (.ireturn, 1) := by decide +kernel
theorem d_W_init_0 : decode b_W_init 0 = .ok (.aload_n 0, 1) := by decide +kernel
theorem d_W_init_1 : decode b_W_init 1 = .ok (.invokespecial 3, 3) := by decide +kernel
theorem d_W_init_4 : decode b_W_init 4 = .ok (.aload_n 0, 1) := by decide +kernel
theorem d_W_init_5 : decode b_W_init 5 = .ok (.new 9, 3) := by decide +kernel
theorem d_W_init_8 : decode b_W_init 8 = .ok (.dup, 1) := by decide +kernel
theorem d_W_init_9 : decode b_W_init 9 = .ok (.bipush 8, 2) := by decide +kernel
theorem d_W_init_11 : decode b_W_init 11 = .ok (.invokespecial 11, 3) := by decide +kernel
theorem d_W_init_14 : decode b_W_init 14 = .ok (.putfield 14, 3) := by decide +kernel
theorem d_W_init_17 : decode b_W_init 17 = .ok (.aload_n 0, 1) := by decide +kernel
theorem d_W_init_18 : decode b_W_init 18 = .ok (.iconst 0, 1) := by decide +kernel
theorem d_W_init_19 : decode b_W_init 19 = .ok (.putfield 20, 3) := by decide +kernel
theorem d_W_init_22 : decode b_W_init 22 = .ok (.return_, 1) := by decide +kernel
