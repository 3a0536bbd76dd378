theorem dX10_init_26 : decode cX10_init 26 = .ok (.putfield 24, 3) := by decide +kernel
theorem dX10_init_29 : decode cX10_init 29 = .ok (.aload_n 0, 1) := by decide +kernel
theorem dX10_init_30 : decode cX10_init 30 = .ok (.iconst 5, 1) := by decide +kernel
theorem dX10_init_31 : decode cX10_init 31 = .ok (.newarray .int, 2) := by decide +kernel
theorem dX10_init_33 : decode cX10_init 33 = .ok (.putfield 27, 3) := by decide +kernel
theorem dX10_init_36 : decode cX10_init 36 = .ok (.aload_n 0, 1) := by decide +kernel
theorem dX10_init_37 : decode cX10_init 37 = .ok (.bipush 6, 2) := by decide +kernel
theorem dX10_init_39 : decode cX10_init 39 = .ok (.newarray .int, 2) := by decide +kernel
theorem dX10_init_41 : decode cX10_init 41 = .ok (.putfield 31, 3) := by decide +kernel
theorem dX10_init_44 : decode cX10_init 44 = .ok (.aload_n 0, 1) := by decide +kernel
theorem dX10_init_45 : decode cX10_init 45 = .ok (.bipush 36, 2) := by decide +kernel
theorem dX10_init_47 : decode cX10_init 47 = .ok (.newarray .int, 2) := by decide +kernel
theorem dX10_init_49 : decode cX10_init 49 = .ok (.putfield 34, 3) := by decide +kernel
theorem dX10_init_52 : decode cX10_init 52 = .ok (.return_, 1) := by decide +kernel
theorem dX10_whoOf_0 : decode cX10_whoOf 0 = .ok (.iload_n 0, 1) := by decide +kernel
theorem dX10_whoOf_1 : decode cX10_whoOf 1 = .ok (.bipush 7, 2) := by decide +kernel
theorem dX10_whoOf_3 : decode cX10_whoOf 3 = .ok (.ishr, 1) := by decide +kernel
theorem dX10_whoOf_4 : decode cX10_whoOf 4 = .ok (.bipush 7, 2) := by decide +kernel
theorem dX10_whoOf_6 : decode cX10_whoOf 6 = .ok (.iand, 1) := by decide +kernel
theorem dX10_whoOf_7 : decode cX10_whoOf 7 = .ok (.ireturn, 1) := by decide +kernel
theorem dX10_deedOf_0 : decode cX10_deedOf 0 = .ok (.iload_n 0, 1) := by decide +kernel
theorem dX10_deedOf_1 : decode cX10_deedOf 1 = .ok (.iconst 4, 1) := by decide +kernel
theorem dX10_deedOf_2 : decode cX10_deedOf 2 = .ok (.ishr, 1) := by decide +kernel
theorem dX10_deedOf_3 : decode cX10_deedOf 3 = .ok (.bipush 7, 2) := by decide +kernel
theorem dX10_deedOf_5 : decode cX10_deedOf 5 = .ok (.iand, 1) := by decide +kernel
theorem dX10_deedOf_6 : decode cX10_deedOf 6 = .ok (.ireturn, 1) := by decide +kernel
theorem dX10_cellOf_0 : decode cX10_cellOf 0 = .ok (.iload_n 0, 1) := by decide +kernel
theorem dX10_cellOf_1 : decode cX10_cellOf 1 = .ok (.bipush 15, 2) := by decide +kernel
theorem dX10_cellOf_3 : decode cX10_cellOf 3 = .ok (.iand, 1) := by decide +kernel
theorem dX10_cellOf_4 : decode cX10_cellOf 4 = .ok (.ireturn, 1) := by decide +kernel
theorem dX10_ageOf_0 : decode cX10_ageOf 0 = .ok (.iload_n 0, 1) := by decide +kernel
theorem dX10_ageOf_1 : decode cX10_ageOf 1 = .ok (.bipush 10, 2) := by decide +kernel
theorem dX10_ageOf_3 : decode cX10_ageOf 3 = .ok (.ishr, 1) := by decide +kernel
theorem dX10_ageOf_4 : decode cX10_ageOf 4 = .ok (.ireturn, 1) := by decide +kernel
theorem dX10_isAlike_0 : decode cX10_isAlike 0 = .ok (.iload_n 0, 1) := by decide +kernel
theorem dX10_isAlike_1 : decode cX10_isAlike 1 = .ok (.sipush 1023, 3) := by decide +kernel
theorem dX10_isAlike_4 : decode cX10_isAlike 4 = .ok (.iand, 1) := by decide +kernel
theorem dX10_isAlike_5 : decode cX10_isAlike 5 = .ok (.iload_n 1, 1) := by decide +kernel
theorem dX10_isAlike_6 : decode cX10_isAlike 6 = .ok (.sipush 1023, 3) := by decide +kernel
theorem dX10_isAlike_9 : decode cX10_isAlike 9 = .ok (.iand, 1) := by decide +kernel
theorem dX10_isAlike_10 : decode cX10_isAlike 10 = .ok (.if_icmp .ne 7, 3) := by decide +kernel
theorem dX10_isAlike_13 : decode cX10_isAlike 13 = .ok (.iconst 1, 1) := by decide +kernel
theorem dX10_isAlike_14 : decode cX10_isAlike 14 = .ok (.goto 4, 3) := by decide +kernel
theorem dX10_isAlike_17 : decode cX10_isAlike 17 = .ok (.iconst 0, 1) := by decide +kernel
theorem dX10_isAlike_18 : decode cX10_isAlike 18 = .ok (.ireturn, 1) := by decide +kernel
theorem dX10_begin_0 : decode cX10_begin 0 = .ok (.aload_n 0, 1) := by decide +kernel
theorem dX10_begin_1 : decode cX10_begin 1 = .ok (.iconst 0, 1) := by decide +kernel
theorem dX10_begin_2 : decode cX10_begin 2 = .ok (.putfield 11, 3) := by decide +kernel
theorem dX10_begin_5 : decode cX10_begin 5 = .ok (.aload_n 0, 1) := by decide +kernel
theorem dX10_begin_6 : decode cX10_begin 6 = .ok (.iconst 0, 1) := by decide +kernel
theorem dX10_begin_7 : decode cX10_begin 7 = .ok (.putfield 15, 3) := by decide +kernel
theorem dX10_begin_10 : decode cX10_begin 10 = .ok (.aload_n 0, 1) := by decide +kernel
theorem dX10_begin_11 : decode cX10_begin 11 = .ok (.iconst 0, 1) := by decide +kernel
theorem dX10_begin_12 : decode cX10_begin 12 = .ok (.putfield 18, 3) := by decide +kernel
theorem dX10_begin_15 : decode cX10_begin 15 = .ok (.iconst 0, 1) := by decide +kernel
theorem dX10_begin_16 : decode cX10_begin 16 = .ok (.istore_n 2, 1) := by decide +kernel
theorem dX10_begin_17 : decode cX10_begin 17 = .ok (.iload_n 2, 1) := by decide +kernel
theorem dX10_begin_18 : decode cX10_begin 18 = .ok (.iconst 5, 1) := by decide +kernel
theorem dX10_begin_19 : decode cX10_begin 19 = .ok (.if_icmp .ge 21, 3) := by decide +kernel
theorem dX10_begin_22 : decode cX10_begin 22 = .ok (.aload_n 0, 1) := by decide +kernel
theorem dX10_begin_23 : decode cX10_begin 23 = .ok (.getfield 27, 3) := by decide +kernel
theorem dX10_begin_26 : decode cX10_begin 26 = .ok (.iload_n 2, 1) := by decide +kernel
theorem dX10_begin_27 : decode cX10_begin 27 = .ok (.aload_n 1, 1) := by decide +kernel
theorem dX10_begin_28 : decode cX10_begin 28 = .ok (.getfield 37, 3) := by decide +kernel
theorem dX10_begin_31 : decode cX10_begin 31 = .ok (.iload_n 2, 1) := by decide +kernel
theorem dX10_begin_32 : decode cX10_begin 32 = .ok (.iaload, 1) := by decide +kernel
theorem dX10_begin_33 : decode cX10_begin 33 = .ok (.iastore, 1) := by decide +kernel
theorem dX10_begin_34 : decode cX10_begin 34 = .ok (.iinc 2 1, 3) := by decide +kernel
theorem dX10_begin_37 : decode cX10_begin 37 = .ok (.goto (-20), 3) := by decide +kernel
theorem dX10_begin_40 : decode cX10_begin 40 = .ok (.iconst 0, 1) := by decide +kernel
theorem dX10_begin_41 : decode cX10_begin 41 = .ok (.istore_n 2, 1) := by decide +kernel
theorem dX10_begin_42 : decode cX10_begin 42 = .ok (.iload_n 2, 1) := by decide +kernel
theorem dX10_begin_43 : decode cX10_begin 43 = .ok (.bipush 6, 2) := by decide +kernel
theorem dX10_begin_45 : decode cX10_begin 45 = .ok (.if_icmp .ge 16, 3) := by decide +kernel
theorem dX10_begin_48 : decode cX10_begin 48 = .ok (.aload_n 0, 1) := by decide +kernel
theorem dX10_begin_49 : decode cX10_begin 49 = .ok (.getfield 31, 3) := by decide +kernel
theorem dX10_begin_52 : decode cX10_begin 52 = .ok (.iload_n 2, 1) := by decide +kernel
theorem dX10_begin_53 : decode cX10_begin 53 = .ok (.iconst 0, 1) := by decide +kernel
theorem dX10_begin_54 : decode cX10_begin 54 = .ok (.iastore, 1) := by decide +kernel
theorem dX10_begin_55 : decode cX10_begin 55 = .ok (.iinc 2 1, 3) := by decide +kernel
theorem dX10_begin_58 : decode cX10_begin 58 = .ok (.goto (-16), 3) := by decide +kernel
theorem dX10_begin_61 : decode cX10_begin 61 = .ok (.return_, 1) := by decide +kernel
theorem dX10_forgetSaid_0 : decode cX10_forgetSaid 0 = .ok (.aload_n 0, 1) := by decide +kernel
theorem dX10_forgetSaid_1 : decode cX10_forgetSaid 1 = .ok (.iconst 0, 1) := by decide +kernel
theorem dX10_forgetSaid_2 : decode cX10_forgetSaid 2 = .ok (.putfield 21, 3) := by decide +kernel
theorem dX10_forgetSaid_5 : decode cX10_forgetSaid 5 = .ok (.aload_n 0, 1) := by decide +kernel
theorem dX10_forgetSaid_6 : decode cX10_forgetSaid 6 = .ok (.iconst 0, 1) := by decide +kernel
theorem dX10_forgetSaid_7 : decode cX10_forgetSaid 7 = .ok (.putfield 24, 3) := by decide +kernel
theorem dX10_forgetSaid_10 : decode cX10_forgetSaid 10 = .ok (.return_, 1) := by decide +kernel
theorem dX10_copy_0 : decode cX10_copy 0 = .ok (.aload_n 0, 1) := by decide +kernel
theorem dX10_copy_1 : decode cX10_copy 1 = .ok (.aload_n 1, 1) := by decide +kernel
theorem dX10_copy_2 : decode cX10_copy 2 = .ok (.getfield 11, 3) := by decide +kernel
theorem dX10_copy_5 : decode cX10_copy 5 = .ok (.putfield 11, 3) := by decide +kernel
theorem dX10_copy_8 : decode cX10_copy 8 = .ok (.aload_n 0, 1) := by decide +kernel
theorem dX10_copy_9 : decode cX10_copy 9 = .ok (.aload_n 1, 1) := by decide +kernel
theorem dX10_copy_10 : decode cX10_copy 10 = .ok (.getfield 15, 3) := by decide +kernel
theorem dX10_copy_13 : decode cX10_copy 13 = .ok (.putfield 15, 3) := by decide +kernel
theorem dX10_copy_16 : decode cX10_copy 16 = .ok (.aload_n 0, 1) := by decide +kernel
theorem dX10_copy_17 : decode cX10_copy 17 = .ok (.aload_n 1, 1) := by decide +kernel
theorem dX10_copy_18 : decode cX10_copy 18 = .ok (.getfield 18, 3) := by decide +kernel
theorem dX10_copy_21 : decode cX10_copy 21 = .ok (.putfield 18, 3) := by decide +kernel
theorem dX10_copy_24 : decode cX10_copy 24 = .ok (.aload_n 1, 1) := by decide +kernel
theorem dX10_copy_25 : decode cX10_copy 25 = .ok (.getfield 27, 3) := by decide +kernel
theorem dX10_copy_28 : decode cX10_copy 28 = .ok (.iconst 0, 1) := by decide +kernel
theorem dX10_copy_29 : decode cX10_copy 29 = .ok (.aload_n 0, 1) := by decide +kernel
theorem dX10_copy_30 : decode cX10_copy 30 = .ok (.getfield 27, 3) := by decide +kernel
theorem dX10_copy_33 : decode cX10_copy 33 = .ok (.iconst 0, 1) := by decide +kernel
theorem dX10_copy_34 : decode cX10_copy 34 = .ok (.iconst 5, 1) := by decide +kernel
theorem dX10_copy_35 : decode cX10_copy 35 = .ok (.invokestatic 42, 3) := by decide +kernel
theorem dX10_copy_38 : decode cX10_copy 38 = .ok (.aload_n 1, 1) := by decide +kernel
theorem dX10_copy_39 : decode cX10_copy 39 = .ok (.getfield 31, 3) := by decide +kernel
theorem dX10_copy_42 : decode cX10_copy 42 = .ok (.iconst 0, 1) := by decide +kernel
theorem dX10_copy_43 : decode cX10_copy 43 = .ok (.aload_n 0, 1) := by decide +kernel
theorem dX10_copy_44 : decode cX10_copy 44 = .ok (.getfield 31, 3) := by decide +kernel
theorem dX10_copy_47 : decode cX10_copy 47 = .ok (.iconst 0, 1) := by decide +kernel
theorem dX10_copy_48 : decode cX10_copy 48 = .ok (.bipush 6, 2) := by decide +kernel
theorem dX10_copy_50 : decode cX10_copy 50 = .ok (.invokestatic 42, 3) := by decide +kernel
theorem dX10_copy_53 : decode cX10_copy 53 = .ok (.aload_n 1, 1) := by decide +kernel
theorem dX10_copy_54 : decode cX10_copy 54 = .ok (.getfield 34, 3) := by decide +kernel
theorem dX10_copy_57 : decode cX10_copy 57 = .ok (.iconst 0, 1) := by decide +kernel
theorem dX10_copy_58 : decode cX10_copy 58 = .ok (.aload_n 0, 1) := by decide +kernel
theorem dX10_copy_59 : decode cX10_copy 59 = .ok (.getfield 34, 3) := by decide +kernel
theorem dX10_copy_62 : decode cX10_copy 62 = .ok (.iconst 0, 1) := by decide +kernel
theorem dX10_copy_63 : decode cX10_copy 63 = .ok (.bipush 36, 2) := by decide +kernel
theorem dX10_copy_65 : decode cX10_copy 65 = .ok (.invokestatic 42, 3) := by decide +kernel
theorem dX10_copy_68 : decode cX10_copy 68 = .ok (.return_, 1) := by decide +kernel
theorem dX10_copySaid_0 : decode cX10_copySaid 0 = .ok (.aload_n 0, 1) := by decide +kernel
theorem dX10_copySaid_1 : decode cX10_copySaid 1 = .ok (.aload_n 1, 1) := by decide +kernel
theorem dX10_copySaid_2 : decode cX10_copySaid 2 = .ok (.getfield 21, 3) := by decide +kernel
theorem dX10_copySaid_5 : decode cX10_copySaid 5 = .ok (.putfield 21, 3) := by decide +kernel
theorem dX10_copySaid_8 : decode cX10_copySaid 8 = .ok (.aload_n 0, 1) := by decide +kernel
theorem dX10_copySaid_9 : decode cX10_copySaid 9 = .ok (.aload_n 1, 1) := by decide +kernel
theorem dX10_copySaid_10 : decode cX10_copySaid 10 = .ok (.getfield 24, 3) := by decide +kernel
theorem dX10_copySaid_13 : decode cX10_copySaid 13 = .ok (.putfield 24, 3) := by decide +kernel
theorem dX10_copySaid_16 : decode cX10_copySaid 16 = .ok (.return_, 1) := by decide +kernel
theorem dX10_hear_0 : decode cX10_hear 0 = .ok (.aload_n 0, 1) := by decide +kernel
theorem dX10_hear_1 : decode cX10_hear 1 = .ok (.dup, 1) := by decide +kernel
theorem dX10_hear_2 : decode cX10_hear 2 = .ok (.getfield 21, 3) := by decide +kernel
theorem dX10_hear_5 : decode cX10_hear 5 = .ok (.iconst 1, 1) := by decide +kernel
theorem dX10_hear_6 : decode cX10_hear 6 = .ok (.iload_n 1, 1) := by decide +kernel
theorem dX10_hear_7 : decode cX10_hear 7 = .ok (.ishl, 1) := by decide +kernel
theorem dX10_hear_8 : decode cX10_hear 8 = .ok (.ior, 1) := by decide +kernel
theorem dX10_hear_9 : decode cX10_hear 9 = .ok (.putfield 21, 3) := by decide +kernel
theorem dX10_hear_12 : decode cX10_hear 12 = .ok (.aload_n 0, 1) := by decide +kernel
theorem dX10_hear_13 : decode cX10_hear 13 = .ok (.iload_n 2, 1) := by decide +kernel
theorem dX10_hear_14 : decode cX10_hear 14 = .ok (.ifCond .eq 14, 3) := by decide +kernel
theorem dX10_hear_17 : decode cX10_hear 17 = .ok (.aload_n 0, 1) := by decide +kernel
theorem dX10_hear_18 : decode cX10_hear 18 = .ok (.getfield 24, 3) := by decide +kernel
theorem dX10_hear_21 : decode cX10_hear 21 = .ok (.iconst 1, 1) := by decide +kernel
theorem dX10_hear_22 : decode cX10_hear 22 = .ok (.iload_n 1, 1) := by decide +kernel
theorem dX10_hear_23 : decode cX10_hear 23 = .ok (.ishl, 1) := by decide +kernel
theorem dX10_hear_24 : decode cX10_hear 24 = .ok (.ior, 1) := by decide +kernel
theorem dX10_hear_25 : decode cX10_hear 25 = .ok (.goto 13, 3) := by decide +kernel
theorem dX10_hear_28 : decode cX10_hear 28 = .ok (.aload_n 0, 1) := by decide +kernel
theorem dX10_hear_29 : decode cX10_hear 29 = .ok (.getfield 24, 3) := by decide +kernel
theorem dX10_hear_32 : decode cX10_hear 32 = .ok (.iconst 1, 1) := by decide +kernel
theorem dX10_hear_33 : decode cX10_hear 33 = .ok (.iload_n 1, 1) := by decide +kernel
theorem dX10_hear_34 : decode cX10_hear 34 = .ok (.ishl, 1) := by decide +kernel
theorem dX10_hear_35 : decode cX10_hear 35 = .ok (.iconst (-1), 1) := by decide +kernel
theorem dX10_hear_36 : decode cX10_hear 36 = .ok (.ixor, 1) := by decide +kernel
theorem dX10_hear_37 : decode cX10_hear 37 = .ok (.iand, 1) := by decide +kernel
theorem dX10_hear_38 : decode cX10_hear 38 = .ok (.putfield 24, 3) := by decide +kernel
theorem dX10_hear_41 : decode cX10_hear 41 = .ok (.return_, 1) := by decide +kernel
theorem dX10_isDrawn_0 : decode cX10_isDrawn 0 = .ok (.aload_n 0, 1) := by decide +kernel
theorem dX10_isDrawn_1 : decode cX10_isDrawn 1 = .ok (.getfield 15, 3) := by decide +kernel
theorem dX10_isDrawn_4 : decode cX10_isDrawn 4 = .ok (.iload_n 1, 1) := by decide +kernel
theorem dX10_isDrawn_5 : decode cX10_isDrawn 5 = .ok (.ishr, 1) := by decide +kernel
theorem dX10_isDrawn_6 : decode cX10_isDrawn 6 = .ok (.iconst 1, 1) := by decide +kernel
theorem dX10_isDrawn_7 : decode cX10_isDrawn 7 = .ok (.iand, 1) := by decide +kernel
theorem dX10_isDrawn_8 : decode cX10_isDrawn 8 = .ok (.ifCond .eq 7, 3) := by decide +kernel
theorem dX10_isDrawn_11 : decode cX10_isDrawn 11 = .ok (.iconst 1, 1) := by decide +kernel
theorem dX10_isDrawn_12 : decode cX10_isDrawn 12 = .ok (.goto 4, 3) := by decide +kernel
theorem dX10_isDrawn_15 : decode cX10_isDrawn 15 = .ok (.iconst 0, 1) := by decide +kernel
theorem dX10_isDrawn_16 : decode cX10_isDrawn 16 = .ok (.ireturn, 1) := by decide +kernel
theorem dX10_isBroken_0 : decode cX10_isBroken 0 = .ok (.aload_n 0, 1) := by decide +kernel
theorem dX10_isBroken_1 : decode cX10_isBroken 1 = .ok (.getfield 18, 3) := by decide +kernel
theorem dX10_isBroken_4 : decode cX10_isBroken 4 = .ok (.iload_n 1, 1) := by decide +kernel
theorem dX10_isBroken_5 : decode cX10_isBroken 5 = .ok (.ishr, 1) := by decide +kernel
theorem dX10_isBroken_6 : decode cX10_isBroken 6 = .ok (.iconst 1, 1) := by decide +kernel
theorem dX10_isBroken_7 : decode cX10_isBroken 7 = .ok (.iand, 1) := by decide +kernel
theorem dX10_isBroken_8 : decode cX10_isBroken 8 = .ok (.ifCond .eq 7, 3) := by decide +kernel
theorem dX10_isBroken_11 : decode cX10_isBroken 11 = .ok (.iconst 1, 1) := by decide +kernel
theorem dX10_isBroken_12 : decode cX10_isBroken 12 = .ok (.goto 4, 3) := by decide +kernel
theorem dX10_isBroken_15 : decode cX10_isBroken 15 = .ok (.iconst 0, 1) := by decide +kernel
theorem dX10_isBroken_16 : decode cX10_isBroken 16 = .ok (.ireturn, 1) := by decide +kernel
theorem dX10_isOpenToAll_0 : decode cX10_isOpenToAll 0 = .ok (.aload_n 0, 1) := by decide +kernel
theorem dX10_isOpenToAll_1 : decode cX10_isOpenToAll 1 = .ok (.iload_n 1, 1) := by decide +kernel
theorem dX10_isOpenToAll_2 : decode cX10_isOpenToAll 2 = .ok (.invokevirtual 48, 3) := by decide +kernel
theorem dX10_isOpenToAll_5 : decode cX10_isOpenToAll 5 = .ok (.ifCond .ne 11, 3) := by decide +kernel
theorem dX10_isOpenToAll_8 : decode cX10_isOpenToAll 8 = .ok (.aload_n 0, 1) := by decide +kernel
theorem dX10_isOpenToAll_9 : decode cX10_isOpenToAll 9 = .ok (.iload_n 1, 1) := by decide +kernel
theorem dX10_isOpenToAll_10 : decode cX10_isOpenToAll 10 = .ok (.invokevirtual 52, 3) := by decide +kernel
theorem dX10_isOpenToAll_13 : decode cX10_isOpenToAll 13 = .ok (.ifCond .ne 7, 3) := by decide +kernel
theorem dX10_isOpenToAll_16 : decode cX10_isOpenToAll 16 = .ok (.iconst 1, 1) := by decide +kernel
theorem dX10_isOpenToAll_17 : decode cX10_isOpenToAll 17 = .ok (.goto 4, 3) := by decide +kernel
theorem dX10_isOpenToAll_20 : decode cX10_isOpenToAll 20 = .ok (.iconst 0, 1) := by decide +kernel
theorem dX10_isOpenToAll_21 : decode cX10_isOpenToAll 21 = .ok (.ireturn, 1) := by decide +kernel
theorem dX10_tellsWho_0 : decode cX10_tellsWho 0 = .ok (.aload_n 0, 1) := by decide +kernel
theorem dX10_tellsWho_1 : decode cX10_tellsWho 1 = .ok (.iload_n 2, 1) := by decide +kernel
theorem dX10_tellsWho_2 : decode cX10_tellsWho 2 = .ok (.invokevirtual 48, 3) := by decide +kernel
theorem dX10_tellsWho_5 : decode cX10_tellsWho 5 = .ok (.ifCond .ne 13, 3) := by decide +kernel
theorem dX10_tellsWho_8 : decode cX10_tellsWho 8 = .ok (.aload_n 1, 1) := by decide +kernel
theorem dX10_tellsWho_9 : decode cX10_tellsWho 9 = .ok (.getfield 55, 3) := by decide +kernel
theorem dX10_tellsWho_12 : decode cX10_tellsWho 12 = .ok (.iload_n 2, 1) := by decide +kernel
theorem dX10_tellsWho_13 : decode cX10_tellsWho 13 = .ok (.iaload, 1) := by decide +kernel
theorem dX10_tellsWho_14 : decode cX10_tellsWho 14 = .ok (.iconst 1, 1) := by decide +kernel
theorem dX10_tellsWho_15 : decode cX10_tellsWho 15 = .ok (.if_icmp .eq 7, 3) := by decide +kernel
theorem dX10_tellsWho_18 : decode cX10_tellsWho 18 = .ok (.iconst 1, 1) := by decide +kernel
theorem dX10_tellsWho_19 : decode cX10_tellsWho 19 = .ok (.goto 4, 3) := by decide +kernel
theorem dX10_tellsWho_22 : decode cX10_tellsWho 22 = .ok (.iconst 0, 1) := by decide +kernel
theorem dX10_tellsWho_23 : decode cX10_tellsWho 23 = .ok (.ireturn, 1) := by decide +kernel
theorem dX10_marksHeld_0 : decode cX10_marksHeld 0 = .ok (.iconst 0, 1) := by decide +kernel
theorem dX10_marksHeld_1 : decode cX10_marksHeld 1 = .ok (.istore_n 2, 1) := by decide +kernel
theorem dX10_marksHeld_2 : decode cX10_marksHeld 2 = .ok (.iconst 0, 1) := by decide +kernel
theorem dX10_marksHeld_3 : decode cX10_marksHeld 3 = .ok (.istore_n 3, 1) := by decide +kernel
theorem dX10_marksHeld_4 : decode cX10_marksHeld 4 = .ok (.iload_n 3, 1) := by decide +kernel
theorem dX10_marksHeld_5 : decode cX10_marksHeld 5 = .ok (.aload_n 1, 1) := by decide +kernel
theorem dX10_marksHeld_6 : decode cX10_marksHeld 6 = .ok (.getfield 58, 3) := by decide +kernel
theorem dX10_marksHeld_9 : decode cX10_marksHeld 9 = .ok (.if_icmp .ge 18, 3) := by decide +kernel
theorem dX10_marksHeld_12 : decode cX10_marksHeld 12 = .ok (.iload_n 2, 1) := by decide +kernel
theorem dX10_marksHeld_13 : decode cX10_marksHeld 13 = .ok (.aload_n 0, 1) := by decide +kernel
theorem dX10_marksHeld_14 : decode cX10_marksHeld 14 = .ok (.getfield 31, 3) := by decide +kernel
theorem dX10_marksHeld_17 : decode cX10_marksHeld 17 = .ok (.iload_n 3, 1) := by decide +kernel
theorem dX10_marksHeld_18 : decode cX10_marksHeld 18 = .ok (.iaload, 1) := by decide +kernel
theorem dX10_marksHeld_19 : decode cX10_marksHeld 19 = .ok (.iadd, 1) := by decide +kernel
theorem dX10_marksHeld_20 : decode cX10_marksHeld 20 = .ok (.istore_n 2, 1) := by decide +kernel
theorem dX10_marksHeld_21 : decode cX10_marksHeld 21 = .ok (.iinc 3 1, 3) := by decide +kernel
theorem dX10_marksHeld_24 : decode cX10_marksHeld 24 = .ok (.goto (-20), 3) := by decide +kernel
theorem dX10_marksHeld_27 : decode cX10_marksHeld 27 = .ok (.iload_n 2, 1) := by decide +kernel
theorem dX10_marksHeld_28 : decode cX10_marksHeld 28 = .ok (.ireturn, 1) := by decide +kernel
theorem dX10_markAt_0 : decode cX10_markAt 0 = .ok (.aload_n 0, 1) := by decide +kernel
theorem dX10_markAt_1 : decode cX10_markAt 1 = .ok (.getfield 34, 3) := by decide +kernel
theorem dX10_markAt_4 : decode cX10_markAt 4 = .ok (.iload_n 1, 1) := by decide +kernel
theorem dX10_markAt_5 : decode cX10_markAt 5 = .ok (.bipush 6, 2) := by decide +kernel
theorem dX10_markAt_7 : decode cX10_markAt 7 = .ok (.imul, 1) := by decide +kernel
theorem dX10_markAt_8 : decode cX10_markAt 8 = .ok (.iload_n 2, 1) := by decide +kernel
theorem dX10_markAt_9 : decode cX10_markAt 9 = .ok (.iadd, 1) := by decide +kernel
theorem dX10_markAt_10 : decode cX10_markAt 10 = .ok (.iaload, 1) := by decide +kernel
theorem dX10_markAt_11 : decode cX10_markAt 11 = .ok (.ireturn, 1) := by decide +kernel
theorem dX10_sightOf_0 : decode cX10_sightOf 0 = .ok (.aload_n 0, 1) := by decide +kernel
theorem dX10_sightOf_1 : decode cX10_sightOf 1 = .ok (.iload_n 2, 1) := by decide +kernel
theorem dX10_sightOf_2 : decode cX10_sightOf 2 = .ok (.invokevirtual 48, 3) := by decide +kernel
theorem dX10_sightOf_5 : decode cX10_sightOf 5 = .ok (.ifCond .ne 11, 3) := by decide +kernel
theorem dX10_sightOf_8 : decode cX10_sightOf 8 = .ok (.aload_n 0, 1) := by decide +kernel
theorem dX10_sightOf_9 : decode cX10_sightOf 9 = .ok (.iload_n 2, 1) := by decide +kernel
theorem dX10_sightOf_10 : decode cX10_sightOf 10 = .ok (.invokevirtual 52, 3) := by decide +kernel
theorem dX10_sightOf_13 : decode cX10_sightOf 13 = .ok (.ifCond .eq 5, 3) := by decide +kernel
theorem dX10_sightOf_16 : decode cX10_sightOf 16 = .ok (.iconst 0, 1) := by decide +kernel
theorem dX10_sightOf_17 : decode cX10_sightOf 17 = .ok (.ireturn, 1) := by decide +kernel
theorem dX10_sightOf_18 : decode cX10_sightOf 18 = .ok (.aload_n 1, 1) := by decide +kernel
theorem dX10_sightOf_19 : decode cX10_sightOf 19 = .ok (.getfield 55, 3) := by decide +kernel
theorem dX10_sightOf_22 : decode cX10_sightOf 22 = .ok (.iload_n 2, 1) := by decide +kernel
theorem dX10_sightOf_23 : decode cX10_sightOf 23 = .ok (.iaload, 1) := by decide +kernel
theorem dX10_sightOf_24 : decode cX10_sightOf 24 = .ok (.iconst 2, 1) := by decide +kernel
theorem dX10_sightOf_25 : decode cX10_sightOf 25 = .ok (.if_icmp .ne 16, 3) := by decide +kernel
theorem dX10_sightOf_28 : decode cX10_sightOf 28 = .ok (.aload_n 1, 1) := by decide +kernel
theorem dX10_sightOf_29 : decode cX10_sightOf 29 = .ok (.aload_n 0, 1) := by decide +kernel
theorem dX10_sightOf_30 : decode cX10_sightOf 30 = .ok (.getfield 11, 3) := by decide +kernel
theorem dX10_sightOf_33 : decode cX10_sightOf 33 = .ok (.invokevirtual 61, 3) := by decide +kernel
theorem dX10_sightOf_36 : decode cX10_sightOf 36 = .ok (.ifCond .ne 5, 3) := by decide +kernel
theorem dX10_sightOf_39 : decode cX10_sightOf 39 = .ok (.iconst 0, 1) := by decide +kernel
theorem dX10_sightOf_40 : decode cX10_sightOf 40 = .ok (.ireturn, 1) := by decide +kernel
theorem dX10_sightOf_41 : decode cX10_sightOf 41 = .ok (.aload_n 1, 1) := by decide +kernel
theorem dX10_sightOf_42 : decode cX10_sightOf 42 = .ok (.getfield 65, 3) := by decide +kernel
theorem dX10_sightOf_45 : decode cX10_sightOf 45 = .ok (.iload_n 2, 1) := by decide +kernel
theorem dX10_sightOf_46 : decode cX10_sightOf 46 = .ok (.iaload, 1) := by decide +kernel
theorem dX10_sightOf_47 : decode cX10_sightOf 47 = .ok (.ireturn, 1) := by decide +kernel
theorem dX10_watchersOf_0 : decode cX10_watchersOf 0 = .ok (.iconst 0, 1) := by decide +kernel
theorem dX10_watchersOf_1 : decode cX10_watchersOf 1 = .ok (.istore_n 3, 1) := by decide +kernel
theorem dX10_watchersOf_2 : decode cX10_watchersOf 2 = .ok (.iconst 0, 1) := by decide +kernel
theorem dX10_watchersOf_3 : decode cX10_watchersOf 3 = .ok (.istore 4, 2) := by decide +kernel
theorem dX10_watchersOf_5 : decode cX10_watchersOf 5 = .ok (.iload 4, 2) := by decide +kernel
theorem dX10_watchersOf_7 : decode cX10_watchersOf 7 = .ok (.aload_n 1, 1) := by decide +kernel
theorem dX10_watchersOf_8 : decode cX10_watchersOf 8 = .ok (.getfield 58, 3) := by decide +kernel
theorem dX10_watchersOf_11 : decode cX10_watchersOf 11 = .ok (.if_icmp .ge 26, 3) := by decide +kernel
theorem dX10_watchersOf_14 : decode cX10_watchersOf 14 = .ok (.iload_n 3, 1) := by decide +kernel
theorem dX10_watchersOf_15 : decode cX10_watchersOf 15 = .ok (.aload_n 0, 1) := by decide +kernel
theorem dX10_watchersOf_16 : decode cX10_watchersOf 16 = .ok (.aload_n 1, 1) := by decide +kernel
theorem dX10_watchersOf_17 : decode cX10_watchersOf 17 = .ok (.iload 4, 2) := by decide +kernel
theorem dX10_watchersOf_19 : decode cX10_watchersOf 19 = .ok (.invokevirtual 68, 3) := by decide +kernel
theorem dX10_watchersOf_22 : decode cX10_watchersOf 22 = .ok (.iload_n 2, 1) := by decide +kernel
theorem dX10_watchersOf_23 : decode cX10_watchersOf 23 = .ok (.ishr, 1) := by decide +kernel
theorem dX10_watchersOf_24 : decode cX10_watchersOf 24 = .ok (.iconst 1, 1) := by decide +kernel
theorem dX10_watchersOf_25 : decode cX10_watchersOf 25 = .ok (.iand, 1) := by decide +kernel
theorem dX10_watchersOf_26 : decode cX10_watchersOf 26 = .ok (.iload 4, 2) := by decide +kernel
theorem dX10_watchersOf_28 : decode cX10_watchersOf 28 = .ok (.ishl, 1) := by decide +kernel
theorem dX10_watchersOf_29 : decode cX10_watchersOf 29 = .ok (.ior, 1) := by decide +kernel
theorem dX10_watchersOf_30 : decode cX10_watchersOf 30 = .ok (.istore_n 3, 1) := by decide +kernel
theorem dX10_watchersOf_31 : decode cX10_watchersOf 31 = .ok (.iinc 4 1, 3) := by decide +kernel
theorem dX10_watchersOf_34 : decode cX10_watchersOf 34 = .ok (.goto (-29), 3) := by decide +kernel
theorem dX10_watchersOf_37 : decode cX10_watchersOf 37 = .ok (.iload_n 3, 1) := by decide +kernel
theorem dX10_watchersOf_38 : decode cX10_watchersOf 38 = .ok (.ireturn, 1) := by decide +kernel
theorem dX10_canStep_0 : decode cX10_canStep 0 = .ok (.iload_n 2, 1) := by decide +kernel
theorem dX10_canStep_1 : decode cX10_canStep 1 = .ok (.ifCond .lt 28, 3) := by decide +kernel
theorem dX10_canStep_4 : decode cX10_canStep 4 = .ok (.iload_n 2, 1) := by decide +kernel
theorem dX10_canStep_5 : decode cX10_canStep 5 = .ok (.bipush 10, 2) := by decide +kernel
theorem dX10_canStep_7 : decode cX10_canStep 7 = .ok (.if_icmp .ge 22, 3) := by decide +kernel
theorem dX10_canStep_10 : decode cX10_canStep 10 = .ok (.iload_n 2, 1) := by decide +kernel
theorem dX10_canStep_11 : decode cX10_canStep 11 = .ok (.aload_n 0, 1) := by decide +kernel
theorem dX10_canStep_12 : decode cX10_canStep 12 = .ok (.getfield 27, 3) := by decide +kernel
theorem dX10_canStep_15 : decode cX10_canStep 15 = .ok (.iload_n 1, 1) := by decide +kernel
theorem dX10_canStep_16 : decode cX10_canStep 16 = .ok (.iaload, 1) := by decide +kernel
theorem dX10_canStep_17 : decode cX10_canStep 17 = .ok (.isub, 1) := by decide +kernel
theorem dX10_canStep_18 : decode cX10_canStep 18 = .ok (.invokestatic 72, 3) := by decide +kernel
theorem dX10_canStep_21 : decode cX10_canStep 21 = .ok (.iconst 1, 1) := by decide +kernel
theorem dX10_canStep_22 : decode cX10_canStep 22 = .ok (.if_icmp .ne 7, 3) := by decide +kernel
theorem dX10_canStep_25 : decode cX10_canStep 25 = .ok (.iconst 1, 1) := by decide +kernel
theorem dX10_canStep_26 : decode cX10_canStep 26 = .ok (.goto 4, 3) := by decide +kernel
theorem dX10_canStep_29 : decode cX10_canStep 29 = .ok (.iconst 0, 1) := by decide +kernel
theorem dX10_canStep_30 : decode cX10_canStep 30 = .ok (.ireturn, 1) := by decide +kernel
theorem dX10_steps_0 : decode cX10_steps 0 = .ok (.aload_n 0, 1) := by decide +kernel
theorem dX10_steps_1 : decode cX10_steps 1 = .ok (.iload_n 1, 1) := by decide +kernel
theorem dX10_steps_2 : decode cX10_steps 2 = .ok (.iload_n 2, 1) := by decide +kernel
theorem dX10_steps_3 : decode cX10_steps 3 = .ok (.invokevirtual 77, 3) := by decide +kernel
theorem dX10_steps_6 : decode cX10_steps 6 = .ok (.ifCond .ne 5, 3) := by decide +kernel
theorem dX10_steps_9 : decode cX10_steps 9 = .ok (.iconst 0, 1) := by decide +kernel
theorem dX10_steps_10 : decode cX10_steps 10 = .ok (.ireturn, 1) := by decide +kernel
theorem dX10_steps_11 : decode cX10_steps 11 = .ok (.aload_n 0, 1) := by decide +kernel
theorem dX10_steps_12 : decode cX10_steps 12 = .ok (.getfield 27, 3) := by decide +kernel
theorem dX10_steps_15 : decode cX10_steps 15 = .ok (.iload_n 1, 1) := by decide +kernel
theorem dX10_steps_16 : decode cX10_steps 16 = .ok (.iload_n 2, 1) := by decide +kernel
theorem dX10_steps_17 : decode cX10_steps 17 = .ok (.iastore, 1) := by decide +kernel
theorem dX10_steps_18 : decode cX10_steps 18 = .ok (.iconst 1, 1) := by decide +kernel
theorem dX10_steps_19 : decode cX10_steps 19 = .ok (.ireturn, 1) := by decide +kernel
theorem dX10_act_0 : decode cX10_act 0 = .ok (.aload_n 0, 1) := by decide +kernel
theorem dX10_act_1 : decode cX10_act 1 = .ok (.getfield 27, 3) := by decide +kernel
theorem dX10_act_4 : decode cX10_act 4 = .ok (.iload_n 2, 1) := by decide +kernel
theorem dX10_act_5 : decode cX10_act 5 = .ok (.iaload, 1) := by decide +kernel
theorem dX10_act_6 : decode cX10_act 6 = .ok (.istore 4, 2) := by decide +kernel
theorem dX10_act_8 : decode cX10_act 8 = .ok (.aload_n 0, 1) := by decide +kernel
theorem dX10_act_9 : decode cX10_act 9 = .ok (.aload_n 1, 1) := by decide +kernel
theorem dX10_act_10 : decode cX10_act 10 = .ok (.iload 4, 2) := by decide +kernel
theorem dX10_act_12 : decode cX10_act 12 = .ok (.invokevirtual 81, 3) := by decide +kernel
theorem dX10_act_15 : decode cX10_act 15 = .ok (.istore 5, 2) := by decide +kernel
theorem dX10_act_17 : decode cX10_act 17 = .ok (.iconst 0, 1) := by decide +kernel
theorem dX10_act_18 : decode cX10_act 18 = .ok (.istore 6, 2) := by decide +kernel
theorem dX10_act_20 : decode cX10_act 20 = .ok (.iload 6, 2) := by decide +kernel
theorem dX10_act_22 : decode cX10_act 22 = .ok (.aload_n 1, 1) := by decide +kernel
theorem dX10_act_23 : decode cX10_act 23 = .ok (.getfield 58, 3) := by decide +kernel
theorem dX10_act_26 : decode cX10_act 26 = .ok (.if_icmp .ge 43, 3) := by decide +kernel
theorem dX10_act_29 : decode cX10_act 29 = .ok (.iload 5, 2) := by decide +kernel
theorem dX10_act_31 : decode cX10_act 31 = .ok (.iload 6, 2) := by decide +kernel
theorem dX10_act_33 : decode cX10_act 33 = .ok (.ishr, 1) := by decide +kernel
theorem dX10_act_34 : decode cX10_act 34 = .ok (.iconst 1, 1) := by decide +kernel
theorem dX10_act_35 : decode cX10_act 35 = .ok (.iand, 1) := by decide +kernel
theorem dX10_act_36 : decode cX10_act 36 = .ok (.ifCond .eq 27, 3) := by decide +kernel
theorem dX10_act_39 : decode cX10_act 39 = .ok (.aload_n 0, 1) := by decide +kernel
theorem dX10_act_40 : decode cX10_act 40 = .ok (.iload 6, 2) := by decide +kernel
theorem dX10_act_42 : decode cX10_act 42 = .ok (.aload_n 1, 1) := by decide +kernel
theorem dX10_act_43 : decode cX10_act 43 = .ok (.getfield 84, 3) := by decide +kernel
theorem dX10_act_46 : decode cX10_act 46 = .ok (.iload 6, 2) := by decide +kernel
theorem dX10_act_48 : decode cX10_act 48 = .ok (.iaload, 1) := by decide +kernel
theorem dX10_act_49 : decode cX10_act 49 = .ok (.iload_n 2, 1) := by decide +kernel
theorem dX10_act_50 : decode cX10_act 50 = .ok (.bipush 7, 2) := by decide +kernel
theorem dX10_act_52 : decode cX10_act 52 = .ok (.ishl, 1) := by decide +kernel
theorem dX10_act_53 : decode cX10_act 53 = .ok (.iload_n 3, 1) := by decide +kernel
theorem dX10_act_54 : decode cX10_act 54 = .ok (.iconst 4, 1) := by decide +kernel
theorem dX10_act_55 : decode cX10_act 55 = .ok (.ishl, 1) := by decide +kernel
theorem dX10_act_56 : decode cX10_act 56 = .ok (.ior, 1) := by decide +kernel
theorem dX10_act_57 : decode cX10_act 57 = .ok (.iload 4, 2) := by decide +kernel
theorem dX10_act_59 : decode cX10_act 59 = .ok (.ior, 1) := by decide +kernel
theorem dX10_act_60 : decode cX10_act 60 = .ok (.invokevirtual 87, 3) := by decide +kernel
theorem dX10_act_63 : decode cX10_act 63 = .ok (.iinc 6 1, 3) := by decide +kernel
theorem dX10_act_66 : decode cX10_act 66 = .ok (.goto (-46), 3) := by decide +kernel
theorem dX10_act_69 : decode cX10_act 69 = .ok (.iload 5, 2) := by decide +kernel
theorem dX10_act_71 : decode cX10_act 71 = .ok (.ireturn, 1) := by decide +kernel
theorem dX10_addMark_0 : decode cX10_addMark 0 = .ok (.aload_n 0, 1) := by decide +kernel
theorem dX10_addMark_1 : decode cX10_addMark 1 = .ok (.getfield 31, 3) := by decide +kernel
theorem dX10_addMark_4 : decode cX10_addMark 4 = .ok (.iload_n 1, 1) := by decide +kernel
theorem dX10_addMark_5 : decode cX10_addMark 5 = .ok (.iaload, 1) := by decide +kernel
theorem dX10_addMark_6 : decode cX10_addMark 6 = .ok (.iload_n 2, 1) := by decide +kernel
theorem dX10_addMark_7 : decode cX10_addMark 7 = .ok (.if_icmp .lt 9, 3) := by decide +kernel
theorem dX10_addMark_10 : decode cX10_addMark 10 = .ok (.aload_n 0, 1) := by decide +kernel
theorem dX10_addMark_11 : decode cX10_addMark 11 = .ok (.iload_n 1, 1) := by decide +kernel
theorem dX10_addMark_12 : decode cX10_addMark 12 = .ok (.iconst 0, 1) := by decide +kernel
theorem dX10_addMark_13 : decode cX10_addMark 13 = .ok (.invokevirtual 91, 3) := by decide +kernel
theorem dX10_addMark_16 : decode cX10_addMark 16 = .ok (.aload_n 0, 1) := by decide +kernel
theorem dX10_addMark_17 : decode cX10_addMark 17 = .ok (.getfield 34, 3) := by decide +kernel
theorem dX10_addMark_20 : decode cX10_addMark 20 = .ok (.iload_n 1, 1) := by decide +kernel
theorem dX10_addMark_21 : decode cX10_addMark 21 = .ok (.bipush 6, 2) := by decide +kernel
theorem dX10_addMark_23 : decode cX10_addMark 23 = .ok (.imul, 1) := by decide +kernel
theorem dX10_addMark_24 : decode cX10_addMark 24 = .ok (.aload_n 0, 1) := by decide +kernel
theorem dX10_addMark_25 : decode cX10_addMark 25 = .ok (.getfield 31, 3) := by decide +kernel
theorem dX10_addMark_28 : decode cX10_addMark 28 = .ok (.iload_n 1, 1) := by decide +kernel
theorem dX10_addMark_29 : decode cX10_addMark 29 = .ok (.iaload, 1) := by decide +kernel
theorem dX10_addMark_30 : decode cX10_addMark 30 = .ok (.iadd, 1) := by decide +kernel
theorem dX10_addMark_31 : decode cX10_addMark 31 = .ok (.iload_n 3, 1) := by decide +kernel
theorem dX10_addMark_32 : decode cX10_addMark 32 = .ok (.iastore, 1) := by decide +kernel
theorem dX10_addMark_33 : decode cX10_addMark 33 = .ok (.aload_n 0, 1) := by decide +kernel
theorem dX10_addMark_34 : decode cX10_addMark 34 = .ok (.getfield 31, 3) := by decide +kernel
theorem dX10_addMark_37 : decode cX10_addMark 37 = .ok (.iload_n 1, 1) := by decide +kernel
theorem dX10_addMark_38 : decode cX10_addMark 38 = .ok (.dup2, 1) := by decide +kernel
theorem dX10_addMark_39 : decode cX10_addMark 39 = .ok (.iaload, 1) := by decide +kernel
theorem dX10_addMark_40 : decode cX10_addMark 40 = .ok (.iconst 1, 1) := by decide +kernel
theorem dX10_addMark_41 : decode cX10_addMark 41 = .ok (.iadd, 1) := by decide +kernel
theorem dX10_addMark_42 : decode cX10_addMark 42 = .ok (.iastore, 1) := by decide +kernel
theorem dX10_addMark_43 : decode cX10_addMark 43 = .ok (.return_, 1) := by decide +kernel
theorem dX10_dropMark_0 : decode cX10_dropMark 0 = .ok (.aload_n 0, 1) := by decide +kernel
theorem dX10_dropMark_1 : decode cX10_dropMark 1 = .ok (.getfield 31, 3) := by decide +kernel
theorem dX10_dropMark_4 : decode cX10_dropMark 4 = .ok (.iload_n 1, 1) := by decide +kernel
theorem dX10_dropMark_5 : decode cX10_dropMark 5 = .ok (.dup2, 1) := by decide +kernel
theorem dX10_dropMark_6 : decode cX10_dropMark 6 = .ok (.iaload, 1) := by decide +kernel
theorem dX10_dropMark_7 : decode cX10_dropMark 7 = .ok (.iconst 1, 1) := by decide +kernel
theorem dX10_dropMark_8 : decode cX10_dropMark 8 = .ok (.isub, 1) := by decide +kernel
theorem dX10_dropMark_9 : decode cX10_dropMark 9 = .ok (.iastore, 1) := by decide +kernel
theorem dX10_dropMark_10 : decode cX10_dropMark 10 = .ok (.iload_n 1, 1) := by decide +kernel
theorem dX10_dropMark_11 : decode cX10_dropMark 11 = .ok (.bipush 6, 2) := by decide +kernel
theorem dX10_dropMark_13 : decode cX10_dropMark 13 = .ok (.imul, 1) := by decide +kernel
theorem dX10_dropMark_14 : decode cX10_dropMark 14 = .ok (.istore_n 3, 1) := by decide +kernel
theorem dX10_dropMark_15 : decode cX10_dropMark 15 = .ok (.iload_n 3, 1) := by decide +kernel
theorem dX10_dropMark_16 : decode cX10_dropMark 16 = .ok (.iload_n 2, 1) := by decide +kernel
theorem dX10_dropMark_17 : decode cX10_dropMark 17 = .ok (.iadd, 1) := by decide +kernel
theorem dX10_dropMark_18 : decode cX10_dropMark 18 = .ok (.istore 4, 2) := by decide +kernel
theorem dX10_dropMark_20 : decode cX10_dropMark 20 = .ok (.iload 4, 2) := by decide +kernel
theorem dX10_dropMark_22 : decode cX10_dropMark 22 = .ok (.iload_n 3, 1) := by decide +kernel
theorem dX10_dropMark_23 : decode cX10_dropMark 23 = .ok (.aload_n 0, 1) := by decide +kernel
theorem dX10_dropMark_24 : decode cX10_dropMark 24 = .ok (.getfield 31, 3) := by decide +kernel
theorem dX10_dropMark_27 : decode cX10_dropMark 27 = .ok (.iload_n 1, 1) := by decide +kernel
theorem dX10_dropMark_28 : decode cX10_dropMark 28 = .ok (.iaload, 1) := by decide +kernel
theorem dX10_dropMark_29 : decode cX10_dropMark 29 = .ok (.iadd, 1) := by decide +kernel
theorem dX10_dropMark_30 : decode cX10_dropMark 30 = .ok (.if_icmp .ge 25, 3) := by decide +kernel
theorem dX10_dropMark_33 : decode cX10_dropMark 33 = .ok (.aload_n 0, 1) := by decide +kernel
theorem dX10_dropMark_34 : decode cX10_dropMark 34 = .ok (.getfield 34, 3) := by decide +kernel
theorem dX10_dropMark_37 : decode cX10_dropMark 37 = .ok (.iload 4, 2) := by decide +kernel
theorem dX10_dropMark_39 : decode cX10_dropMark 39 = .ok (.aload_n 0, 1) := by decide +kernel
theorem dX10_dropMark_40 : decode cX10_dropMark 40 = .ok (.getfield 34, 3) := by decide +kernel
theorem dX10_dropMark_43 : decode cX10_dropMark 43 = .ok (.iload 4, 2) := by decide +kernel
theorem dX10_dropMark_45 : decode cX10_dropMark 45 = .ok (.iconst 1, 1) := by decide +kernel
theorem dX10_dropMark_46 : decode cX10_dropMark 46 = .ok (.iadd, 1) := by decide +kernel
theorem dX10_dropMark_47 : decode cX10_dropMark 47 = .ok (.iaload, 1) := by decide +kernel
theorem dX10_dropMark_48 : decode cX10_dropMark 48 = .ok (.iastore, 1) := by decide +kernel
theorem dX10_dropMark_49 : decode cX10_dropMark 49 = .ok (.iinc 4 1, 3) := by decide +kernel
theorem dX10_dropMark_52 : decode cX10_dropMark 52 = .ok (.goto (-32), 3) := by decide +kernel
theorem dX10_dropMark_55 : decode cX10_dropMark 55 = .ok (.return_, 1) := by decide +kernel
theorem dX10_canRinse_0 : decode cX10_canRinse 0 = .ok (.aload_n 0, 1) := by decide +kernel
theorem dX10_canRinse_1 : decode cX10_canRinse 1 = .ok (.iload_n 1, 1) := by decide +kernel
theorem dX10_canRinse_2 : decode cX10_canRinse 2 = .ok (.invokevirtual 48, 3) := by decide +kernel
theorem dX10_canRinse_5 : decode cX10_canRinse 5 = .ok (.ifCond .ne 16, 3) := by decide +kernel
theorem dX10_canRinse_8 : decode cX10_canRinse 8 = .ok (.aload_n 0, 1) := by decide +kernel
theorem dX10_canRinse_9 : decode cX10_canRinse 9 = .ok (.getfield 31, 3) := by decide +kernel
theorem dX10_canRinse_12 : decode cX10_canRinse 12 = .ok (.iload_n 1, 1) := by decide +kernel
theorem dX10_canRinse_13 : decode cX10_canRinse 13 = .ok (.iaload, 1) := by decide +kernel
theorem dX10_canRinse_14 : decode cX10_canRinse 14 = .ok (.ifCond .le 7, 3) := by decide +kernel
theorem dX10_canRinse_17 : decode cX10_canRinse 17 = .ok (.iconst 1, 1) := by decide +kernel
theorem dX10_canRinse_18 : decode cX10_canRinse 18 = .ok (.goto 4, 3) := by decide +kernel
theorem dX10_canRinse_21 : decode cX10_canRinse 21 = .ok (.iconst 0, 1) := by decide +kernel
theorem dX10_canRinse_22 : decode cX10_canRinse 22 = .ok (.ireturn, 1) := by decide +kernel
theorem dX10_rinses_0 : decode cX10_rinses 0 = .ok (.aload_n 0, 1) := by decide +kernel
theorem dX10_rinses_1 : decode cX10_rinses 1 = .ok (.iload_n 1, 1) := by decide +kernel
theorem dX10_rinses_2 : decode cX10_rinses 2 = .ok (.invokevirtual 95, 3) := by decide +kernel
theorem dX10_rinses_5 : decode cX10_rinses 5 = .ok (.ifCond .ne 5, 3) := by decide +kernel
theorem dX10_rinses_8 : decode cX10_rinses 8 = .ok (.iconst 0, 1) := by decide +kernel
theorem dX10_rinses_9 : decode cX10_rinses 9 = .ok (.ireturn, 1) := by decide +kernel
theorem dX10_rinses_10 : decode cX10_rinses 10 = .ok (.aload_n 0, 1) := by decide +kernel
theorem dX10_rinses_11 : decode cX10_rinses 11 = .ok (.getfield 31, 3) := by decide +kernel
theorem dX10_rinses_14 : decode cX10_rinses 14 = .ok (.iload_n 1, 1) := by decide +kernel
theorem dX10_rinses_15 : decode cX10_rinses 15 = .ok (.dup2, 1) := by decide +kernel
theorem dX10_rinses_16 : decode cX10_rinses 16 = .ok (.iaload, 1) := by decide +kernel
theorem dX10_rinses_17 : decode cX10_rinses 17 = .ok (.iconst 1, 1) := by decide +kernel
theorem dX10_rinses_18 : decode cX10_rinses 18 = .ok (.isub, 1) := by decide +kernel
theorem dX10_rinses_19 : decode cX10_rinses 19 = .ok (.iastore, 1) := by decide +kernel
theorem dX10_rinses_20 : decode cX10_rinses 20 = .ok (.iconst 1, 1) := by decide +kernel
theorem dX10_rinses_21 : decode cX10_rinses 21 = .ok (.ireturn, 1) := by decide +kernel
theorem dX10_pulls_0 : decode cX10_pulls 0 = .ok (.aload_n 0, 1) := by decide +kernel
theorem dX10_pulls_1 : decode cX10_pulls 1 = .ok (.iload_n 1, 1) := by decide +kernel
theorem dX10_pulls_2 : decode cX10_pulls 2 = .ok (.invokevirtual 48, 3) := by decide +kernel
theorem dX10_pulls_5 : decode cX10_pulls 5 = .ok (.ifCond .eq 5, 3) := by decide +kernel
theorem dX10_pulls_8 : decode cX10_pulls 8 = .ok (.iconst 0, 1) := by decide +kernel
theorem dX10_pulls_9 : decode cX10_pulls 9 = .ok (.ireturn, 1) := by decide +kernel
theorem dX10_pulls_10 : decode cX10_pulls 10 = .ok (.aload_n 0, 1) := by decide +kernel
theorem dX10_pulls_11 : decode cX10_pulls 11 = .ok (.dup, 1) := by decide +kernel
theorem dX10_pulls_12 : decode cX10_pulls 12 = .ok (.getfield 15, 3) := by decide +kernel
theorem dX10_pulls_15 : decode cX10_pulls 15 = .ok (.iconst 1, 1) := by decide +kernel
theorem dX10_pulls_16 : decode cX10_pulls 16 = .ok (.iload_n 1, 1) := by decide +kernel
theorem dX10_pulls_17 : decode cX10_pulls 17 = .ok (.ishl, 1) := by decide +kernel
theorem dX10_pulls_18 : decode cX10_pulls 18 = .ok (.ixor, 1) := by decide +kernel
theorem dX10_pulls_19 : decode cX10_pulls 19 = .ok (.putfield 15, 3) := by decide +kernel
theorem dX10_pulls_22 : decode cX10_pulls 22 = .ok (.iconst 1, 1) := by decide +kernel
theorem dX10_pulls_23 : decode cX10_pulls 23 = .ok (.ireturn, 1) := by decide +kernel
theorem dX10_smashes_0 : decode cX10_smashes 0 = .ok (.aload_n 0, 1) := by decide +kernel
theorem dX10_smashes_1 : decode cX10_smashes 1 = .ok (.iload_n 1, 1) := by decide +kernel
theorem dX10_smashes_2 : decode cX10_smashes 2 = .ok (.invokevirtual 48, 3) := by decide +kernel
theorem dX10_smashes_5 : decode cX10_smashes 5 = .ok (.ifCond .eq 5, 3) := by decide +kernel
theorem dX10_smashes_8 : decode cX10_smashes 8 = .ok (.iconst 0, 1) := by decide +kernel
theorem dX10_smashes_9 : decode cX10_smashes 9 = .ok (.ireturn, 1) := by decide +kernel
theorem dX10_smashes_10 : decode cX10_smashes 10 = .ok (.aload_n 0, 1) := by decide +kernel
theorem dX10_smashes_11 : decode cX10_smashes 11 = .ok (.dup, 1) := by decide +kernel
theorem dX10_smashes_12 : decode cX10_smashes 12 = .ok (.getfield 18, 3) := by decide +kernel
theorem dX10_smashes_15 : decode cX10_smashes 15 = .ok (.iconst 1, 1) := by decide +kernel
theorem dX10_smashes_16 : decode cX10_smashes 16 = .ok (.iload_n 1, 1) := by decide +kernel
theorem dX10_smashes_17 : decode cX10_smashes 17 = .ok (.ishl, 1) := by decide +kernel
theorem dX10_smashes_18 : decode cX10_smashes 18 = .ok (.ior, 1) := by decide +kernel
theorem dX10_smashes_19 : decode cX10_smashes 19 = .ok (.putfield 18, 3) := by decide +kernel
theorem dX10_smashes_22 : decode cX10_smashes 22 = .ok (.iconst 1, 1) := by decide +kernel
theorem dX10_smashes_23 : decode cX10_smashes 23 = .ok (.ireturn, 1) := by decide +kernel
theorem dX10_pass_0 : decode cX10_pass 0 = .ok (.iconst 0, 1) := by decide +kernel
theorem dX10_pass_1 : decode cX10_pass 1 = .ok (.istore_n 2, 1) := by decide +kernel
theorem dX10_pass_2 : decode cX10_pass 2 = .ok (.aload_n 1, 1) := by decide +kernel
theorem dX10_pass_3 : decode cX10_pass 3 = .ok (.aload_n 0, 1) := by decide +kernel
theorem dX10_pass_4 : decode cX10_pass 4 = .ok (.getfield 11, 3) := by decide +kernel
theorem dX10_pass_7 : decode cX10_pass 7 = .ok (.invokevirtual 61, 3) := by decide +kernel
theorem dX10_pass_10 : decode cX10_pass 10 = .ok (.istore_n 3, 1) := by decide +kernel
theorem dX10_pass_11 : decode cX10_pass 11 = .ok (.iconst 0, 1) := by decide +kernel
theorem dX10_pass_12 : decode cX10_pass 12 = .ok (.istore 4, 2) := by decide +kernel
theorem dX10_pass_14 : decode cX10_pass 14 = .ok (.iload 4, 2) := by decide +kernel
theorem dX10_pass_16 : decode cX10_pass 16 = .ok (.aload_n 1, 1) := by decide +kernel
theorem dX10_pass_17 : decode cX10_pass 17 = .ok (.getfield 58, 3) := by decide +kernel
theorem dX10_pass_20 : decode cX10_pass 20 = .ok (.if_icmp .ge 29, 3) := by decide +kernel
theorem dX10_pass_23 : decode cX10_pass 23 = .ok (.aload_n 0, 1) := by decide +kernel
theorem dX10_pass_24 : decode cX10_pass 24 = .ok (.iload 4, 2) := by decide +kernel
theorem dX10_pass_26 : decode cX10_pass 26 = .ok (.invokevirtual 48, 3) := by decide +kernel
theorem dX10_pass_29 : decode cX10_pass 29 = .ok (.ifCond .ne 14, 3) := by decide +kernel
theorem dX10_pass_32 : decode cX10_pass 32 = .ok (.iload_n 2, 1) := by decide +kernel
theorem dX10_pass_33 : decode cX10_pass 33 = .ok (.aload_n 0, 1) := by decide +kernel
theorem dX10_pass_34 : decode cX10_pass 34 = .ok (.aload_n 1, 1) := by decide +kernel
theorem dX10_pass_35 : decode cX10_pass 35 = .ok (.iload 4, 2) := by decide +kernel
theorem dX10_pass_37 : decode cX10_pass 37 = .ok (.iload_n 3, 1) := by decide +kernel
theorem dX10_pass_38 : decode cX10_pass 38 = .ok (.invokevirtual 98, 3) := by decide +kernel
theorem dX10_pass_41 : decode cX10_pass 41 = .ok (.iadd, 1) := by decide +kernel
theorem dX10_pass_42 : decode cX10_pass 42 = .ok (.istore_n 2, 1) := by decide +kernel
theorem dX10_pass_43 : decode cX10_pass 43 = .ok (.iinc 4 1, 3) := by decide +kernel
theorem dX10_pass_46 : decode cX10_pass 46 = .ok (.goto (-32), 3) := by decide +kernel
theorem dX10_pass_49 : decode cX10_pass 49 = .ok (.aload_n 0, 1) := by decide +kernel
theorem dX10_pass_50 : decode cX10_pass 50 = .ok (.dup, 1) := by decide +kernel
theorem dX10_pass_51 : decode cX10_pass 51 = .ok (.getfield 11, 3) := by decide +kernel
theorem dX10_pass_54 : decode cX10_pass 54 = .ok (.iconst 1, 1) := by decide +kernel
theorem dX10_pass_55 : decode cX10_pass 55 = .ok (.iadd, 1) := by decide +kernel
theorem dX10_pass_56 : decode cX10_pass 56 = .ok (.putfield 11, 3) := by decide +kernel
theorem dX10_pass_59 : decode cX10_pass 59 = .ok (.iload_n 2, 1) := by decide +kernel
theorem dX10_pass_60 : decode cX10_pass 60 = .ok (.ireturn, 1) := by decide +kernel
theorem dX10_fade_0 : decode cX10_fade 0 = .ok (.aload_n 0, 1) := by decide +kernel
theorem dX10_fade_1 : decode cX10_fade 1 = .ok (.getfield 31, 3) := by decide +kernel
theorem dX10_fade_4 : decode cX10_fade 4 = .ok (.iload_n 2, 1) := by decide +kernel
theorem dX10_fade_5 : decode cX10_fade 5 = .ok (.iaload, 1) := by decide +kernel
theorem dX10_fade_6 : decode cX10_fade 6 = .ok (.istore 4, 2) := by decide +kernel
theorem dX10_fade_8 : decode cX10_fade 8 = .ok (.iconst 0, 1) := by decide +kernel
theorem dX10_fade_9 : decode cX10_fade 9 = .ok (.istore 5, 2) := by decide +kernel
theorem dX10_fade_11 : decode cX10_fade 11 = .ok (.iconst 0, 1) := by decide +kernel
theorem dX10_fade_12 : decode cX10_fade 12 = .ok (.istore 6, 2) := by decide +kernel
theorem dX10_fade_14 : decode cX10_fade 14 = .ok (.iload 6, 2) := by decide +kernel
theorem dX10_fade_16 : decode cX10_fade 16 = .ok (.iload 4, 2) := by decide +kernel
theorem dX10_fade_18 : decode cX10_fade 18 = .ok (.if_icmp .ge 90, 3) := by decide +kernel
theorem dX10_fade_21 : decode cX10_fade 21 = .ok (.aload_n 0, 1) := by decide +kernel
theorem dX10_fade_22 : decode cX10_fade 22 = .ok (.iload_n 2, 1) := by decide +kernel
theorem dX10_fade_23 : decode cX10_fade 23 = .ok (.iload 5, 2) := by decide +kernel
theorem dX10_fade_25 : decode cX10_fade 25 = .ok (.invokevirtual 102, 3) := by decide +kernel
theorem dX10_fade_28 : decode cX10_fade 28 = .ok (.sipush 1024, 3) := by decide +kernel
theorem dX10_fade_31 : decode cX10_fade 31 = .ok (.iadd, 1) := by decide +kernel
theorem dX10_fade_32 : decode cX10_fade 32 = .ok (.istore 7, 2) := by decide +kernel
theorem dX10_fade_34 : decode cX10_fade 34 = .ok (.aload_n 1, 1) := by decide +kernel
theorem dX10_fade_35 : decode cX10_fade 35 = .ok (.getfield 106, 3) := by decide +kernel
theorem dX10_fade_38 : decode cX10_fade 38 = .ok (.iload 7, 2) := by decide +kernel
theorem dX10_fade_40 : decode cX10_fade 40 = .ok (.invokestatic 109, 3) := by decide +kernel
theorem dX10_fade_43 : decode cX10_fade 43 = .ok (.iaload, 1) := by decide +kernel
theorem dX10_fade_44 : decode cX10_fade 44 = .ok (.istore 8, 2) := by decide +kernel
theorem dX10_fade_46 : decode cX10_fade 46 = .ok (.aload_n 1, 1) := by decide +kernel
theorem dX10_fade_47 : decode cX10_fade 47 = .ok (.getfield 112, 3) := by decide +kernel
theorem dX10_fade_50 : decode cX10_fade 50 = .ok (.iload 7, 2) := by decide +kernel
theorem dX10_fade_52 : decode cX10_fade 52 = .ok (.invokestatic 116, 3) := by decide +kernel
theorem dX10_fade_55 : decode cX10_fade 55 = .ok (.iload 8, 2) := by decide +kernel
theorem dX10_fade_57 : decode cX10_fade 57 = .ok (.iload_n 3, 1) := by decide +kernel
theorem dX10_fade_58 : decode cX10_fade 58 = .ok (.aload_n 0, 1) := by decide +kernel
theorem dX10_fade_59 : decode cX10_fade 59 = .ok (.getfield 31, 3) := by decide +kernel
theorem dX10_fade_62 : decode cX10_fade 62 = .ok (.iload_n 2, 1) := by decide +kernel
theorem dX10_fade_63 : decode cX10_fade 63 = .ok (.iaload, 1) := by decide +kernel
theorem dX10_fade_64 : decode cX10_fade 64 = .ok (.iconst 1, 1) := by decide +kernel
theorem dX10_fade_65 : decode cX10_fade 65 = .ok (.isub, 1) := by decide +kernel
theorem dX10_fade_66 : decode cX10_fade 66 = .ok (.iload 5, 2) := by decide +kernel
theorem dX10_fade_68 : decode cX10_fade 68 = .ok (.isub, 1) := by decide +kernel
theorem dX10_fade_69 : decode cX10_fade 69 = .ok (.invokevirtual 119, 3) := by decide +kernel
theorem dX10_fade_72 : decode cX10_fade 72 = .ok (.ifCond .eq 13, 3) := by decide +kernel
theorem dX10_fade_75 : decode cX10_fade 75 = .ok (.aload_n 0, 1) := by decide +kernel
theorem dX10_fade_76 : decode cX10_fade 76 = .ok (.iload_n 2, 1) := by decide +kernel
theorem dX10_fade_77 : decode cX10_fade 77 = .ok (.iload 5, 2) := by decide +kernel
theorem dX10_fade_79 : decode cX10_fade 79 = .ok (.invokevirtual 91, 3) := by decide +kernel
theorem dX10_fade_82 : decode cX10_fade 82 = .ok (.goto 20, 3) := by decide +kernel
theorem dX10_fade_85 : decode cX10_fade 85 = .ok (.aload_n 0, 1) := by decide +kernel
theorem dX10_fade_86 : decode cX10_fade 86 = .ok (.getfield 34, 3) := by decide +kernel
theorem dX10_fade_89 : decode cX10_fade 89 = .ok (.iload_n 2, 1) := by decide +kernel
theorem dX10_fade_90 : decode cX10_fade 90 = .ok (.bipush 6, 2) := by decide +kernel
theorem dX10_fade_92 : decode cX10_fade 92 = .ok (.imul, 1) := by decide +kernel
theorem dX10_fade_93 : decode cX10_fade 93 = .ok (.iload 5, 2) := by decide +kernel
theorem dX10_fade_95 : decode cX10_fade 95 = .ok (.iadd, 1) := by decide +kernel
theorem dX10_fade_96 : decode cX10_fade 96 = .ok (.iload 7, 2) := by decide +kernel
theorem dX10_fade_98 : decode cX10_fade 98 = .ok (.iastore, 1) := by decide +kernel
theorem dX10_fade_99 : decode cX10_fade 99 = .ok (.iinc 5 1, 3) := by decide +kernel
theorem dX10_fade_102 : decode cX10_fade 102 = .ok (.iinc 6 1, 3) := by decide +kernel
theorem dX10_fade_105 : decode cX10_fade 105 = .ok (.goto (-91), 3) := by decide +kernel
theorem dX10_fade_108 : decode cX10_fade 108 = .ok (.iload 4, 2) := by decide +kernel
theorem dX10_fade_110 : decode cX10_fade 110 = .ok (.iload 5, 2) := by decide +kernel
theorem dX10_fade_112 : decode cX10_fade 112 = .ok (.isub, 1) := by decide +kernel
theorem dX10_fade_113 : decode cX10_fade 113 = .ok (.ireturn, 1) := by decide +kernel
theorem dX11_init_0 : decode cX11_init 0 = .ok (.aload_n 0, 1) := by decide +kernel
theorem dX11_init_1 : decode cX11_init 1 = .ok (.invokespecial 1, 3) := by decide +kernel
theorem dX11_init_4 : decode cX11_init 4 = .ok (.aload_n 0, 1) := by decide +kernel
theorem dX11_init_5 : decode cX11_init 5 = .ok (.new 7, 3) := by decide +kernel
theorem dX11_init_8 : decode cX11_init 8 = .ok (.dup, 1) := by decide +kernel
theorem dX11_init_9 : decode cX11_init 9 = .ok (.invokespecial 9, 3) := by decide +kernel
theorem dX11_init_12 : decode cX11_init 12 = .ok (.putfield 10, 3) := by decide +kernel
theorem dX11_init_15 : decode cX11_init 15 = .ok (.aload_n 0, 1) := by decide +kernel
theorem dX11_init_16 : decode cX11_init 16 = .ok (.new 16, 3) := by decide +kernel
theorem dX11_init_19 : decode cX11_init 19 = .ok (.dup, 1) := by decide +kernel
theorem dX11_init_20 : decode cX11_init 20 = .ok (.invokespecial 18, 3) := by decide +kernel
theorem dX11_init_23 : decode cX11_init 23 = .ok (.putfield 19, 3) := by decide +kernel
theorem dX11_init_26 : decode cX11_init 26 = .ok (.aload_n 0, 1) := by decide +kernel
theorem dX11_init_27 : decode cX11_init 27 = .ok (.new 16, 3) := by decide +kernel
theorem dX11_init_30 : decode cX11_init 30 = .ok (.dup, 1) := by decide +kernel
theorem dX11_init_31 : decode cX11_init 31 = .ok (.invokespecial 18, 3) := by decide +kernel
theorem dX11_init_34 : decode cX11_init 34 = .ok (.putfield 23, 3) := by decide +kernel
theorem dX11_init_37 : decode cX11_init 37 = .ok (.aload_n 0, 1) := by decide +kernel
theorem dX11_init_38 : decode cX11_init 38 = .ok (.new 26, 3) := by decide +kernel
theorem dX11_init_41 : decode cX11_init 41 = .ok (.dup, 1) := by decide +kernel
theorem dX11_init_42 : decode cX11_init 42 = .ok (.invokespecial 28, 3) := by decide +kernel
theorem dX11_init_45 : decode cX11_init 45 = .ok (.putfield 29, 3) := by decide +kernel
theorem dX11_init_48 : decode cX11_init 48 = .ok (.aload_n 0, 1) := by decide +kernel
theorem dX11_init_49 : decode cX11_init 49 = .ok (.iconst 4, 1) := by decide +kernel
theorem dX11_init_50 : decode cX11_init 50 = .ok (.anewarray 16, 3) := by decide +kernel
theorem dX11_init_53 : decode cX11_init 53 = .ok (.putfield 33, 3) := by decide +kernel
theorem dX11_init_56 : decode cX11_init 56 = .ok (.aload_n 0, 1) := by decide +kernel
theorem dX11_init_57 : decode cX11_init 57 = .ok (.new 37, 3) := by decide +kernel
theorem dX11_init_60 : decode cX11_init 60 = .ok (.dup, 1) := by decide +kernel
theorem dX11_init_61 : decode cX11_init 61 = .ok (.invokespecial 39, 3) := by decide +kernel
theorem dX11_init_64 : decode cX11_init 64 = .ok (.putfield 40, 3) := by decide +kernel
theorem dX11_init_67 : decode cX11_init 67 = .ok (.aload_n 0, 1) := by decide +kernel
theorem dX11_init_68 : decode cX11_init 68 = .ok (.iconst 0, 1) := by decide +kernel
theorem dX11_init_69 : decode cX11_init 69 = .ok (.putfield 44, 3) := by decide +kernel
theorem dX11_init_72 : decode cX11_init 72 = .ok (.aload_n 0, 1) := by decide +kernel
theorem dX11_init_73 : decode cX11_init 73 = .ok (.new 48, 3) := by decide +kernel
theorem dX11_init_76 : decode cX11_init 76 = .ok (.dup, 1) := by decide +kernel
theorem dX11_init_77 : decode cX11_init 77 = .ok (.invokespecial 50, 3) := by decide +kernel
theorem dX11_init_80 : decode cX11_init 80 = .ok (.putfield 51, 3) := by decide +kernel
theorem dX11_init_83 : decode cX11_init 83 = .ok (.aload_n 0, 1) := by decide +kernel
theorem dX11_init_84 : decode cX11_init 84 = .ok (.new 48, 3) := by decide +kernel
theorem dX11_init_87 : decode cX11_init 87 = .ok (.dup, 1) := by decide +kernel
theorem dX11_init_88 : decode cX11_init 88 = .ok (.invokespecial 50, 3) := by decide +kernel
theorem dX11_init_91 : decode cX11_init 91 = .ok (.putfield 55, 3) := by decide +kernel
theorem dX11_init_94 : decode cX11_init 94 = .ok (.aload_n 0, 1) := by decide +kernel
theorem dX11_init_95 : decode cX11_init 95 = .ok (.new 58, 3) := by decide +kernel
theorem dX11_init_98 : decode cX11_init 98 = .ok (.dup, 1) := by decide +kernel
theorem dX11_init_99 : decode cX11_init 99 = .ok (.invokespecial 60, 3) := by decide +kernel
theorem dX11_init_102 : decode cX11_init 102 = .ok (.putfield 61, 3) := by decide +kernel
theorem dX11_init_105 : decode cX11_init 105 = .ok (.aload_n 0, 1) := by decide +kernel
theorem dX11_init_106 : decode cX11_init 106 = .ok (.new 58, 3) := by decide +kernel
theorem dX11_init_109 : decode cX11_init 109 = .ok (.dup, 1) := by decide +kernel
theorem dX11_init_110 : decode cX11_init 110 = .ok (.invokespecial 60, 3) := by decide +kernel
theorem dX11_init_113 : decode cX11_init 113 = .ok (.putfield 65, 3) := by decide +kernel
theorem dX11_init_116 : decode cX11_init 116 = .ok (.iconst 0, 1) := by decide +kernel
theorem dX11_init_117 : decode cX11_init 117 = .ok (.istore_n 1, 1) := by decide +kernel
theorem dX11_init_118 : decode cX11_init 118 = .ok (.iload_n 1, 1) := by decide +kernel
theorem dX11_init_119 : decode cX11_init 119 = .ok (.iconst 4, 1) := by decide +kernel
theorem dX11_init_120 : decode cX11_init 120 = .ok (.if_icmp .ge 22, 3) := by decide +kernel
theorem dX11_init_123 : decode cX11_init 123 = .ok (.aload_n 0, 1) := by decide +kernel
theorem dX11_init_124 : decode cX11_init 124 = .ok (.getfield 33, 3) := by decide +kernel
theorem dX11_init_127 : decode cX11_init 127 = .ok (.iload_n 1, 1) := by decide +kernel
theorem dX11_init_128 : decode cX11_init 128 = .ok (.new 16, 3) := by decide +kernel
theorem dX11_init_131 : decode cX11_init 131 = .ok (.dup, 1) := by decide +kernel
theorem dX11_init_132 : decode cX11_init 132 = .ok (.invokespecial 18, 3) := by decide +kernel
theorem dX11_init_135 : decode cX11_init 135 = .ok (.aastore, 1) := by decide +kernel
theorem dX11_init_136 : decode cX11_init 136 = .ok (.iinc 1 1, 3) := by decide +kernel
theorem dX11_init_139 : decode cX11_init 139 = .ok (.goto (-21), 3) := by decide +kernel
theorem dX11_init_142 : decode cX11_init 142 = .ok (.return_, 1) := by decide +kernel
theorem dX11_feed_0 : decode cX11_feed 0 = .ok (.aload_n 0, 1) := by decide +kernel
theorem dX11_feed_1 : decode cX11_feed 1 = .ok (.getfield 10, 3) := by decide +kernel
theorem dX11_feed_4 : decode cX11_feed 4 = .ok (.lload_n 1, 1) := by decide +kernel
theorem dX11_feed_5 : decode cX11_feed 5 = .ok (.invokevirtual 68, 3) := by decide +kernel
theorem dX11_feed_8 : decode cX11_feed 8 = .ok (.aload_n 0, 1) := by decide +kernel
theorem dX11_feed_9 : decode cX11_feed 9 = .ok (.getfield 10, 3) := by decide +kernel
theorem dX11_feed_12 : decode cX11_feed 12 = .ok (.lload_n 3, 1) := by decide +kernel
theorem dX11_feed_13 : decode cX11_feed 13 = .ok (.invokevirtual 68, 3) := by decide +kernel
theorem dX11_feed_16 : decode cX11_feed 16 = .ok (.aload_n 0, 1) := by decide +kernel
theorem dX11_feed_17 : decode cX11_feed 17 = .ok (.getfield 10, 3) := by decide +kernel
theorem dX11_feed_20 : decode cX11_feed 20 = .ok (.lload 5, 2) := by decide +kernel
theorem dX11_feed_22 : decode cX11_feed 22 = .ok (.invokevirtual 68, 3) := by decide +kernel
theorem dX11_feed_25 : decode cX11_feed 25 = .ok (.aload_n 0, 1) := by decide +kernel
theorem dX11_feed_26 : decode cX11_feed 26 = .ok (.getfield 10, 3) := by decide +kernel
theorem dX11_feed_29 : decode cX11_feed 29 = .ok (.getfield 72, 3) := by decide +kernel
theorem dX11_feed_32 : decode cX11_feed 32 = .ok (.ireturn, 1) := by decide +kernel
theorem dX11_street_0 : decode cX11_street 0 = .ok (.aload_n 0, 1) := by decide +kernel
theorem dX11_street_1 : decode cX11_street 1 = .ok (.getfield 10, 3) := by decide +kernel
theorem dX11_street_4 : decode cX11_street 4 = .ok (.aload_n 0, 1) := by decide +kernel
theorem dX11_street_5 : decode cX11_street 5 = .ok (.getfield 55, 3) := by decide +kernel
theorem dX11_street_8 : decode cX11_street 8 = .ok (.invokestatic 75, 3) := by decide +kernel
theorem dX11_street_11 : decode cX11_street 11 = .ok (.istore_n 1, 1) := by decide +kernel
theorem dX11_street_12 : decode cX11_street 12 = .ok (.aload_n 0, 1) := by decide +kernel
theorem dX11_street_13 : decode cX11_street 13 = .ok (.getfield 10, 3) := by decide +kernel
theorem dX11_street_16 : decode cX11_street 16 = .ok (.invokevirtual 81, 3) := by decide +kernel
theorem dX11_street_19 : decode cX11_street 19 = .ok (.iload_n 1, 1) := by decide +kernel
theorem dX11_street_20 : decode cX11_street 20 = .ok (.ifCond .ne 11, 3) := by decide +kernel
theorem dX11_street_23 : decode cX11_street 23 = .ok (.aload_n 0, 1) := by decide +kernel
theorem dX11_street_24 : decode cX11_street 24 = .ok (.getfield 10, 3) := by decide +kernel
theorem dX11_street_27 : decode cX11_street 27 = .ok (.getfield 84, 3) := by decide +kernel
theorem dX11_street_30 : decode cX11_street 30 = .ok (.ireturn, 1) := by decide +kernel
theorem dX11_street_31 : decode cX11_street 31 = .ok (.aload_n 0, 1) := by decide +kernel
theorem dX11_street_32 : decode cX11_street 32 = .ok (.getfield 51, 3) := by decide +kernel
theorem dX11_street_35 : decode cX11_street 35 = .ok (.astore_n 2, 1) := by decide +kernel
theorem dX11_street_36 : decode cX11_street 36 = .ok (.aload_n 0, 1) := by decide +kernel
theorem dX11_street_37 : decode cX11_street 37 = .ok (.aload_n 0, 1) := by decide +kernel
theorem dX11_street_38 : decode cX11_street 38 = .ok (.getfield 55, 3) := by decide +kernel
theorem dX11_street_41 : decode cX11_street 41 = .ok (.putfield 51, 3) := by decide +kernel
theorem dX11_street_44 : decode cX11_street 44 = .ok (.aload_n 0, 1) := by decide +kernel
theorem dX11_street_45 : decode cX11_street 45 = .ok (.aload_n 2, 1) := by decide +kernel
theorem dX11_street_46 : decode cX11_street 46 = .ok (.putfield 55, 3) := by decide +kernel
theorem dX11_street_49 : decode cX11_street 49 = .ok (.aload_n 0, 1) := by decide +kernel
theorem dX11_street_50 : decode cX11_street 50 = .ok (.getfield 19, 3) := by decide +kernel
theorem dX11_street_53 : decode cX11_street 53 = .ok (.aload_n 0, 1) := by decide +kernel
theorem dX11_street_54 : decode cX11_street 54 = .ok (.getfield 51, 3) := by decide +kernel
theorem dX11_street_57 : decode cX11_street 57 = .ok (.invokevirtual 87, 3) := by decide +kernel
theorem dX11_street_60 : decode cX11_street 60 = .ok (.aload_n 0, 1) := by decide +kernel
theorem dX11_street_61 : decode cX11_street 61 = .ok (.getfield 19, 3) := by decide +kernel
theorem dX11_street_64 : decode cX11_street 64 = .ok (.invokevirtual 91, 3) := by decide +kernel
theorem dX11_street_67 : decode cX11_street 67 = .ok (.aload_n 0, 1) := by decide +kernel
theorem dX11_street_68 : decode cX11_street 68 = .ok (.getfield 29, 3) := by decide +kernel
theorem dX11_street_71 : decode cX11_street 71 = .ok (.invokevirtual 94, 3) := by decide +kernel
theorem dX11_street_74 : decode cX11_street 74 = .ok (.aload_n 0, 1) := by decide +kernel
theorem dX11_street_75 : decode cX11_street 75 = .ok (.getfield 61, 3) := by decide +kernel
theorem dX11_street_78 : decode cX11_street 78 = .ok (.invokevirtual 95, 3) := by decide +kernel
theorem dX11_street_81 : decode cX11_street 81 = .ok (.aload_n 0, 1) := by decide +kernel
theorem dX11_street_82 : decode cX11_street 82 = .ok (.iconst 0, 1) := by decide +kernel
theorem dX11_street_83 : decode cX11_street 83 = .ok (.putfield 44, 3) := by decide +kernel
theorem dX11_street_86 : decode cX11_street 86 = .ok (.iconst 0, 1) := by decide +kernel
theorem dX11_street_87 : decode cX11_street 87 = .ok (.ireturn, 1) := by decide +kernel
theorem dX11_day_0 : decode cX11_day 0 = .ok (.aload_n 0, 1) := by decide +kernel
theorem dX11_day_1 : decode cX11_day 1 = .ok (.getfield 10, 3) := by decide +kernel
theorem dX11_day_4 : decode cX11_day 4 = .ok (.aload_n 0, 1) := by decide +kernel
theorem dX11_day_5 : decode cX11_day 5 = .ok (.getfield 51, 3) := by decide +kernel
theorem dX11_day_8 : decode cX11_day 8 = .ok (.aload_n 0, 1) := by decide +kernel
theorem dX11_day_9 : decode cX11_day 9 = .ok (.getfield 65, 3) := by decide +kernel
theorem dX11_day_12 : decode cX11_day 12 = .ok (.invokestatic 96, 3) := by decide +kernel
theorem dX11_day_15 : decode cX11_day 15 = .ok (.istore_n 1, 1) := by decide +kernel
theorem dX11_day_16 : decode cX11_day 16 = .ok (.aload_n 0, 1) := by decide +kernel
theorem dX11_day_17 : decode cX11_day 17 = .ok (.getfield 10, 3) := by decide +kernel
theorem dX11_day_20 : decode cX11_day 20 = .ok (.invokevirtual 81, 3) := by decide +kernel
theorem dX11_day_23 : decode cX11_day 23 = .ok (.iload_n 1, 1) := by decide +kernel
theorem dX11_day_24 : decode cX11_day 24 = .ok (.ifCond .ne 11, 3) := by decide +kernel
theorem dX11_day_27 : decode cX11_day 27 = .ok (.aload_n 0, 1) := by decide +kernel
theorem dX11_day_28 : decode cX11_day 28 = .ok (.getfield 10, 3) := by decide +kernel
theorem dX11_day_31 : decode cX11_day 31 = .ok (.getfield 84, 3) := by decide +kernel
theorem dX11_day_34 : decode cX11_day 34 = .ok (.ireturn, 1) := by decide +kernel
theorem dX11_day_35 : decode cX11_day 35 = .ok (.aload_n 0, 1) := by decide +kernel
theorem dX11_day_36 : decode cX11_day 36 = .ok (.getfield 61, 3) := by decide +kernel
theorem dX11_day_39 : decode cX11_day 39 = .ok (.astore_n 2, 1) := by decide +kernel
theorem dX11_day_40 : decode cX11_day 40 = .ok (.aload_n 0, 1) := by decide +kernel
theorem dX11_day_41 : decode cX11_day 41 = .ok (.aload_n 0, 1) := by decide +kernel
theorem dX11_day_42 : decode cX11_day 42 = .ok (.getfield 65, 3) := by decide +kernel
theorem dX11_day_45 : decode cX11_day 45 = .ok (.putfield 61, 3) := by decide +kernel
theorem dX11_day_48 : decode cX11_day 48 = .ok (.aload_n 0, 1) := by decide +kernel
theorem dX11_day_49 : decode cX11_day 49 = .ok (.aload_n 2, 1) := by decide +kernel
theorem dX11_day_50 : decode cX11_day 50 = .ok (.putfield 65, 3) := by decide +kernel
theorem dX11_day_53 : decode cX11_day 53 = .ok (.iconst 0, 1) := by decide +kernel
theorem dX11_day_54 : decode cX11_day 54 = .ok (.ireturn, 1) := by decide +kernel
theorem dX11_pane_0 : decode cX11_pane 0 = .ok (.aload_n 0, 1) := by decide +kernel
theorem dX11_pane_1 : decode cX11_pane 1 = .ok (.getfield 51, 3) := by decide +kernel
theorem dX11_pane_4 : decode cX11_pane 4 = .ok (.iload_n 1, 1) := by decide +kernel
theorem dX11_pane_5 : decode cX11_pane 5 = .ok (.invokevirtual 101, 3) := by decide +kernel
theorem dX11_pane_8 : decode cX11_pane 8 = .ok (.ifCond .ne 6, 3) := by decide +kernel
theorem dX11_pane_11 : decode cX11_pane 11 = .ok (.bipush (-2), 2) := by decide +kernel
theorem dX11_pane_13 : decode cX11_pane 13 = .ok (.ireturn, 1) := by decide +kernel
theorem dX11_pane_14 : decode cX11_pane 14 = .ok (.iload_n 2, 1) := by decide +kernel
theorem dX11_pane_15 : decode cX11_pane 15 = .ok (.tableswitch 114 0 5 #[37, 47, 57, 67, 84, 101], 37) := by decide +kernel
theorem dX11_pane_52 : decode cX11_pane 52 = .ok (.aload_n 0, 1) := by decide +kernel
theorem dX11_pane_53 : decode cX11_pane 53 = .ok (.getfield 51, 3) := by decide +kernel
theorem dX11_pane_56 : decode cX11_pane 56 = .ok (.getfield 105, 3) := by decide +kernel
theorem dX11_pane_59 : decode cX11_pane 59 = .ok (.iload_n 1, 1) := by decide +kernel
theorem dX11_pane_60 : decode cX11_pane 60 = .ok (.iaload, 1) := by decide +kernel
theorem dX11_pane_61 : decode cX11_pane 61 = .ok (.ireturn, 1) := by decide +kernel
theorem dX11_pane_62 : decode cX11_pane 62 = .ok (.aload_n 0, 1) := by decide +kernel
theorem dX11_pane_63 : decode cX11_pane 63 = .ok (.getfield 51, 3) := by decide +kernel
theorem dX11_pane_66 : decode cX11_pane 66 = .ok (.getfield 109, 3) := by decide +kernel
theorem dX11_pane_69 : decode cX11_pane 69 = .ok (.iload_n 1, 1) := by decide +kernel
theorem dX11_pane_70 : decode cX11_pane 70 = .ok (.iaload, 1) := by decide +kernel
theorem dX11_pane_71 : decode cX11_pane 71 = .ok (.ireturn, 1) := by decide +kernel
theorem dX11_pane_72 : decode cX11_pane 72 = .ok (.aload_n 0, 1) := by decide +kernel
theorem dX11_pane_73 : decode cX11_pane 73 = .ok (.getfield 19, 3) := by decide +kernel
theorem dX11_pane_76 : decode cX11_pane 76 = .ok (.getfield 112, 3) := by decide +kernel
theorem dX11_pane_79 : decode cX11_pane 79 = .ok (.iload_n 1, 1) := by decide +kernel
theorem dX11_pane_80 : decode cX11_pane 80 = .ok (.iaload, 1) := by decide +kernel
theorem dX11_pane_81 : decode cX11_pane 81 = .ok (.ireturn, 1) := by decide +kernel
theorem dX11_pane_82 : decode cX11_pane 82 = .ok (.aload_n 0, 1) := by decide +kernel
theorem dX11_pane_83 : decode cX11_pane 83 = .ok (.getfield 19, 3) := by decide +kernel
theorem dX11_pane_86 : decode cX11_pane 86 = .ok (.iload_n 1, 1) := by decide +kernel
theorem dX11_pane_87 : decode cX11_pane 87 = .ok (.invokevirtual 115, 3) := by decide +kernel
theorem dX11_pane_90 : decode cX11_pane 90 = .ok (.ifCond .eq 7, 3) := by decide +kernel
theorem dX11_pane_93 : decode cX11_pane 93 = .ok (.iconst 1, 1) := by decide +kernel
theorem dX11_pane_94 : decode cX11_pane 94 = .ok (.goto 4, 3) := by decide +kernel
theorem dX11_pane_97 : decode cX11_pane 97 = .ok (.iconst 0, 1) := by decide +kernel
theorem dX11_pane_98 : decode cX11_pane 98 = .ok (.ireturn, 1) := by decide +kernel
theorem dX11_pane_99 : decode cX11_pane 99 = .ok (.aload_n 0, 1) := by decide +kernel
theorem dX11_pane_100 : decode cX11_pane 100 = .ok (.getfield 19, 3) := by decide +kernel
theorem dX11_pane_103 : decode cX11_pane 103 = .ok (.iload_n 1, 1) := by decide +kernel
theorem dX11_pane_104 : decode cX11_pane 104 = .ok (.invokevirtual 118, 3) := by decide +kernel
theorem dX11_pane_107 : decode cX11_pane 107 = .ok (.ifCond .eq 7, 3) := by decide +kernel
theorem dX11_pane_110 : decode cX11_pane 110 = .ok (.iconst 1, 1) := by decide +kernel
theorem dX11_pane_111 : decode cX11_pane 111 = .ok (.goto 4, 3) := by decide +kernel
theorem dX11_pane_114 : decode cX11_pane 114 = .ok (.iconst 0, 1) := by decide +kernel
theorem dX11_pane_115 : decode cX11_pane 115 = .ok (.ireturn, 1) := by decide +kernel
theorem dX11_pane_116 : decode cX11_pane 116 = .ok (.aload_n 0, 1) := by decide +kernel
theorem dX11_pane_117 : decode cX11_pane 117 = .ok (.getfield 19, 3) := by decide +kernel
theorem dX11_pane_120 : decode cX11_pane 120 = .ok (.aload_n 0, 1) := by decide +kernel
theorem dX11_pane_121 : decode cX11_pane 121 = .ok (.getfield 51, 3) := by decide +kernel
theorem dX11_pane_124 : decode cX11_pane 124 = .ok (.iload_n 1, 1) := by decide +kernel
theorem dX11_pane_125 : decode cX11_pane 125 = .ok (.invokevirtual 121, 3) := by decide +kernel
theorem dX11_pane_128 : decode cX11_pane 128 = .ok (.ireturn, 1) := by decide +kernel
theorem dX11_pane_129 : decode cX11_pane 129 = .ok (.bipush (-2), 2) := by decide +kernel
theorem dX11_pane_131 : decode cX11_pane 131 = .ok (.ireturn, 1) := by decide +kernel
theorem dX11_shown_0 : decode cX11_shown 0 = .ok (.aload_n 0, 1) := by decide +kernel
theorem dX11_shown_1 : decode cX11_shown 1 = .ok (.getfield 51, 3) := by decide +kernel
theorem dX11_shown_4 : decode cX11_shown 4 = .ok (.iload_n 1, 1) := by decide +kernel
theorem dX11_shown_5 : decode cX11_shown 5 = .ok (.invokevirtual 101, 3) := by decide +kernel
theorem dX11_shown_8 : decode cX11_shown 8 = .ok (.ifCond .eq 31, 3) := by decide +kernel
theorem dX11_shown_11 : decode cX11_shown 11 = .ok (.aload_n 0, 1) := by decide +kernel
theorem dX11_shown_12 : decode cX11_shown 12 = .ok (.getfield 19, 3) := by decide +kernel
theorem dX11_shown_15 : decode cX11_shown 15 = .ok (.iload_n 1, 1) := by decide +kernel
theorem dX11_shown_16 : decode cX11_shown 16 = .ok (.invokevirtual 125, 3) := by decide +kernel
theorem dX11_shown_19 : decode cX11_shown 19 = .ok (.ifCond .eq 20, 3) := by decide +kernel
theorem dX11_shown_22 : decode cX11_shown 22 = .ok (.iload_n 2, 1) := by decide +kernel
theorem dX11_shown_23 : decode cX11_shown 23 = .ok (.ifCond .lt 16, 3) := by decide +kernel
theorem dX11_shown_26 : decode cX11_shown 26 = .ok (.iload_n 2, 1) := by decide +kernel
theorem dX11_shown_27 : decode cX11_shown 27 = .ok (.aload_n 0, 1) := by decide +kernel
theorem dX11_shown_28 : decode cX11_shown 28 = .ok (.getfield 19, 3) := by decide +kernel
theorem dX11_shown_31 : decode cX11_shown 31 = .ok (.getfield 112, 3) := by decide +kernel
theorem dX11_shown_34 : decode cX11_shown 34 = .ok (.iload_n 1, 1) := by decide +kernel
theorem dX11_shown_35 : decode cX11_shown 35 = .ok (.iaload, 1) := by decide +kernel
theorem dX11_shown_36 : decode cX11_shown 36 = .ok (.if_icmp .lt 6, 3) := by decide +kernel
theorem dX11_shown_39 : decode cX11_shown 39 = .ok (.bipush (-2), 2) := by decide +kernel
theorem dX11_shown_41 : decode cX11_shown 41 = .ok (.ireturn, 1) := by decide +kernel
theorem dX11_shown_42 : decode cX11_shown 42 = .ok (.aload_n 0, 1) := by decide +kernel
theorem dX11_shown_43 : decode cX11_shown 43 = .ok (.getfield 19, 3) := by decide +kernel
theorem dX11_shown_46 : decode cX11_shown 46 = .ok (.iload_n 1, 1) := by decide +kernel
theorem dX11_shown_47 : decode cX11_shown 47 = .ok (.iload_n 2, 1) := by decide +kernel
theorem dX11_shown_48 : decode cX11_shown 48 = .ok (.invokevirtual 128, 3) := by decide +kernel
theorem dX11_shown_51 : decode cX11_shown 51 = .ok (.istore 4, 2) := by decide +kernel
theorem dX11_shown_53 : decode cX11_shown 53 = .ok (.iload_n 3, 1) := by decide +kernel
theorem dX11_shown_54 : decode cX11_shown 54 = .ok (.tableswitch 73 0 3 #[30, 55, 61, 67], 30) := by decide +kernel
theorem dX11_shown_84 : decode cX11_shown 84 = .ok (.aload_n 0, 1) := by decide +kernel
theorem dX11_shown_85 : decode cX11_shown 85 = .ok (.getfield 19, 3) := by decide +kernel
theorem dX11_shown_88 : decode cX11_shown 88 = .ok (.aload_n 0, 1) := by decide +kernel
theorem dX11_shown_89 : decode cX11_shown 89 = .ok (.getfield 51, 3) := by decide +kernel
theorem dX11_shown_92 : decode cX11_shown 92 = .ok (.iload_n 1, 1) := by decide +kernel
theorem dX11_shown_93 : decode cX11_shown 93 = .ok (.invokevirtual 132, 3) := by decide +kernel
theorem dX11_shown_96 : decode cX11_shown 96 = .ok (.ifCond .eq 11, 3) := by decide +kernel
theorem dX11_shown_99 : decode cX11_shown 99 = .ok (.iload 4, 2) := by decide +kernel
theorem dX11_shown_101 : decode cX11_shown 101 = .ok (.invokestatic 136, 3) := by decide +kernel
theorem dX11_shown_104 : decode cX11_shown 104 = .ok (.goto 4, 3) := by decide +kernel
theorem dX11_shown_107 : decode cX11_shown 107 = .ok (.iconst (-1), 1) := by decide +kernel
theorem dX11_shown_108 : decode cX11_shown 108 = .ok (.ireturn, 1) := by decide +kernel
theorem dX11_shown_109 : decode cX11_shown 109 = .ok (.iload 4, 2) := by decide +kernel
theorem dX11_shown_111 : decode cX11_shown 111 = .ok (.invokestatic 140, 3) := by decide +kernel
theorem dX11_shown_114 : decode cX11_shown 114 = .ok (.ireturn, 1) := by decide +kernel
theorem dX11_shown_115 : decode cX11_shown 115 = .ok (.iload 4, 2) := by decide +kernel
theorem dX11_shown_117 : decode cX11_shown 117 = .ok (.invokestatic 143, 3) := by decide +kernel
theorem dX11_shown_120 : decode cX11_shown 120 = .ok (.ireturn, 1) := by decide +kernel
theorem dX11_shown_121 : decode cX11_shown 121 = .ok (.iload 4, 2) := by decide +kernel
theorem dX11_shown_123 : decode cX11_shown 123 = .ok (.invokestatic 146, 3) := by decide +kernel
theorem dX11_shown_126 : decode cX11_shown 126 = .ok (.ireturn, 1) := by decide +kernel
theorem dX11_shown_127 : decode cX11_shown 127 = .ok (.bipush (-2), 2) := by decide +kernel
theorem dX11_shown_129 : decode cX11_shown 129 = .ok (.ireturn, 1) := by decide +kernel
theorem dX11_person_0 : decode cX11_person 0 = .ok (.aload_n 0, 1) := by decide +kernel
theorem dX11_person_1 : decode cX11_person 1 = .ok (.getfield 51, 3) := by decide +kernel
theorem dX11_person_4 : decode cX11_person 4 = .ok (.iload_n 1, 1) := by decide +kernel
theorem dX11_person_5 : decode cX11_person 5 = .ok (.invokevirtual 149, 3) := by decide +kernel
theorem dX11_person_8 : decode cX11_person 8 = .ok (.ifCond .eq 15, 3) := by decide +kernel
theorem dX11_person_11 : decode cX11_person 11 = .ok (.aload_n 0, 1) := by decide +kernel
theorem dX11_person_12 : decode cX11_person 12 = .ok (.getfield 19, 3) := by decide +kernel
theorem dX11_person_15 : decode cX11_person 15 = .ok (.getfield 152, 3) := by decide +kernel
theorem dX11_person_18 : decode cX11_person 18 = .ok (.iload_n 1, 1) := by decide +kernel
theorem dX11_person_19 : decode cX11_person 19 = .ok (.iaload, 1) := by decide +kernel
theorem dX11_person_20 : decode cX11_person 20 = .ok (.goto 4, 3) := by decide +kernel
theorem dX11_person_23 : decode cX11_person 23 = .ok (.iconst (-1), 1) := by decide +kernel
theorem dX11_person_24 : decode cX11_person 24 = .ok (.ireturn, 1) := by decide +kernel
theorem dX11_walk_0 : decode cX11_walk 0 = .ok (.aload_n 0, 1) := by decide +kernel
theorem dX11_walk_1 : decode cX11_walk 1 = .ok (.getfield 51, 3) := by decide +kernel
theorem dX11_walk_4 : decode cX11_walk 4 = .ok (.iload_n 1, 1) := by decide +kernel
theorem dX11_walk_5 : decode cX11_walk 5 = .ok (.invokevirtual 149, 3) := by decide +kernel
theorem dX11_walk_8 : decode cX11_walk 8 = .ok (.ifCond .eq 15, 3) := by decide +kernel
theorem dX11_walk_11 : decode cX11_walk 11 = .ok (.aload_n 0, 1) := by decide +kernel
theorem dX11_walk_12 : decode cX11_walk 12 = .ok (.getfield 19, 3) := by decide +kernel
theorem dX11_walk_15 : decode cX11_walk 15 = .ok (.iload_n 1, 1) := by decide +kernel
theorem dX11_walk_16 : decode cX11_walk 16 = .ok (.iload_n 2, 1) := by decide +kernel
theorem dX11_walk_17 : decode cX11_walk 17 = .ok (.invokevirtual 155, 3) := by decide +kernel
theorem dX11_walk_20 : decode cX11_walk 20 = .ok (.ifCond .ne 5, 3) := by decide +kernel
theorem dX11_walk_23 : decode cX11_walk 23 = .ok (.iconst 0, 1) := by decide +kernel
theorem dX11_walk_24 : decode cX11_walk 24 = .ok (.ireturn, 1) := by decide +kernel
theorem dX11_walk_25 : decode cX11_walk 25 = .ok (.aload_n 0, 1) := by decide +kernel
theorem dX11_walk_26 : decode cX11_walk 26 = .ok (.getfield 29, 3) := by decide +kernel
theorem dX11_walk_29 : decode cX11_walk 29 = .ok (.aload_n 0, 1) := by decide +kernel
theorem dX11_walk_30 : decode cX11_walk 30 = .ok (.getfield 19, 3) := by decide +kernel
theorem dX11_walk_33 : decode cX11_walk 33 = .ok (.invokevirtual 159, 3) := by decide +kernel
theorem dX11_walk_36 : decode cX11_walk 36 = .ok (.aload_n 0, 1) := by decide +kernel
theorem dX11_walk_37 : decode cX11_walk 37 = .ok (.getfield 19, 3) := by decide +kernel
theorem dX11_walk_40 : decode cX11_walk 40 = .ok (.iload_n 1, 1) := by decide +kernel
theorem dX11_walk_41 : decode cX11_walk 41 = .ok (.iload_n 2, 1) := by decide +kernel
theorem dX11_walk_42 : decode cX11_walk 42 = .ok (.invokevirtual 163, 3) := by decide +kernel
theorem dX11_walk_45 : decode cX11_walk 45 = .ok (.ireturn, 1) := by decide +kernel
theorem dX11_does_0 : decode cX11_does 0 = .ok (.aload_n 0, 1) := by decide +kernel
theorem dX11_does_1 : decode cX11_does 1 = .ok (.getfield 51, 3) := by decide +kernel
theorem dX11_does_4 : decode cX11_does 4 = .ok (.iload_n 1, 1) := by decide +kernel
theorem dX11_does_5 : decode cX11_does 5 = .ok (.invokevirtual 149, 3) := by decide +kernel
theorem dX11_does_8 : decode cX11_does 8 = .ok (.ifCond .eq 14, 3) := by decide +kernel
theorem dX11_does_11 : decode cX11_does 11 = .ok (.aload_n 0, 1) := by decide +kernel
theorem dX11_does_12 : decode cX11_does 12 = .ok (.getfield 51, 3) := by decide +kernel
theorem dX11_does_15 : decode cX11_does 15 = .ok (.iload_n 2, 1) := by decide +kernel
theorem dX11_does_16 : decode cX11_does 16 = .ok (.invokevirtual 166, 3) := by decide +kernel
theorem dX11_does_19 : decode cX11_does 19 = .ok (.ifCond .ne 5, 3) := by decide +kernel
theorem dX11_does_22 : decode cX11_does 22 = .ok (.iconst (-1), 1) := by decide +kernel
theorem dX11_does_23 : decode cX11_does 23 = .ok (.ireturn, 1) := by decide +kernel
theorem dX11_does_24 : decode cX11_does 24 = .ok (.aload_n 0, 1) := by decide +kernel
theorem dX11_does_25 : decode cX11_does 25 = .ok (.getfield 29, 3) := by decide +kernel
theorem dX11_does_28 : decode cX11_does 28 = .ok (.aload_n 0, 1) := by decide +kernel
theorem dX11_does_29 : decode cX11_does 29 = .ok (.getfield 19, 3) := by decide +kernel
theorem dX11_does_32 : decode cX11_does 32 = .ok (.invokevirtual 159, 3) := by decide +kernel
theorem dX11_does_35 : decode cX11_does 35 = .ok (.aload_n 0, 1) := by decide +kernel
theorem dX11_does_36 : decode cX11_does 36 = .ok (.getfield 19, 3) := by decide +kernel
theorem dX11_does_39 : decode cX11_does 39 = .ok (.aload_n 0, 1) := by decide +kernel
theorem dX11_does_40 : decode cX11_does 40 = .ok (.getfield 51, 3) := by decide +kernel
theorem dX11_does_43 : decode cX11_does 43 = .ok (.iload_n 1, 1) := by decide +kernel
theorem dX11_does_44 : decode cX11_does 44 = .ok (.iload_n 2, 1) := by decide +kernel
theorem dX11_does_45 : decode cX11_does 45 = .ok (.invokevirtual 169, 3) := by decide +kernel
theorem dX11_does_48 : decode cX11_does 48 = .ok (.ireturn, 1) := by decide +kernel
theorem dX11_wash_0 : decode cX11_wash 0 = .ok (.aload_n 0, 1) := by decide +kernel
theorem dX11_wash_1 : decode cX11_wash 1 = .ok (.getfield 51, 3) := by decide +kernel
theorem dX11_wash_4 : decode cX11_wash 4 = .ok (.iload_n 1, 1) := by decide +kernel
theorem dX11_wash_5 : decode cX11_wash 5 = .ok (.invokevirtual 101, 3) := by decide +kernel
theorem dX11_wash_8 : decode cX11_wash 8 = .ok (.ifCond .eq 14, 3) := by decide +kernel
theorem dX11_wash_11 : decode cX11_wash 11 = .ok (.aload_n 0, 1) := by decide +kernel
theorem dX11_wash_12 : decode cX11_wash 12 = .ok (.getfield 19, 3) := by decide +kernel
theorem dX11_wash_15 : decode cX11_wash 15 = .ok (.iload_n 1, 1) := by decide +kernel
theorem dX11_wash_16 : decode cX11_wash 16 = .ok (.invokevirtual 173, 3) := by decide +kernel
theorem dX11_wash_19 : decode cX11_wash 19 = .ok (.ifCond .ne 5, 3) := by decide +kernel
theorem dX11_wash_22 : decode cX11_wash 22 = .ok (.iconst (-1), 1) := by decide +kernel
theorem dX11_wash_23 : decode cX11_wash 23 = .ok (.ireturn, 1) := by decide +kernel
theorem dX11_wash_24 : decode cX11_wash 24 = .ok (.aload_n 0, 1) := by decide +kernel
theorem dX11_wash_25 : decode cX11_wash 25 = .ok (.getfield 29, 3) := by decide +kernel
theorem dX11_wash_28 : decode cX11_wash 28 = .ok (.aload_n 0, 1) := by decide +kernel
theorem dX11_wash_29 : decode cX11_wash 29 = .ok (.getfield 19, 3) := by decide +kernel
theorem dX11_wash_32 : decode cX11_wash 32 = .ok (.invokevirtual 159, 3) := by decide +kernel
theorem dX11_wash_35 : decode cX11_wash 35 = .ok (.aload_n 0, 1) := by decide +kernel
theorem dX11_wash_36 : decode cX11_wash 36 = .ok (.getfield 19, 3) := by decide +kernel
theorem dX11_wash_39 : decode cX11_wash 39 = .ok (.iload_n 1, 1) := by decide +kernel
theorem dX11_wash_40 : decode cX11_wash 40 = .ok (.invokevirtual 176, 3) := by decide +kernel
theorem dX11_wash_43 : decode cX11_wash 43 = .ok (.pop, 1) := by decide +kernel
theorem dX11_wash_44 : decode cX11_wash 44 = .ok (.aload_n 0, 1) := by decide +kernel
theorem dX11_wash_45 : decode cX11_wash 45 = .ok (.getfield 19, 3) := by decide +kernel
theorem dX11_wash_48 : decode cX11_wash 48 = .ok (.getfield 112, 3) := by decide +kernel
theorem dX11_wash_51 : decode cX11_wash 51 = .ok (.iload_n 1, 1) := by decide +kernel
theorem dX11_wash_52 : decode cX11_wash 52 = .ok (.iaload, 1) := by decide +kernel
theorem dX11_wash_53 : decode cX11_wash 53 = .ok (.ireturn, 1) := by decide +kernel
theorem dX11_curtain_0 : decode cX11_curtain 0 = .ok (.aload_n 0, 1) := by decide +kernel
theorem dX11_curtain_1 : decode cX11_curtain 1 = .ok (.getfield 51, 3) := by decide +kernel
theorem dX11_curtain_4 : decode cX11_curtain 4 = .ok (.iload_n 1, 1) := by decide +kernel
theorem dX11_curtain_5 : decode cX11_curtain 5 = .ok (.invokevirtual 101, 3) := by decide +kernel
theorem dX11_curtain_8 : decode cX11_curtain 8 = .ok (.ifCond .eq 14, 3) := by decide +kernel
theorem dX11_curtain_11 : decode cX11_curtain 11 = .ok (.aload_n 0, 1) := by decide +kernel
theorem dX11_curtain_12 : decode cX11_curtain 12 = .ok (.getfield 19, 3) := by decide +kernel
theorem dX11_curtain_15 : decode cX11_curtain 15 = .ok (.iload_n 1, 1) := by decide +kernel
theorem dX11_curtain_16 : decode cX11_curtain 16 = .ok (.invokevirtual 118, 3) := by decide +kernel
theorem dX11_curtain_19 : decode cX11_curtain 19 = .ok (.ifCond .eq 5, 3) := by decide +kernel
theorem dX11_curtain_22 : decode cX11_curtain 22 = .ok (.iconst 0, 1) := by decide +kernel
theorem dX11_curtain_23 : decode cX11_curtain 23 = .ok (.ireturn, 1) := by decide +kernel
theorem dX11_curtain_24 : decode cX11_curtain 24 = .ok (.aload_n 0, 1) := by decide +kernel
theorem dX11_curtain_25 : decode cX11_curtain 25 = .ok (.getfield 29, 3) := by decide +kernel
theorem dX11_curtain_28 : decode cX11_curtain 28 = .ok (.aload_n 0, 1) := by decide +kernel
theorem dX11_curtain_29 : decode cX11_curtain 29 = .ok (.getfield 19, 3) := by decide +kernel
theorem dX11_curtain_32 : decode cX11_curtain 32 = .ok (.invokevirtual 159, 3) := by decide +kernel
theorem dX11_curtain_35 : decode cX11_curtain 35 = .ok (.aload_n 0, 1) := by decide +kernel
theorem dX11_curtain_36 : decode cX11_curtain 36 = .ok (.getfield 19, 3) := by decide +kernel
theorem dX11_curtain_39 : decode cX11_curtain 39 = .ok (.iload_n 1, 1) := by decide +kernel
theorem dX11_curtain_40 : decode cX11_curtain 40 = .ok (.invokevirtual 179, 3) := by decide +kernel
theorem dX11_curtain_43 : decode cX11_curtain 43 = .ok (.ireturn, 1) := by decide +kernel
theorem dX11_stone_0 : decode cX11_stone 0 = .ok (.aload_n 0, 1) := by decide +kernel
theorem dX11_stone_1 : decode cX11_stone 1 = .ok (.getfield 51, 3) := by decide +kernel
theorem dX11_stone_4 : decode cX11_stone 4 = .ok (.iload_n 1, 1) := by decide +kernel
theorem dX11_stone_5 : decode cX11_stone 5 = .ok (.invokevirtual 101, 3) := by decide +kernel
theorem dX11_stone_8 : decode cX11_stone 8 = .ok (.ifCond .eq 14, 3) := by decide +kernel
theorem dX11_stone_11 : decode cX11_stone 11 = .ok (.aload_n 0, 1) := by decide +kernel
theorem dX11_stone_12 : decode cX11_stone 12 = .ok (.getfield 19, 3) := by decide +kernel
theorem dX11_stone_15 : decode cX11_stone 15 = .ok (.iload_n 1, 1) := by decide +kernel
theorem dX11_stone_16 : decode cX11_stone 16 = .ok (.invokevirtual 118, 3) := by decide +kernel
theorem dX11_stone_19 : decode cX11_stone 19 = .ok (.ifCond .eq 5, 3) := by decide +kernel
theorem dX11_stone_22 : decode cX11_stone 22 = .ok (.iconst 0, 1) := by decide +kernel
theorem dX11_stone_23 : decode cX11_stone 23 = .ok (.ireturn, 1) := by decide +kernel
theorem dX11_stone_24 : decode cX11_stone 24 = .ok (.aload_n 0, 1) := by decide +kernel
theorem dX11_stone_25 : decode cX11_stone 25 = .ok (.getfield 29, 3) := by decide +kernel
theorem dX11_stone_28 : decode cX11_stone 28 = .ok (.aload_n 0, 1) := by decide +kernel
theorem dX11_stone_29 : decode cX11_stone 29 = .ok (.getfield 19, 3) := by decide +kernel
theorem dX11_stone_32 : decode cX11_stone 32 = .ok (.invokevirtual 159, 3) := by decide +kernel
theorem dX11_stone_35 : decode cX11_stone 35 = .ok (.aload_n 0, 1) := by decide +kernel
theorem dX11_stone_36 : decode cX11_stone 36 = .ok (.getfield 19, 3) := by decide +kernel
theorem dX11_stone_39 : decode cX11_stone 39 = .ok (.iload_n 1, 1) := by decide +kernel
theorem dX11_stone_40 : decode cX11_stone 40 = .ok (.invokevirtual 182, 3) := by decide +kernel
theorem dX11_stone_43 : decode cX11_stone 43 = .ok (.ireturn, 1) := by decide +kernel
theorem dX11_hour_0 : decode cX11_hour 0 = .ok (.aload_n 0, 1) := by decide +kernel
theorem dX11_hour_1 : decode cX11_hour 1 = .ok (.getfield 29, 3) := by decide +kernel
theorem dX11_hour_4 : decode cX11_hour 4 = .ok (.aload_n 0, 1) := by decide +kernel
theorem dX11_hour_5 : decode cX11_hour 5 = .ok (.getfield 19, 3) := by decide +kernel
theorem dX11_hour_8 : decode cX11_hour 8 = .ok (.invokevirtual 159, 3) := by decide +kernel
theorem dX11_hour_11 : decode cX11_hour 11 = .ok (.aload_n 0, 1) := by decide +kernel
theorem dX11_hour_12 : decode cX11_hour 12 = .ok (.getfield 19, 3) := by decide +kernel
theorem dX11_hour_15 : decode cX11_hour 15 = .ok (.aload_n 0, 1) := by decide +kernel
theorem dX11_hour_16 : decode cX11_hour 16 = .ok (.getfield 51, 3) := by decide +kernel
theorem dX11_hour_19 : decode cX11_hour 19 = .ok (.invokevirtual 185, 3) := by decide +kernel
theorem dX11_hour_22 : decode cX11_hour 22 = .ok (.ireturn, 1) := by decide +kernel
theorem dX11_undo_0 : decode cX11_undo 0 = .ok (.aload_n 0, 1) := by decide +kernel
theorem dX11_undo_1 : decode cX11_undo 1 = .ok (.getfield 29, 3) := by decide +kernel
theorem dX11_undo_4 : decode cX11_undo 4 = .ok (.aload_n 0, 1) := by decide +kernel
theorem dX11_undo_5 : decode cX11_undo 5 = .ok (.getfield 19, 3) := by decide +kernel
theorem dX11_undo_8 : decode cX11_undo 8 = .ok (.invokevirtual 189, 3) := by decide +kernel
theorem dX11_undo_11 : decode cX11_undo 11 = .ok (.ireturn, 1) := by decide +kernel
theorem dX11_judged_0 : decode cX11_judged 0 = .ok (.iload_n 1, 1) := by decide +kernel
theorem dX11_judged_1 : decode cX11_judged 1 = .ok (.ifCond .lt 8, 3) := by decide +kernel
theorem dX11_judged_4 : decode cX11_judged 4 = .ok (.iload_n 1, 1) := by decide +kernel
theorem dX11_judged_5 : decode cX11_judged 5 = .ok (.iconst 2, 1) := by decide +kernel
theorem dX11_judged_6 : decode cX11_judged 6 = .ok (.if_icmp .le 6, 3) := by decide +kernel
theorem dX11_judged_9 : decode cX11_judged 9 = .ok (.bipush (-2), 2) := by decide +kernel
theorem dX11_judged_11 : decode cX11_judged 11 = .ok (.ireturn, 1) := by decide +kernel
theorem dX11_judged_12 : decode cX11_judged 12 = .ok (.aload_n 0, 1) := by decide +kernel
theorem dX11_judged_13 : decode cX11_judged 13 = .ok (.getfield 61, 3) := by decide +kernel
theorem dX11_judged_16 : decode cX11_judged 16 = .ok (.aload_n 0, 1) := by decide +kernel
theorem dX11_judged_17 : decode cX11_judged 17 = .ok (.getfield 51, 3) := by decide +kernel
theorem dX11_judged_20 : decode cX11_judged 20 = .ok (.aload_n 0, 1) := by decide +kernel
theorem dX11_judged_21 : decode cX11_judged 21 = .ok (.getfield 23, 3) := by decide +kernel
theorem dX11_judged_24 : decode cX11_judged 24 = .ok (.invokevirtual 193, 3) := by decide +kernel
theorem dX11_judged_27 : decode cX11_judged 27 = .ok (.iload_n 1, 1) := by decide +kernel
theorem dX11_judged_28 : decode cX11_judged 28 = .ok (.ifCond .ne 11, 3) := by decide +kernel
theorem dX11_judged_31 : decode cX11_judged 31 = .ok (.aload_n 0, 1) := by decide +kernel
theorem dX11_judged_32 : decode cX11_judged 32 = .ok (.getfield 61, 3) := by decide +kernel
theorem dX11_judged_35 : decode cX11_judged 35 = .ok (.getfield 197, 3) := by decide +kernel
theorem dX11_judged_38 : decode cX11_judged 38 = .ok (.ireturn, 1) := by decide +kernel
theorem dX11_judged_39 : decode cX11_judged 39 = .ok (.iload_n 1, 1) := by decide +kernel
theorem dX11_judged_40 : decode cX11_judged 40 = .ok (.iconst 1, 1) := by decide +kernel
theorem dX11_judged_41 : decode cX11_judged 41 = .ok (.if_icmp .ne 13, 3) := by decide +kernel
theorem dX11_judged_44 : decode cX11_judged 44 = .ok (.aload_n 0, 1) := by decide +kernel
theorem dX11_judged_45 : decode cX11_judged 45 = .ok (.getfield 61, 3) := by decide +kernel
theorem dX11_judged_48 : decode cX11_judged 48 = .ok (.getfield 200, 3) := by decide +kernel
theorem dX11_judged_51 : decode cX11_judged 51 = .ok (.goto 16, 3) := by decide +kernel
theorem dX11_judged_54 : decode cX11_judged 54 = .ok (.aload_n 0, 1) := by decide +kernel
theorem dX11_judged_55 : decode cX11_judged 55 = .ok (.getfield 51, 3) := by decide +kernel
theorem dX11_judged_58 : decode cX11_judged 58 = .ok (.aload_n 0, 1) := by decide +kernel
theorem dX11_judged_59 : decode cX11_judged 59 = .ok (.getfield 23, 3) := by decide +kernel
theorem dX11_judged_62 : decode cX11_judged 62 = .ok (.bipush 6, 2) := by decide +kernel
theorem dX11_judged_64 : decode cX11_judged 64 = .ok (.invokestatic 203, 3) := by decide +kernel
theorem dX11_judged_67 : decode cX11_judged 67 = .ok (.ireturn, 1) := by decide +kernel
theorem dX11_shame_0 : decode cX11_shame 0 = .ok (.aload_n 0, 1) := by decide +kernel
theorem dX11_shame_1 : decode cX11_shame 1 = .ok (.getfield 51, 3) := by decide +kernel
theorem dX11_shame_4 : decode cX11_shame 4 = .ok (.iload_n 1, 1) := by decide +kernel
theorem dX11_shame_5 : decode cX11_shame 5 = .ok (.invokevirtual 149, 3) := by decide +kernel
theorem dX11_shame_8 : decode cX11_shame 8 = .ok (.ifCond .eq 18, 3) := by decide +kernel
theorem dX11_shame_11 : decode cX11_shame 11 = .ok (.aload_n 0, 1) := by decide +kernel
theorem dX11_shame_12 : decode cX11_shame 12 = .ok (.getfield 51, 3) := by decide +kernel
theorem dX11_shame_15 : decode cX11_shame 15 = .ok (.aload_n 0, 1) := by decide +kernel
theorem dX11_shame_16 : decode cX11_shame 16 = .ok (.getfield 19, 3) := by decide +kernel
theorem dX11_shame_19 : decode cX11_shame 19 = .ok (.iload_n 1, 1) := by decide +kernel
theorem dX11_shame_20 : decode cX11_shame 20 = .ok (.invokestatic 209, 3) := by decide +kernel
theorem dX11_shame_23 : decode cX11_shame 23 = .ok (.goto 4, 3) := by decide +kernel
theorem dX11_shame_26 : decode cX11_shame 26 = .ok (.iconst (-1), 1) := by decide +kernel
theorem dX11_shame_27 : decode cX11_shame 27 = .ok (.ireturn, 1) := by decide +kernel
theorem dX11_harm_0 : decode cX11_harm 0 = .ok (.aload_n 0, 1) := by decide +kernel
theorem dX11_harm_1 : decode cX11_harm 1 = .ok (.getfield 51, 3) := by decide +kernel
theorem dX11_harm_4 : decode cX11_harm 4 = .ok (.aload_n 0, 1) := by decide +kernel
theorem dX11_harm_5 : decode cX11_harm 5 = .ok (.getfield 19, 3) := by decide +kernel
theorem dX11_harm_8 : decode cX11_harm 8 = .ok (.bipush 6, 2) := by decide +kernel
theorem dX11_harm_10 : decode cX11_harm 10 = .ok (.invokestatic 203, 3) := by decide +kernel
theorem dX11_harm_13 : decode cX11_harm 13 = .ok (.ireturn, 1) := by decide +kernel
theorem dX11_hide_0 : decode cX11_hide 0 = .ok (.aload_n 0, 1) := by decide +kernel
theorem dX11_hide_1 : decode cX11_hide 1 = .ok (.getfield 51, 3) := by decide +kernel
theorem dX11_hide_4 : decode cX11_hide 4 = .ok (.iload_n 1, 1) := by decide +kernel
theorem dX11_hide_5 : decode cX11_hide 5 = .ok (.invokevirtual 149, 3) := by decide +kernel
theorem dX11_hide_8 : decode cX11_hide 8 = .ok (.ifCond .eq 12, 3) := by decide +kernel
theorem dX11_hide_11 : decode cX11_hide 11 = .ok (.iload_n 2, 1) := by decide +kernel
theorem dX11_hide_12 : decode cX11_hide 12 = .ok (.ifCond .lt 8, 3) := by decide +kernel
theorem dX11_hide_15 : decode cX11_hide 15 = .ok (.iload_n 2, 1) := by decide +kernel
theorem dX11_hide_16 : decode cX11_hide 16 = .ok (.iconst 1, 1) := by decide +kernel
theorem dX11_hide_17 : decode cX11_hide 17 = .ok (.if_icmp .le 5, 3) := by decide +kernel
theorem dX11_hide_20 : decode cX11_hide 20 = .ok (.iconst (-1), 1) := by decide +kernel
theorem dX11_hide_21 : decode cX11_hide 21 = .ok (.ireturn, 1) := by decide +kernel
theorem dX11_hide_22 : decode cX11_hide 22 = .ok (.aload_n 0, 1) := by decide +kernel
theorem dX11_hide_23 : decode cX11_hide 23 = .ok (.getfield 19, 3) := by decide +kernel
theorem dX11_hide_26 : decode cX11_hide 26 = .ok (.getfield 152, 3) := by decide +kernel
theorem dX11_hide_29 : decode cX11_hide 29 = .ok (.iload_n 1, 1) := by decide +kernel
theorem dX11_hide_30 : decode cX11_hide 30 = .ok (.iaload, 1) := by decide +kernel
theorem dX11_hide_31 : decode cX11_hide 31 = .ok (.istore_n 3, 1) := by decide +kernel
theorem dX11_hide_32 : decode cX11_hide 32 = .ok (.aload_n 0, 1) := by decide +kernel
theorem dX11_hide_33 : decode cX11_hide 33 = .ok (.getfield 51, 3) := by decide +kernel
theorem dX11_hide_36 : decode cX11_hide 36 = .ok (.aload_n 0, 1) := by decide +kernel
theorem dX11_hide_37 : decode cX11_hide 37 = .ok (.getfield 19, 3) := by decide +kernel
theorem dX11_hide_40 : decode cX11_hide 40 = .ok (.iload_n 3, 1) := by decide +kernel
theorem dX11_hide_41 : decode cX11_hide 41 = .ok (.invokestatic 212, 3) := by decide +kernel
theorem dX11_hide_44 : decode cX11_hide 44 = .ok (.istore 4, 2) := by decide +kernel
theorem dX11_hide_46 : decode cX11_hide 46 = .ok (.iload 4, 2) := by decide +kernel
theorem dX11_hide_48 : decode cX11_hide 48 = .ok (.iconst (-1), 1) := by decide +kernel
theorem dX11_hide_49 : decode cX11_hide 49 = .ok (.if_icmp .ne 5, 3) := by decide +kernel
theorem dX11_hide_52 : decode cX11_hide 52 = .ok (.iconst (-1), 1) := by decide +kernel
theorem dX11_hide_53 : decode cX11_hide 53 = .ok (.ireturn, 1) := by decide +kernel
theorem dX11_hide_54 : decode cX11_hide 54 = .ok (.iload_n 2, 1) := by decide +kernel
theorem dX11_hide_55 : decode cX11_hide 55 = .ok (.ifCond .ne 13, 3) := by decide +kernel
theorem dX11_hide_58 : decode cX11_hide 58 = .ok (.iload 4, 2) := by decide +kernel
theorem dX11_hide_60 : decode cX11_hide 60 = .ok (.iload_n 3, 1) := by decide +kernel
theorem dX11_hide_61 : decode cX11_hide 61 = .ok (.isub, 1) := by decide +kernel
theorem dX11_hide_62 : decode cX11_hide 62 = .ok (.invokestatic 217, 3) := by decide +kernel
theorem dX11_hide_65 : decode cX11_hide 65 = .ok (.goto 5, 3) := by decide +kernel
theorem dX11_hide_68 : decode cX11_hide 68 = .ok (.iload 4, 2) := by decide +kernel
theorem dX11_hide_70 : decode cX11_hide 70 = .ok (.ireturn, 1) := by decide +kernel
theorem dX11_proof_0 : decode cX11_proof 0 = .ok (.aload_n 0, 1) := by decide +kernel
theorem dX11_proof_1 : decode cX11_proof 1 = .ok (.getfield 51, 3) := by decide +kernel
theorem dX11_proof_4 : decode cX11_proof 4 = .ok (.iload_n 1, 1) := by decide +kernel
theorem dX11_proof_5 : decode cX11_proof 5 = .ok (.invokevirtual 149, 3) := by decide +kernel
theorem dX11_proof_8 : decode cX11_proof 8 = .ok (.ifCond .eq 20, 3) := by decide +kernel
theorem dX11_proof_11 : decode cX11_proof 11 = .ok (.iload_n 2, 1) := by decide +kernel
theorem dX11_proof_12 : decode cX11_proof 12 = .ok (.ifCond .lt 16, 3) := by decide +kernel
theorem dX11_proof_15 : decode cX11_proof 15 = .ok (.iload_n 2, 1) := by decide +kernel
theorem dX11_proof_16 : decode cX11_proof 16 = .ok (.iconst 1, 1) := by decide +kernel
theorem dX11_proof_17 : decode cX11_proof 17 = .ok (.aload_n 0, 1) := by decide +kernel
theorem dX11_proof_18 : decode cX11_proof 18 = .ok (.getfield 51, 3) := by decide +kernel
theorem dX11_proof_21 : decode cX11_proof 21 = .ok (.getfield 222, 3) := by decide +kernel
theorem dX11_proof_24 : decode cX11_proof 24 = .ok (.ishl, 1) := by decide +kernel
theorem dX11_proof_25 : decode cX11_proof 25 = .ok (.if_icmp .lt 5, 3) := by decide +kernel
theorem dX11_proof_28 : decode cX11_proof 28 = .ok (.iconst (-1), 1) := by decide +kernel
theorem dX11_proof_29 : decode cX11_proof 29 = .ok (.ireturn, 1) := by decide +kernel
theorem dX11_proof_30 : decode cX11_proof 30 = .ok (.aload_n 0, 1) := by decide +kernel
theorem dX11_proof_31 : decode cX11_proof 31 = .ok (.getfield 51, 3) := by decide +kernel
theorem dX11_proof_34 : decode cX11_proof 34 = .ok (.aload_n 0, 1) := by decide +kernel
theorem dX11_proof_35 : decode cX11_proof 35 = .ok (.getfield 19, 3) := by decide +kernel
theorem dX11_proof_38 : decode cX11_proof 38 = .ok (.iload_n 1, 1) := by decide +kernel
theorem dX11_proof_39 : decode cX11_proof 39 = .ok (.iload_n 2, 1) := by decide +kernel
theorem dX11_proof_40 : decode cX11_proof 40 = .ok (.invokestatic 225, 3) := by decide +kernel
theorem dX11_proof_43 : decode cX11_proof 43 = .ok (.ireturn, 1) := by decide +kernel
theorem dX11_washes_0 : decode cX11_washes 0 = .ok (.aload_n 0, 1) := by decide +kernel
theorem dX11_washes_1 : decode cX11_washes 1 = .ok (.getfield 51, 3) := by decide +kernel
theorem dX11_washes_4 : decode cX11_washes 4 = .ok (.iload_n 1, 1) := by decide +kernel
theorem dX11_washes_5 : decode cX11_washes 5 = .ok (.invokevirtual 149, 3) := by decide +kernel
theorem dX11_washes_8 : decode cX11_washes 8 = .ok (.ifCond .eq 14, 3) := by decide +kernel
theorem dX11_washes_11 : decode cX11_washes 11 = .ok (.aload_n 0, 1) := by decide +kernel
theorem dX11_washes_12 : decode cX11_washes 12 = .ok (.getfield 51, 3) := by decide +kernel
theorem dX11_washes_15 : decode cX11_washes 15 = .ok (.iload_n 2, 1) := by decide +kernel
theorem dX11_washes_16 : decode cX11_washes 16 = .ok (.invokevirtual 166, 3) := by decide +kernel
theorem dX11_washes_19 : decode cX11_washes 19 = .ok (.ifCond .ne 5, 3) := by decide +kernel
theorem dX11_washes_22 : decode cX11_washes 22 = .ok (.iconst (-1), 1) := by decide +kernel
theorem dX11_washes_23 : decode cX11_washes 23 = .ok (.ireturn, 1) := by decide +kernel
theorem dX11_washes_24 : decode cX11_washes 24 = .ok (.aload_n 0, 1) := by decide +kernel
theorem dX11_washes_25 : decode cX11_washes 25 = .ok (.getfield 51, 3) := by decide +kernel
theorem dX11_washes_28 : decode cX11_washes 28 = .ok (.aload_n 0, 1) := by decide +kernel
theorem dX11_washes_29 : decode cX11_washes 29 = .ok (.getfield 19, 3) := by decide +kernel
theorem dX11_washes_32 : decode cX11_washes 32 = .ok (.iload_n 1, 1) := by decide +kernel
theorem dX11_washes_33 : decode cX11_washes 33 = .ok (.iload_n 2, 1) := by decide +kernel
theorem dX11_washes_34 : decode cX11_washes 34 = .ok (.invokestatic 229, 3) := by decide +kernel
theorem dX11_washes_37 : decode cX11_washes 37 = .ok (.ireturn, 1) := by decide +kernel
theorem dX11_dark_0 : decode cX11_dark 0 = .ok (.iload_n 1, 1) := by decide +kernel
theorem dX11_dark_1 : decode cX11_dark 1 = .ok (.ifCond .le 10, 3) := by decide +kernel
theorem dX11_dark_4 : decode cX11_dark 4 = .ok (.iload_n 1, 1) := by decide +kernel
theorem dX11_dark_5 : decode cX11_dark 5 = .ok (.sipush 1023, 3) := by decide +kernel
theorem dX11_dark_8 : decode cX11_dark 8 = .ok (.if_icmp .le 5, 3) := by decide +kernel
theorem dX11_dark_11 : decode cX11_dark 11 = .ok (.iconst (-1), 1) := by decide +kernel
theorem dX11_dark_12 : decode cX11_dark 12 = .ok (.ireturn, 1) := by decide +kernel
theorem dX11_dark_13 : decode cX11_dark 13 = .ok (.aload_n 0, 1) := by decide +kernel
theorem dX11_dark_14 : decode cX11_dark 14 = .ok (.getfield 51, 3) := by decide +kernel
theorem dX11_dark_17 : decode cX11_dark 17 = .ok (.aload_n 0, 1) := by decide +kernel
theorem dX11_dark_18 : decode cX11_dark 18 = .ok (.getfield 19, 3) := by decide +kernel
theorem dX11_dark_21 : decode cX11_dark 21 = .ok (.iload_n 1, 1) := by decide +kernel
theorem dX11_dark_22 : decode cX11_dark 22 = .ok (.invokestatic 232, 3) := by decide +kernel
theorem dX11_dark_25 : decode cX11_dark 25 = .ok (.ireturn, 1) := by decide +kernel
theorem dX11_say_0 : decode cX11_say 0 = .ok (.aload_n 0, 1) := by decide +kernel
theorem dX11_say_1 : decode cX11_say 1 = .ok (.getfield 51, 3) := by decide +kernel
theorem dX11_say_4 : decode cX11_say 4 = .ok (.iload_n 1, 1) := by decide +kernel
theorem dX11_say_5 : decode cX11_say 5 = .ok (.invokevirtual 101, 3) := by decide +kernel
theorem dX11_say_8 : decode cX11_say 8 = .ok (.ifCond .ne 5, 3) := by decide +kernel
theorem dX11_say_11 : decode cX11_say 11 = .ok (.iconst 0, 1) := by decide +kernel
theorem dX11_say_12 : decode cX11_say 12 = .ok (.ireturn, 1) := by decide +kernel
theorem dX11_say_13 : decode cX11_say 13 = .ok (.aload_n 0, 1) := by decide +kernel
theorem dX11_say_14 : decode cX11_say 14 = .ok (.getfield 19, 3) := by decide +kernel
theorem dX11_say_17 : decode cX11_say 17 = .ok (.iload_n 1, 1) := by decide +kernel
theorem dX11_say_18 : decode cX11_say 18 = .ok (.iload_n 2, 1) := by decide +kernel
theorem dX11_say_19 : decode cX11_say 19 = .ok (.invokevirtual 235, 3) := by decide +kernel
theorem dX11_say_22 : decode cX11_say 22 = .ok (.iconst 1, 1) := by decide +kernel
theorem dX11_say_23 : decode cX11_say 23 = .ok (.ireturn, 1) := by decide +kernel
theorem dX11_where_0 : decode cX11_where 0 = .ok (.aload_n 0, 1) := by decide +kernel
theorem dX11_where_1 : decode cX11_where 1 = .ok (.getfield 51, 3) := by decide +kernel
theorem dX11_where_4 : decode cX11_where 4 = .ok (.aload_n 0, 1) := by decide +kernel
theorem dX11_where_5 : decode cX11_where 5 = .ok (.getfield 19, 3) := by decide +kernel
theorem dX11_where_8 : decode cX11_where 8 = .ok (.invokestatic 239, 3) := by decide +kernel
theorem dX11_where_11 : decode cX11_where 11 = .ok (.ireturn, 1) := by decide +kernel
theorem dX11_ask_0 : decode cX11_ask 0 = .ok (.aload_n 0, 1) := by decide +kernel
theorem dX11_ask_1 : decode cX11_ask 1 = .ok (.getfield 51, 3) := by decide +kernel
theorem dX11_ask_4 : decode cX11_ask 4 = .ok (.aload_n 0, 1) := by decide +kernel
theorem dX11_ask_5 : decode cX11_ask 5 = .ok (.getfield 19, 3) := by decide +kernel
theorem dX11_ask_8 : decode cX11_ask 8 = .ok (.invokestatic 243, 3) := by decide +kernel
theorem dX11_ask_11 : decode cX11_ask 11 = .ok (.ireturn, 1) := by decide +kernel
theorem dX11_memory_0 : decode cX11_memory 0 = .ok (.iload_n 1, 1) := by decide +kernel
theorem dX11_memory_1 : decode cX11_memory 1 = .ok (.iconst 1, 1) := by decide +kernel
theorem dX11_memory_2 : decode cX11_memory 2 = .ok (.if_icmp .lt 9, 3) := by decide +kernel
theorem dX11_memory_5 : decode cX11_memory 5 = .ok (.iload_n 1, 1) := by decide +kernel
theorem dX11_memory_6 : decode cX11_memory 6 = .ok (.bipush 6, 2) := by decide +kernel
theorem dX11_memory_8 : decode cX11_memory 8 = .ok (.if_icmp .le 5, 3) := by decide +kernel
theorem dX11_memory_11 : decode cX11_memory 11 = .ok (.iconst (-1), 1) := by decide +kernel
theorem dX11_memory_12 : decode cX11_memory 12 = .ok (.ireturn, 1) := by decide +kernel
theorem dX11_memory_13 : decode cX11_memory 13 = .ok (.aload_n 0, 1) := by decide +kernel
theorem dX11_memory_14 : decode cX11_memory 14 = .ok (.getfield 51, 3) := by decide +kernel
theorem dX11_memory_17 : decode cX11_memory 17 = .ok (.aload_n 0, 1) := by decide +kernel
theorem dX11_memory_18 : decode cX11_memory 18 = .ok (.getfield 19, 3) := by decide +kernel
theorem dX11_memory_21 : decode cX11_memory 21 = .ok (.iload_n 1, 1) := by decide +kernel
theorem dX11_memory_22 : decode cX11_memory 22 = .ok (.invokestatic 203, 3) := by decide +kernel
theorem dX11_memory_25 : decode cX11_memory 25 = .ok (.ireturn, 1) := by decide +kernel
theorem dX11_glass_0 : decode cX11_glass 0 = .ok (.iload_n 1, 1) := by decide +kernel
theorem dX11_glass_1 : decode cX11_glass 1 = .ok (.iconst 1, 1) := by decide +kernel
theorem dX11_glass_2 : decode cX11_glass 2 = .ok (.if_icmp .lt 9, 3) := by decide +kernel
theorem dX11_glass_5 : decode cX11_glass 5 = .ok (.iload_n 1, 1) := by decide +kernel
theorem dX11_glass_6 : decode cX11_glass 6 = .ok (.bipush 10, 2) := by decide +kernel
theorem dX11_glass_8 : decode cX11_glass 8 = .ok (.if_icmp .le 5, 3) := by decide +kernel
theorem dX11_glass_11 : decode cX11_glass 11 = .ok (.iconst (-1), 1) := by decide +kernel
theorem dX11_glass_12 : decode cX11_glass 12 = .ok (.ireturn, 1) := by decide +kernel
theorem dX11_glass_13 : decode cX11_glass 13 = .ok (.aload_n 0, 1) := by decide +kernel
theorem dX11_glass_14 : decode cX11_glass 14 = .ok (.getfield 51, 3) := by decide +kernel
theorem dX11_glass_17 : decode cX11_glass 17 = .ok (.aload_n 0, 1) := by decide +kernel
theorem dX11_glass_18 : decode cX11_glass 18 = .ok (.getfield 19, 3) := by decide +kernel
theorem dX11_glass_21 : decode cX11_glass 21 = .ok (.iload_n 1, 1) := by decide +kernel
theorem dX11_glass_22 : decode cX11_glass 22 = .ok (.invokestatic 246, 3) := by decide +kernel
theorem dX11_glass_25 : decode cX11_glass 25 = .ok (.ireturn, 1) := by decide +kernel
theorem dX11_seen_0 : decode cX11_seen 0 = .ok (.aload_n 0, 1) := by decide +kernel
theorem dX11_seen_1 : decode cX11_seen 1 = .ok (.getfield 51, 3) := by decide +kernel
theorem dX11_seen_4 : decode cX11_seen 4 = .ok (.iload_n 1, 1) := by decide +kernel
theorem dX11_seen_5 : decode cX11_seen 5 = .ok (.invokevirtual 149, 3) := by decide +kernel
theorem dX11_seen_8 : decode cX11_seen 8 = .ok (.ifCond .eq 26, 3) := by decide +kernel
theorem dX11_seen_11 : decode cX11_seen 11 = .ok (.aload_n 0, 1) := by decide +kernel
theorem dX11_seen_12 : decode cX11_seen 12 = .ok (.getfield 19, 3) := by decide +kernel
theorem dX11_seen_15 : decode cX11_seen 15 = .ok (.aload_n 0, 1) := by decide +kernel
theorem dX11_seen_16 : decode cX11_seen 16 = .ok (.getfield 51, 3) := by decide +kernel
theorem dX11_seen_19 : decode cX11_seen 19 = .ok (.aload_n 0, 1) := by decide +kernel
theorem dX11_seen_20 : decode cX11_seen 20 = .ok (.getfield 19, 3) := by decide +kernel
theorem dX11_seen_23 : decode cX11_seen 23 = .ok (.getfield 152, 3) := by decide +kernel
theorem dX11_seen_26 : decode cX11_seen 26 = .ok (.iload_n 1, 1) := by decide +kernel
theorem dX11_seen_27 : decode cX11_seen 27 = .ok (.iaload, 1) := by decide +kernel
theorem dX11_seen_28 : decode cX11_seen 28 = .ok (.invokevirtual 249, 3) := by decide +kernel
theorem dX11_seen_31 : decode cX11_seen 31 = .ok (.goto 4, 3) := by decide +kernel
theorem dX11_seen_34 : decode cX11_seen 34 = .ok (.iconst (-1), 1) := by decide +kernel
theorem dX11_seen_35 : decode cX11_seen 35 = .ok (.ireturn, 1) := by decide +kernel
theorem dX11_eyes_0 : decode cX11_eyes 0 = .ok (.aload_n 0, 1) := by decide +kernel
theorem dX11_eyes_1 : decode cX11_eyes 1 = .ok (.getfield 51, 3) := by decide +kernel
theorem dX11_eyes_4 : decode cX11_eyes 4 = .ok (.aload_n 0, 1) := by decide +kernel
theorem dX11_eyes_5 : decode cX11_eyes 5 = .ok (.getfield 19, 3) := by decide +kernel
theorem dX11_eyes_8 : decode cX11_eyes 8 = .ok (.invokestatic 252, 3) := by decide +kernel
theorem dX11_eyes_11 : decode cX11_eyes 11 = .ok (.ireturn, 1) := by decide +kernel
theorem dX11_blind_0 : decode cX11_blind 0 = .ok (.aload_n 0, 1) := by decide +kernel
theorem dX11_blind_1 : decode cX11_blind 1 = .ok (.getfield 51, 3) := by decide +kernel
theorem dX11_blind_4 : decode cX11_blind 4 = .ok (.aload_n 0, 1) := by decide +kernel
theorem dX11_blind_5 : decode cX11_blind 5 = .ok (.getfield 19, 3) := by decide +kernel
theorem dX11_blind_8 : decode cX11_blind 8 = .ok (.invokestatic 255, 3) := by decide +kernel
theorem dX11_blind_11 : decode cX11_blind 11 = .ok (.ireturn, 1) := by decide +kernel
theorem dX11_young_0 : decode cX11_young 0 = .ok (.aload_n 0, 1) := by decide +kernel
theorem dX11_young_1 : decode cX11_young 1 = .ok (.getfield 51, 3) := by decide +kernel
theorem dX11_young_4 : decode cX11_young 4 = .ok (.aload_n 0, 1) := by decide +kernel
theorem dX11_young_5 : decode cX11_young 5 = .ok (.getfield 19, 3) := by decide +kernel
theorem dX11_young_8 : decode cX11_young 8 = .ok (.iload_n 1, 1) := by decide +kernel
theorem dX11_young_9 : decode cX11_young 9 = .ok (.invokestatic 258, 3) := by decide +kernel
theorem dX11_young_12 : decode cX11_young 12 = .ok (.ireturn, 1) := by decide +kernel
theorem dX11_trail_0 : decode cX11_trail 0 = .ok (.aload_n 0, 1) := by decide +kernel
theorem dX11_trail_1 : decode cX11_trail 1 = .ok (.getfield 51, 3) := by decide +kernel
theorem dX11_trail_4 : decode cX11_trail 4 = .ok (.iload_n 1, 1) := by decide +kernel
theorem dX11_trail_5 : decode cX11_trail 5 = .ok (.invokevirtual 149, 3) := by decide +kernel
theorem dX11_trail_8 : decode cX11_trail 8 = .ok (.ifCond .eq 18, 3) := by decide +kernel
theorem dX11_trail_11 : decode cX11_trail 11 = .ok (.aload_n 0, 1) := by decide +kernel
theorem dX11_trail_12 : decode cX11_trail 12 = .ok (.getfield 51, 3) := by decide +kernel
theorem dX11_trail_15 : decode cX11_trail 15 = .ok (.aload_n 0, 1) := by decide +kernel
theorem dX11_trail_16 : decode cX11_trail 16 = .ok (.getfield 19, 3) := by decide +kernel
theorem dX11_trail_19 : decode cX11_trail 19 = .ok (.iload_n 1, 1) := by decide +kernel
theorem dX11_trail_20 : decode cX11_trail 20 = .ok (.invokestatic 261, 3) := by decide +kernel
theorem dX11_trail_23 : decode cX11_trail 23 = .ok (.goto 4, 3) := by decide +kernel
theorem dX11_trail_26 : decode cX11_trail 26 = .ok (.iconst (-1), 1) := by decide +kernel
theorem dX11_trail_27 : decode cX11_trail 27 = .ok (.ireturn, 1) := by decide +kernel
theorem dX11_last_0 : decode cX11_last 0 = .ok (.aload_n 0, 1) := by decide +kernel
theorem dX11_last_1 : decode cX11_last 1 = .ok (.getfield 51, 3) := by decide +kernel
theorem dX11_last_4 : decode cX11_last 4 = .ok (.iload_n 1, 1) := by decide +kernel
theorem dX11_last_5 : decode cX11_last 5 = .ok (.invokevirtual 149, 3) := by decide +kernel
theorem dX11_last_8 : decode cX11_last 8 = .ok (.ifCond .eq 18, 3) := by decide +kernel
theorem dX11_last_11 : decode cX11_last 11 = .ok (.aload_n 0, 1) := by decide +kernel
theorem dX11_last_12 : decode cX11_last 12 = .ok (.getfield 51, 3) := by decide +kernel
theorem dX11_last_15 : decode cX11_last 15 = .ok (.aload_n 0, 1) := by decide +kernel
theorem dX11_last_16 : decode cX11_last 16 = .ok (.getfield 19, 3) := by decide +kernel
theorem dX11_last_19 : decode cX11_last 19 = .ok (.iload_n 1, 1) := by decide +kernel
theorem dX11_last_20 : decode cX11_last 20 = .ok (.invokestatic 264, 3) := by decide +kernel
theorem dX11_last_23 : decode cX11_last 23 = .ok (.goto 4, 3) := by decide +kernel
theorem dX11_last_26 : decode cX11_last 26 = .ok (.iconst (-1), 1) := by decide +kernel
theorem dX11_last_27 : decode cX11_last 27 = .ok (.ireturn, 1) := by decide +kernel
theorem dX11_worst_0 : decode cX11_worst 0 = .ok (.aload_n 0, 1) := by decide +kernel
theorem dX11_worst_1 : decode cX11_worst 1 = .ok (.getfield 51, 3) := by decide +kernel
theorem dX11_worst_4 : decode cX11_worst 4 = .ok (.aload_n 0, 1) := by decide +kernel
theorem dX11_worst_5 : decode cX11_worst 5 = .ok (.getfield 19, 3) := by decide +kernel
theorem dX11_worst_8 : decode cX11_worst 8 = .ok (.invokestatic 267, 3) := by decide +kernel
theorem dX11_worst_11 : decode cX11_worst 11 = .ok (.ireturn, 1) := by decide +kernel
theorem dX11_oldest_0 : decode cX11_oldest 0 = .ok (.aload_n 0, 1) := by decide +kernel
theorem dX11_oldest_1 : decode cX11_oldest 1 = .ok (.getfield 51, 3) := by decide +kernel
theorem dX11_oldest_4 : decode cX11_oldest 4 = .ok (.aload_n 0, 1) := by decide +kernel
theorem dX11_oldest_5 : decode cX11_oldest 5 = .ok (.getfield 19, 3) := by decide +kernel
theorem dX11_oldest_8 : decode cX11_oldest 8 = .ok (.invokestatic 270, 3) := by decide +kernel
theorem dX11_oldest_11 : decode cX11_oldest 11 = .ok (.ireturn, 1) := by decide +kernel
theorem dX11_cloak_0 : decode cX11_cloak 0 = .ok (.aload_n 0, 1) := by decide +kernel
theorem dX11_cloak_1 : decode cX11_cloak 1 = .ok (.getfield 51, 3) := by decide +kernel
theorem dX11_cloak_4 : decode cX11_cloak 4 = .ok (.iload_n 1, 1) := by decide +kernel
theorem dX11_cloak_5 : decode cX11_cloak 5 = .ok (.invokevirtual 149, 3) := by decide +kernel
theorem dX11_cloak_8 : decode cX11_cloak 8 = .ok (.ifCond .eq 14, 3) := by decide +kernel
theorem dX11_cloak_11 : decode cX11_cloak 11 = .ok (.iload_n 2, 1) := by decide +kernel
theorem dX11_cloak_12 : decode cX11_cloak 12 = .ok (.ifCond .lt 10, 3) := by decide +kernel
theorem dX11_cloak_15 : decode cX11_cloak 15 = .ok (.iload_n 2, 1) := by decide +kernel
theorem dX11_cloak_16 : decode cX11_cloak 16 = .ok (.sipush 495, 3) := by decide +kernel
theorem dX11_cloak_19 : decode cX11_cloak 19 = .ok (.if_icmp .le 5, 3) := by decide +kernel
theorem dX11_cloak_22 : decode cX11_cloak 22 = .ok (.iconst (-1), 1) := by decide +kernel
theorem dX11_cloak_23 : decode cX11_cloak 23 = .ok (.ireturn, 1) := by decide +kernel
theorem dX11_cloak_24 : decode cX11_cloak 24 = .ok (.aload_n 0, 1) := by decide +kernel
theorem dX11_cloak_25 : decode cX11_cloak 25 = .ok (.getfield 51, 3) := by decide +kernel
theorem dX11_cloak_28 : decode cX11_cloak 28 = .ok (.aload_n 0, 1) := by decide +kernel
theorem dX11_cloak_29 : decode cX11_cloak 29 = .ok (.getfield 19, 3) := by decide +kernel
theorem dX11_cloak_32 : decode cX11_cloak 32 = .ok (.iload_n 1, 1) := by decide +kernel
theorem dX11_cloak_33 : decode cX11_cloak 33 = .ok (.iload_n 2, 1) := by decide +kernel
theorem dX11_cloak_34 : decode cX11_cloak 34 = .ok (.invokestatic 273, 3) := by decide +kernel
theorem dX11_cloak_37 : decode cX11_cloak 37 = .ok (.ireturn, 1) := by decide +kernel
theorem dX11_twin_0 : decode cX11_twin 0 = .ok (.aload_n 0, 1) := by decide +kernel
theorem dX11_twin_1 : decode cX11_twin 1 = .ok (.getfield 51, 3) := by decide +kernel
theorem dX11_twin_4 : decode cX11_twin 4 = .ok (.iload_n 1, 1) := by decide +kernel
theorem dX11_twin_5 : decode cX11_twin 5 = .ok (.invokevirtual 101, 3) := by decide +kernel
theorem dX11_twin_8 : decode cX11_twin 8 = .ok (.ifCond .eq 19, 3) := by decide +kernel
theorem dX11_twin_11 : decode cX11_twin 11 = .ok (.aload_n 0, 1) := by decide +kernel
theorem dX11_twin_12 : decode cX11_twin 12 = .ok (.getfield 51, 3) := by decide +kernel
theorem dX11_twin_15 : decode cX11_twin 15 = .ok (.iload_n 2, 1) := by decide +kernel
theorem dX11_twin_16 : decode cX11_twin 16 = .ok (.invokevirtual 101, 3) := by decide +kernel
theorem dX11_twin_19 : decode cX11_twin 19 = .ok (.ifCond .eq 8, 3) := by decide +kernel
theorem dX11_twin_22 : decode cX11_twin 22 = .ok (.iload_n 1, 1) := by decide +kernel
theorem dX11_twin_23 : decode cX11_twin 23 = .ok (.iload_n 2, 1) := by decide +kernel
theorem dX11_twin_24 : decode cX11_twin 24 = .ok (.if_icmp .ne 5, 3) := by decide +kernel
theorem dX11_twin_27 : decode cX11_twin 27 = .ok (.iconst (-1), 1) := by decide +kernel
theorem dX11_twin_28 : decode cX11_twin 28 = .ok (.ireturn, 1) := by decide +kernel
theorem dX11_twin_29 : decode cX11_twin 29 = .ok (.aload_n 0, 1) := by decide +kernel
theorem dX11_twin_30 : decode cX11_twin 30 = .ok (.getfield 19, 3) := by decide +kernel
theorem dX11_twin_33 : decode cX11_twin 33 = .ok (.iload_n 1, 1) := by decide +kernel
theorem dX11_twin_34 : decode cX11_twin 34 = .ok (.iload_n 2, 1) := by decide +kernel
theorem dX11_twin_35 : decode cX11_twin 35 = .ok (.invokestatic 276, 3) := by decide +kernel
theorem dX11_twin_38 : decode cX11_twin 38 = .ok (.ireturn, 1) := by decide +kernel
theorem dX11_run_0 : decode cX11_run 0 = .ok (.aload_n 0, 1) := by decide +kernel
theorem dX11_run_1 : decode cX11_run 1 = .ok (.getfield 51, 3) := by decide +kernel
theorem dX11_run_4 : decode cX11_run 4 = .ok (.iload_n 1, 1) := by decide +kernel
theorem dX11_run_5 : decode cX11_run 5 = .ok (.invokevirtual 101, 3) := by decide +kernel
theorem dX11_run_8 : decode cX11_run 8 = .ok (.ifCond .ne 5, 3) := by decide +kernel
theorem dX11_run_11 : decode cX11_run 11 = .ok (.iconst (-1), 1) := by decide +kernel
theorem dX11_run_12 : decode cX11_run 12 = .ok (.ireturn, 1) := by decide +kernel
theorem dX11_run_13 : decode cX11_run 13 = .ok (.aload_n 0, 1) := by decide +kernel
theorem dX11_run_14 : decode cX11_run 14 = .ok (.getfield 23, 3) := by decide +kernel
theorem dX11_run_17 : decode cX11_run 17 = .ok (.aload_n 0, 1) := by decide +kernel
theorem dX11_run_18 : decode cX11_run 18 = .ok (.getfield 19, 3) := by decide +kernel
theorem dX11_run_21 : decode cX11_run 21 = .ok (.invokevirtual 280, 3) := by decide +kernel
theorem dX11_run_24 : decode cX11_run 24 = .ok (.iconst 0, 1) := by decide +kernel
theorem dX11_run_25 : decode cX11_run 25 = .ok (.istore_n 2, 1) := by decide +kernel
theorem dX11_run_26 : decode cX11_run 26 = .ok (.iload_n 2, 1) := by decide +kernel
theorem dX11_run_27 : decode cX11_run 27 = .ok (.bipush 99, 2) := by decide +kernel
theorem dX11_run_29 : decode cX11_run 29 = .ok (.if_icmp .gt 35, 3) := by decide +kernel
theorem dX11_run_32 : decode cX11_run 32 = .ok (.aload_n 0, 1) := by decide +kernel
theorem dX11_run_33 : decode cX11_run 33 = .ok (.getfield 23, 3) := by decide +kernel
theorem dX11_run_36 : decode cX11_run 36 = .ok (.getfield 112, 3) := by decide +kernel
theorem dX11_run_39 : decode cX11_run 39 = .ok (.iload_n 1, 1) := by decide +kernel
theorem dX11_run_40 : decode cX11_run 40 = .ok (.iaload, 1) := by decide +kernel
theorem dX11_run_41 : decode cX11_run 41 = .ok (.ifCond .ne 5, 3) := by decide +kernel
theorem dX11_run_44 : decode cX11_run 44 = .ok (.iload_n 2, 1) := by decide +kernel
theorem dX11_run_45 : decode cX11_run 45 = .ok (.ireturn, 1) := by decide +kernel
theorem dX11_run_46 : decode cX11_run 46 = .ok (.aload_n 0, 1) := by decide +kernel
theorem dX11_run_47 : decode cX11_run 47 = .ok (.getfield 23, 3) := by decide +kernel
theorem dX11_run_50 : decode cX11_run 50 = .ok (.aload_n 0, 1) := by decide +kernel
theorem dX11_run_51 : decode cX11_run 51 = .ok (.getfield 51, 3) := by decide +kernel
theorem dX11_run_54 : decode cX11_run 54 = .ok (.invokevirtual 185, 3) := by decide +kernel
theorem dX11_run_57 : decode cX11_run 57 = .ok (.pop, 1) := by decide +kernel
theorem dX11_run_58 : decode cX11_run 58 = .ok (.iinc 2 1, 3) := by decide +kernel
theorem dX11_run_61 : decode cX11_run 61 = .ok (.goto (-35), 3) := by decide +kernel
theorem dX11_run_64 : decode cX11_run 64 = .ok (.iconst (-1), 1) := by decide +kernel
theorem dX11_run_65 : decode cX11_run 65 = .ok (.ireturn, 1) := by decide +kernel
theorem dX11_rests_0 : decode cX11_rests 0 = .ok (.iload_n 1, 1) := by decide +kernel
theorem dX11_rests_1 : decode cX11_rests 1 = .ok (.invokestatic 283, 3) := by decide +kernel
theorem dX11_rests_4 : decode cX11_rests 4 = .ok (.ifCond .eq 23, 3) := by decide +kernel
theorem dX11_rests_7 : decode cX11_rests 7 = .ok (.iload_n 2, 1) := by decide +kernel
theorem dX11_rests_8 : decode cX11_rests 8 = .ok (.invokestatic 283, 3) := by decide +kernel
theorem dX11_rests_11 : decode cX11_rests 11 = .ok (.ifCond .eq 16, 3) := by decide +kernel
theorem dX11_rests_14 : decode cX11_rests 14 = .ok (.iload_n 3, 1) := by decide +kernel
theorem dX11_rests_15 : decode cX11_rests 15 = .ok (.invokestatic 283, 3) := by decide +kernel
theorem dX11_rests_18 : decode cX11_rests 18 = .ok (.ifCond .eq 9, 3) := by decide +kernel
theorem dX11_rests_21 : decode cX11_rests 21 = .ok (.iload 4, 2) := by decide +kernel
theorem dX11_rests_23 : decode cX11_rests 23 = .ok (.iconst (-1), 1) := by decide +kernel
theorem dX11_rests_24 : decode cX11_rests 24 = .ok (.if_icmp .ge 11, 3) := by decide +kernel
theorem dX11_rests_27 : decode cX11_rests 27 = .ok (.new 286, 3) := by decide +kernel
theorem dX11_rests_30 : decode cX11_rests 30 = .ok (.dup, 1) := by decide +kernel
theorem dX11_rests_31 : decode cX11_rests 31 = .ok (.invokespecial 288, 3) := by decide +kernel
theorem dX11_rests_34 : decode cX11_rests 34 = .ok (.athrow, 1) := by decide +kernel
theorem dX11_rests_35 : decode cX11_rests 35 = .ok (.iconst 0, 1) := by decide +kernel
theorem dX11_rests_36 : decode cX11_rests 36 = .ok (.istore 5, 2) := by decide +kernel
theorem dX11_rests_38 : decode cX11_rests 38 = .ok (.iconst 0, 1) := by decide +kernel
theorem dX11_rests_39 : decode cX11_rests 39 = .ok (.istore 6, 2) := by decide +kernel
theorem dX11_rests_41 : decode cX11_rests 41 = .ok (.iload 6, 2) := by decide +kernel
theorem dX11_rests_43 : decode cX11_rests 43 = .ok (.iconst 4, 1) := by decide +kernel
theorem dX11_rests_44 : decode cX11_rests 44 = .ok (.if_icmp .ge 33, 3) := by decide +kernel
theorem dX11_rests_47 : decode cX11_rests 47 = .ok (.iload_n 1, 1) := by decide +kernel
theorem dX11_rests_48 : decode cX11_rests 48 = .ok (.iload_n 2, 1) := by decide +kernel
theorem dX11_rests_49 : decode cX11_rests 49 = .ok (.iload_n 3, 1) := by decide +kernel
theorem dX11_rests_50 : decode cX11_rests 50 = .ok (.iload 6, 2) := by decide +kernel
theorem dX11_rests_52 : decode cX11_rests 52 = .ok (.invokestatic 289, 3) := by decide +kernel
theorem dX11_rests_55 : decode cX11_rests 55 = .ok (.ifCond .eq 16, 3) := by decide +kernel
theorem dX11_rests_58 : decode cX11_rests 58 = .ok (.iload 5, 2) := by decide +kernel
theorem dX11_rests_60 : decode cX11_rests 60 = .ok (.iload 4, 2) := by decide +kernel
theorem dX11_rests_62 : decode cX11_rests 62 = .ok (.if_icmp .ne 6, 3) := by decide +kernel
theorem dX11_rests_65 : decode cX11_rests 65 = .ok (.iload 6, 2) := by decide +kernel
theorem dX11_rests_67 : decode cX11_rests 67 = .ok (.ireturn, 1) := by decide +kernel
theorem dX11_rests_68 : decode cX11_rests 68 = .ok (.iinc 5 1, 3) := by decide +kernel
theorem dX11_rests_71 : decode cX11_rests 71 = .ok (.iinc 6 1, 3) := by decide +kernel
theorem dX11_rests_74 : decode cX11_rests 74 = .ok (.goto (-33), 3) := by decide +kernel
theorem dX11_rests_77 : decode cX11_rests 77 = .ok (.iload 4, 2) := by decide +kernel
theorem dX11_rests_79 : decode cX11_rests 79 = .ok (.iconst (-1), 1) := by decide +kernel
theorem dX11_rests_80 : decode cX11_rests 80 = .ok (.if_icmp .eq 11, 3) := by decide +kernel
theorem dX11_rests_83 : decode cX11_rests 83 = .ok (.new 286, 3) := by decide +kernel
theorem dX11_rests_86 : decode cX11_rests 86 = .ok (.dup, 1) := by decide +kernel
theorem dX11_rests_87 : decode cX11_rests 87 = .ok (.invokespecial 288, 3) := by decide +kernel
theorem dX11_rests_90 : decode cX11_rests 90 = .ok (.athrow, 1) := by decide +kernel
theorem dX11_rests_91 : decode cX11_rests 91 = .ok (.iload 5, 2) := by decide +kernel
theorem dX11_rests_93 : decode cX11_rests 93 = .ok (.ireturn, 1) := by decide +kernel
theorem dX11_years_0 : decode cX11_years 0 = .ok (.iload_n 1, 1) := by decide +kernel
theorem dX11_years_1 : decode cX11_years 1 = .ok (.ifCond .lt 30, 3) := by decide +kernel
theorem dX11_years_4 : decode cX11_years 4 = .ok (.iload_n 1, 1) := by decide +kernel
theorem dX11_years_5 : decode cX11_years 5 = .ok (.sipush 9999, 3) := by decide +kernel
theorem dX11_years_8 : decode cX11_years 8 = .ok (.if_icmp .gt 23, 3) := by decide +kernel
theorem dX11_years_11 : decode cX11_years 11 = .ok (.iload_n 2, 1) := by decide +kernel
theorem dX11_years_12 : decode cX11_years 12 = .ok (.iconst 1, 1) := by decide +kernel
theorem dX11_years_13 : decode cX11_years 13 = .ok (.if_icmp .lt 18, 3) := by decide +kernel
theorem dX11_years_16 : decode cX11_years 16 = .ok (.iload_n 2, 1) := by decide +kernel
theorem dX11_years_17 : decode cX11_years 17 = .ok (.bipush 99, 2) := by decide +kernel
theorem dX11_years_19 : decode cX11_years 19 = .ok (.if_icmp .gt 12, 3) := by decide +kernel
theorem dX11_years_22 : decode cX11_years 22 = .ok (.iload_n 3, 1) := by decide +kernel
theorem dX11_years_23 : decode cX11_years 23 = .ok (.ifCond .lt 8, 3) := by decide +kernel
theorem dX11_years_26 : decode cX11_years 26 = .ok (.iload_n 3, 1) := by decide +kernel
theorem dX11_years_27 : decode cX11_years 27 = .ok (.iconst 2, 1) := by decide +kernel
theorem dX11_years_28 : decode cX11_years 28 = .ok (.if_icmp .le 5, 3) := by decide +kernel
theorem dX11_years_31 : decode cX11_years 31 = .ok (.iconst (-1), 1) := by decide +kernel
theorem dX11_years_32 : decode cX11_years 32 = .ok (.ireturn, 1) := by decide +kernel
theorem dX11_years_33 : decode cX11_years 33 = .ok (.aload_n 0, 1) := by decide +kernel
theorem dX11_years_34 : decode cX11_years 34 = .ok (.getfield 23, 3) := by decide +kernel
theorem dX11_years_37 : decode cX11_years 37 = .ok (.aload_n 0, 1) := by decide +kernel
theorem dX11_years_38 : decode cX11_years 38 = .ok (.getfield 19, 3) := by decide +kernel
theorem dX11_years_41 : decode cX11_years 41 = .ok (.invokevirtual 280, 3) := by decide +kernel
theorem dX11_years_44 : decode cX11_years 44 = .ok (.aload_n 0, 1) := by decide +kernel
theorem dX11_years_45 : decode cX11_years 45 = .ok (.getfield 40, 3) := by decide +kernel
theorem dX11_years_48 : decode cX11_years 48 = .ok (.aload_n 0, 1) := by decide +kernel
theorem dX11_years_49 : decode cX11_years 49 = .ok (.getfield 51, 3) := by decide +kernel
theorem dX11_years_52 : decode cX11_years 52 = .ok (.aload_n 0, 1) := by decide +kernel
theorem dX11_years_53 : decode cX11_years 53 = .ok (.getfield 23, 3) := by decide +kernel
theorem dX11_years_56 : decode cX11_years 56 = .ok (.iload_n 1, 1) := by decide +kernel
theorem dX11_years_57 : decode cX11_years 57 = .ok (.iload_n 2, 1) := by decide +kernel
theorem dX11_years_58 : decode cX11_years 58 = .ok (.invokevirtual 293, 3) := by decide +kernel
theorem dX11_years_61 : decode cX11_years 61 = .ok (.iload_n 3, 1) := by decide +kernel
theorem dX11_years_62 : decode cX11_years 62 = .ok (.ifCond .ne 11, 3) := by decide +kernel
theorem dX11_years_65 : decode cX11_years 65 = .ok (.aload_n 0, 1) := by decide +kernel
theorem dX11_years_66 : decode cX11_years 66 = .ok (.getfield 40, 3) := by decide +kernel
theorem dX11_years_69 : decode cX11_years 69 = .ok (.getfield 296, 3) := by decide +kernel
theorem dX11_years_72 : decode cX11_years 72 = .ok (.ireturn, 1) := by decide +kernel
theorem dX11_years_73 : decode cX11_years 73 = .ok (.iload_n 3, 1) := by decide +kernel
theorem dX11_years_74 : decode cX11_years 74 = .ok (.iconst 1, 1) := by decide +kernel
theorem dX11_years_75 : decode cX11_years 75 = .ok (.if_icmp .ne 13, 3) := by decide +kernel
theorem dX11_years_78 : decode cX11_years 78 = .ok (.aload_n 0, 1) := by decide +kernel
theorem dX11_years_79 : decode cX11_years 79 = .ok (.getfield 40, 3) := by decide +kernel
theorem dX11_years_82 : decode cX11_years 82 = .ok (.getfield 299, 3) := by decide +kernel
theorem dX11_years_85 : decode cX11_years 85 = .ok (.goto 16, 3) := by decide +kernel
theorem dX11_years_88 : decode cX11_years 88 = .ok (.aload_n 0, 1) := by decide +kernel
theorem dX11_years_89 : decode cX11_years 89 = .ok (.getfield 51, 3) := by decide +kernel
theorem dX11_years_92 : decode cX11_years 92 = .ok (.aload_n 0, 1) := by decide +kernel
theorem dX11_years_93 : decode cX11_years 93 = .ok (.getfield 23, 3) := by decide +kernel
theorem dX11_years_96 : decode cX11_years 96 = .ok (.bipush 6, 2) := by decide +kernel
theorem dX11_years_98 : decode cX11_years 98 = .ok (.invokestatic 203, 3) := by decide +kernel
theorem dX11_years_101 : decode cX11_years 101 = .ok (.ireturn, 1) := by decide +kernel
theorem dX11_notch_0 : decode cX11_notch 0 = .ok (.iload_n 1, 1) := by decide +kernel
theorem dX11_notch_1 : decode cX11_notch 1 = .ok (.ifCond .lt 8, 3) := by decide +kernel
theorem dX11_notch_4 : decode cX11_notch 4 = .ok (.iload_n 1, 1) := by decide +kernel
theorem dX11_notch_5 : decode cX11_notch 5 = .ok (.iconst 4, 1) := by decide +kernel
theorem dX11_notch_6 : decode cX11_notch 6 = .ok (.if_icmp .lt 5, 3) := by decide +kernel
theorem dX11_notch_9 : decode cX11_notch 9 = .ok (.iconst 0, 1) := by decide +kernel
theorem dX11_notch_10 : decode cX11_notch 10 = .ok (.ireturn, 1) := by decide +kernel
theorem dX11_notch_11 : decode cX11_notch 11 = .ok (.aload_n 0, 1) := by decide +kernel
theorem dX11_notch_12 : decode cX11_notch 12 = .ok (.getfield 33, 3) := by decide +kernel
theorem dX11_notch_15 : decode cX11_notch 15 = .ok (.iload_n 1, 1) := by decide +kernel
theorem dX11_notch_16 : decode cX11_notch 16 = .ok (.aaload, 1) := by decide +kernel
theorem dX11_notch_17 : decode cX11_notch 17 = .ok (.astore_n 3, 1) := by decide +kernel
theorem dX11_notch_18 : decode cX11_notch 18 = .ok (.iload_n 2, 1) := by decide +kernel
theorem dX11_notch_19 : decode cX11_notch 19 = .ok (.ifCond .ne 33, 3) := by decide +kernel
theorem dX11_notch_22 : decode cX11_notch 22 = .ok (.aload_n 3, 1) := by decide +kernel
theorem dX11_notch_23 : decode cX11_notch 23 = .ok (.aload_n 0, 1) := by decide +kernel
theorem dX11_notch_24 : decode cX11_notch 24 = .ok (.getfield 19, 3) := by decide +kernel
theorem dX11_notch_27 : decode cX11_notch 27 = .ok (.invokevirtual 280, 3) := by decide +kernel
theorem dX11_notch_30 : decode cX11_notch 30 = .ok (.aload_n 3, 1) := by decide +kernel
theorem dX11_notch_31 : decode cX11_notch 31 = .ok (.aload_n 0, 1) := by decide +kernel
theorem dX11_notch_32 : decode cX11_notch 32 = .ok (.getfield 19, 3) := by decide +kernel
theorem dX11_notch_35 : decode cX11_notch 35 = .ok (.invokevirtual 302, 3) := by decide +kernel
theorem dX11_notch_38 : decode cX11_notch 38 = .ok (.aload_n 0, 1) := by decide +kernel
theorem dX11_notch_39 : decode cX11_notch 39 = .ok (.dup, 1) := by decide +kernel
theorem dX11_notch_40 : decode cX11_notch 40 = .ok (.getfield 44, 3) := by decide +kernel
theorem dX11_notch_43 : decode cX11_notch 43 = .ok (.iconst 1, 1) := by decide +kernel
theorem dX11_notch_44 : decode cX11_notch 44 = .ok (.iload_n 1, 1) := by decide +kernel
theorem dX11_notch_45 : decode cX11_notch 45 = .ok (.ishl, 1) := by decide +kernel
theorem dX11_notch_46 : decode cX11_notch 46 = .ok (.ior, 1) := by decide +kernel
theorem dX11_notch_47 : decode cX11_notch 47 = .ok (.putfield 44, 3) := by decide +kernel
theorem dX11_notch_50 : decode cX11_notch 50 = .ok (.iconst 1, 1) := by decide +kernel
theorem dX11_notch_51 : decode cX11_notch 51 = .ok (.ireturn, 1) := by decide +kernel
theorem dX11_notch_52 : decode cX11_notch 52 = .ok (.aload_n 0, 1) := by decide +kernel
theorem dX11_notch_53 : decode cX11_notch 53 = .ok (.getfield 44, 3) := by decide +kernel
theorem dX11_notch_56 : decode cX11_notch 56 = .ok (.iload_n 1, 1) := by decide +kernel
theorem dX11_notch_57 : decode cX11_notch 57 = .ok (.ishr, 1) := by decide +kernel
theorem dX11_notch_58 : decode cX11_notch 58 = .ok (.iconst 1, 1) := by decide +kernel
theorem dX11_notch_59 : decode cX11_notch 59 = .ok (.iand, 1) := by decide +kernel
theorem dX11_notch_60 : decode cX11_notch 60 = .ok (.ifCond .ne 5, 3) := by decide +kernel
theorem dX11_notch_63 : decode cX11_notch 63 = .ok (.iconst 0, 1) := by decide +kernel
theorem dX11_notch_64 : decode cX11_notch 64 = .ok (.ireturn, 1) := by decide +kernel
theorem dX11_notch_65 : decode cX11_notch 65 = .ok (.aload_n 0, 1) := by decide +kernel
theorem dX11_notch_66 : decode cX11_notch 66 = .ok (.getfield 19, 3) := by decide +kernel
theorem dX11_notch_69 : decode cX11_notch 69 = .ok (.aload_n 3, 1) := by decide +kernel
theorem dX11_notch_70 : decode cX11_notch 70 = .ok (.invokevirtual 280, 3) := by decide +kernel
theorem dX11_notch_73 : decode cX11_notch 73 = .ok (.aload_n 0, 1) := by decide +kernel
theorem dX11_notch_74 : decode cX11_notch 74 = .ok (.getfield 19, 3) := by decide +kernel
theorem dX11_notch_77 : decode cX11_notch 77 = .ok (.aload_n 3, 1) := by decide +kernel
theorem dX11_notch_78 : decode cX11_notch 78 = .ok (.invokevirtual 302, 3) := by decide +kernel
theorem dX11_notch_81 : decode cX11_notch 81 = .ok (.aload_n 0, 1) := by decide +kernel
theorem dX11_notch_82 : decode cX11_notch 82 = .ok (.getfield 29, 3) := by decide +kernel
theorem dX11_notch_85 : decode cX11_notch 85 = .ok (.invokevirtual 94, 3) := by decide +kernel
theorem dX11_notch_88 : decode cX11_notch 88 = .ok (.iconst 1, 1) := by decide +kernel
theorem dX11_notch_89 : decode cX11_notch 89 = .ok (.ireturn, 1) := by decide +kernel
theorem dX11_count_0 : decode cX11_count 0 = .ok (.iload_n 1, 1) := by decide +kernel
theorem dX11_count_1 : decode cX11_count 1 = .ok (.tableswitch 173 0 11 #[63, 71, 79, 87, 95, 110, 122, 130, 138, 146, 157, 165], 63) := by decide +kernel
theorem dX11_count_64 : decode cX11_count 64 = .ok (.aload_n 0, 1) := by decide +kernel
theorem dX11_count_65 : decode cX11_count 65 = .ok (.getfield 51, 3) := by decide +kernel
theorem dX11_count_68 : decode cX11_count 68 = .ok (.getfield 305, 3) := by decide +kernel
theorem dX11_count_71 : decode cX11_count 71 = .ok (.ireturn, 1) := by decide +kernel
theorem dX11_count_72 : decode cX11_count 72 = .ok (.aload_n 0, 1) := by decide +kernel
theorem dX11_count_73 : decode cX11_count 73 = .ok (.getfield 51, 3) := by decide +kernel
theorem dX11_count_76 : decode cX11_count 76 = .ok (.getfield 308, 3) := by decide +kernel
theorem dX11_count_79 : decode cX11_count 79 = .ok (.ireturn, 1) := by decide +kernel
theorem dX11_count_80 : decode cX11_count 80 = .ok (.aload_n 0, 1) := by decide +kernel
theorem dX11_count_81 : decode cX11_count 81 = .ok (.getfield 51, 3) := by decide +kernel
theorem dX11_count_84 : decode cX11_count 84 = .ok (.getfield 222, 3) := by decide +kernel
theorem dX11_count_87 : decode cX11_count 87 = .ok (.ireturn, 1) := by decide +kernel
theorem dX11_count_88 : decode cX11_count 88 = .ok (.aload_n 0, 1) := by decide +kernel
theorem dX11_count_89 : decode cX11_count 89 = .ok (.getfield 19, 3) := by decide +kernel
theorem dX11_count_92 : decode cX11_count 92 = .ok (.getfield 311, 3) := by decide +kernel
theorem dX11_count_95 : decode cX11_count 95 = .ok (.ireturn, 1) := by decide +kernel
theorem dX11_count_96 : decode cX11_count 96 = .ok (.aload_n 0, 1) := by decide +kernel
theorem dX11_count_97 : decode cX11_count 97 = .ok (.getfield 51, 3) := by decide +kernel
theorem dX11_count_100 : decode cX11_count 100 = .ok (.aload_n 0, 1) := by decide +kernel
theorem dX11_count_101 : decode cX11_count 101 = .ok (.getfield 19, 3) := by decide +kernel
theorem dX11_count_104 : decode cX11_count 104 = .ok (.getfield 311, 3) := by decide +kernel
theorem dX11_count_107 : decode cX11_count 107 = .ok (.invokevirtual 314, 3) := by decide +kernel
theorem dX11_count_110 : decode cX11_count 110 = .ok (.ireturn, 1) := by decide +kernel
theorem dX11_count_111 : decode cX11_count 111 = .ok (.aload_n 0, 1) := by decide +kernel
theorem dX11_count_112 : decode cX11_count 112 = .ok (.getfield 19, 3) := by decide +kernel
theorem dX11_count_115 : decode cX11_count 115 = .ok (.aload_n 0, 1) := by decide +kernel
theorem dX11_count_116 : decode cX11_count 116 = .ok (.getfield 51, 3) := by decide +kernel
theorem dX11_count_119 : decode cX11_count 119 = .ok (.invokevirtual 317, 3) := by decide +kernel
theorem dX11_count_122 : decode cX11_count 122 = .ok (.ireturn, 1) := by decide +kernel
theorem dX11_count_123 : decode cX11_count 123 = .ok (.aload_n 0, 1) := by decide +kernel
theorem dX11_count_124 : decode cX11_count 124 = .ok (.getfield 19, 3) := by decide +kernel
theorem dX11_count_127 : decode cX11_count 127 = .ok (.getfield 320, 3) := by decide +kernel
theorem dX11_count_130 : decode cX11_count 130 = .ok (.ireturn, 1) := by decide +kernel
theorem dX11_count_131 : decode cX11_count 131 = .ok (.aload_n 0, 1) := by decide +kernel
theorem dX11_count_132 : decode cX11_count 132 = .ok (.getfield 19, 3) := by decide +kernel
theorem dX11_count_135 : decode cX11_count 135 = .ok (.getfield 323, 3) := by decide +kernel
theorem dX11_count_138 : decode cX11_count 138 = .ok (.ireturn, 1) := by decide +kernel
theorem dX11_count_139 : decode cX11_count 139 = .ok (.aload_n 0, 1) := by decide +kernel
theorem dX11_count_140 : decode cX11_count 140 = .ok (.getfield 61, 3) := by decide +kernel
theorem dX11_count_143 : decode cX11_count 143 = .ok (.getfield 326, 3) := by decide +kernel
theorem dX11_count_146 : decode cX11_count 146 = .ok (.ireturn, 1) := by decide +kernel
theorem dX11_count_147 : decode cX11_count 147 = .ok (.aload_n 0, 1) := by decide +kernel
theorem dX11_count_148 : decode cX11_count 148 = .ok (.getfield 19, 3) := by decide +kernel
theorem dX11_count_151 : decode cX11_count 151 = .ok (.getfield 329, 3) := by decide +kernel
theorem dX11_count_154 : decode cX11_count 154 = .ok (.invokestatic 332, 3) := by decide +kernel
theorem dX11_count_157 : decode cX11_count 157 = .ok (.ireturn, 1) := by decide +kernel
theorem dX11_count_158 : decode cX11_count 158 = .ok (.aload_n 0, 1) := by decide +kernel
theorem dX11_count_159 : decode cX11_count 159 = .ok (.getfield 29, 3) := by decide +kernel
theorem dX11_count_162 : decode cX11_count 162 = .ok (.getfield 337, 3) := by decide +kernel
theorem dX11_count_165 : decode cX11_count 165 = .ok (.ireturn, 1) := by decide +kernel
theorem dX11_count_166 : decode cX11_count 166 = .ok (.aload_n 0, 1) := by decide +kernel
theorem dX11_count_167 : decode cX11_count 167 = .ok (.getfield 10, 3) := by decide +kernel
theorem dX11_count_170 : decode cX11_count 170 = .ok (.getfield 72, 3) := by decide +kernel
theorem dX11_count_173 : decode cX11_count 173 = .ok (.ireturn, 1) := by decide +kernel
theorem dX11_count_174 : decode cX11_count 174 = .ok (.iconst (-1), 1) := by decide +kernel
theorem dX11_count_175 : decode cX11_count 175 = .ok (.ireturn, 1) := by decide +kernel
theorem dX11_isRent_0 : decode cX11_isRent 0 = .ok (.iload_n 0, 1) := by decide +kernel
theorem dX11_isRent_1 : decode cX11_isRent 1 = .ok (.ifCond .lt 13, 3) := by decide +kernel
theorem dX11_isRent_4 : decode cX11_isRent 4 = .ok (.iload_n 0, 1) := by decide +kernel
theorem dX11_isRent_5 : decode cX11_isRent 5 = .ok (.bipush 9, 2) := by decide +kernel
theorem dX11_isRent_7 : decode cX11_isRent 7 = .ok (.if_icmp .gt 7, 3) := by decide +kernel
theorem dX11_isRent_10 : decode cX11_isRent 10 = .ok (.iconst 1, 1) := by decide +kernel
theorem dX11_isRent_11 : decode cX11_isRent 11 = .ok (.goto 4, 3) := by decide +kernel
theorem dX11_isRent_14 : decode cX11_isRent 14 = .ok (.iconst 0, 1) := by decide +kernel
theorem dX11_isRent_15 : decode cX11_isRent 15 = .ok (.ireturn, 1) := by decide +kernel
theorem dX11_isAtRest_0 : decode cX11_isAtRest 0 = .ok (.iload_n 3, 1) := by decide +kernel
theorem dX11_isAtRest_1 : decode cX11_isAtRest 1 = .ok (.iconst 1, 1) := by decide +kernel
theorem dX11_isAtRest_2 : decode cX11_isAtRest 2 = .ok (.ishr, 1) := by decide +kernel
theorem dX11_isAtRest_3 : decode cX11_isAtRest 3 = .ok (.istore 4, 2) := by decide +kernel
theorem dX11_isAtRest_5 : decode cX11_isAtRest 5 = .ok (.iload_n 3, 1) := by decide +kernel
theorem dX11_isAtRest_6 : decode cX11_isAtRest 6 = .ok (.iconst 1, 1) := by decide +kernel
theorem dX11_isAtRest_7 : decode cX11_isAtRest 7 = .ok (.iand, 1) := by decide +kernel
theorem dX11_isAtRest_8 : decode cX11_isAtRest 8 = .ok (.istore 5, 2) := by decide +kernel
theorem dX11_isAtRest_10 : decode cX11_isAtRest 10 = .ok (.iload_n 0, 1) := by decide +kernel
theorem dX11_isAtRest_11 : decode cX11_isAtRest 11 = .ok (.iload_n 1, 1) := by decide +kernel
theorem dX11_isAtRest_12 : decode cX11_isAtRest 12 = .ok (.iload_n 2, 1) := by decide +kernel
theorem dX11_isAtRest_13 : decode cX11_isAtRest 13 = .ok (.iload 4, 2) := by decide +kernel
theorem dX11_isAtRest_15 : decode cX11_isAtRest 15 = .ok (.iload 5, 2) := by decide +kernel
theorem dX11_isAtRest_17 : decode cX11_isAtRest 17 = .ok (.invokestatic 338, 3) := by decide +kernel
theorem dX11_isAtRest_20 : decode cX11_isAtRest 20 = .ok (.iload_n 0, 1) := by decide +kernel
theorem dX11_isAtRest_21 : decode cX11_isAtRest 21 = .ok (.iload_n 1, 1) := by decide +kernel
theorem dX11_isAtRest_22 : decode cX11_isAtRest 22 = .ok (.iload_n 2, 1) := by decide +kernel
theorem dX11_isAtRest_23 : decode cX11_isAtRest 23 = .ok (.iconst 1, 1) := by decide +kernel
theorem dX11_isAtRest_24 : decode cX11_isAtRest 24 = .ok (.iload 4, 2) := by decide +kernel
theorem dX11_isAtRest_26 : decode cX11_isAtRest 26 = .ok (.isub, 1) := by decide +kernel
theorem dX11_isAtRest_27 : decode cX11_isAtRest 27 = .ok (.iload 5, 2) := by decide +kernel
theorem dX11_isAtRest_29 : decode cX11_isAtRest 29 = .ok (.invokestatic 338, 3) := by decide +kernel
theorem dX11_isAtRest_32 : decode cX11_isAtRest 32 = .ok (.if_icmp .lt 32, 3) := by decide +kernel
theorem dX11_isAtRest_35 : decode cX11_isAtRest 35 = .ok (.iload_n 0, 1) := by decide +kernel
theorem dX11_isAtRest_36 : decode cX11_isAtRest 36 = .ok (.iload_n 1, 1) := by decide +kernel
theorem dX11_isAtRest_37 : decode cX11_isAtRest 37 = .ok (.iload_n 2, 1) := by decide +kernel
theorem dX11_isAtRest_38 : decode cX11_isAtRest 38 = .ok (.iload 5, 2) := by decide +kernel
theorem dX11_isAtRest_40 : decode cX11_isAtRest 40 = .ok (.iload 4, 2) := by decide +kernel
theorem dX11_isAtRest_42 : decode cX11_isAtRest 42 = .ok (.invokestatic 338, 3) := by decide +kernel
theorem dX11_isAtRest_45 : decode cX11_isAtRest 45 = .ok (.iload_n 0, 1) := by decide +kernel
theorem dX11_isAtRest_46 : decode cX11_isAtRest 46 = .ok (.iload_n 1, 1) := by decide +kernel
theorem dX11_isAtRest_47 : decode cX11_isAtRest 47 = .ok (.iload_n 2, 1) := by decide +kernel
theorem dX11_isAtRest_48 : decode cX11_isAtRest 48 = .ok (.iconst 1, 1) := by decide +kernel
theorem dX11_isAtRest_49 : decode cX11_isAtRest 49 = .ok (.iload 5, 2) := by decide +kernel
theorem dX11_isAtRest_51 : decode cX11_isAtRest 51 = .ok (.isub, 1) := by decide +kernel
theorem dX11_isAtRest_52 : decode cX11_isAtRest 52 = .ok (.iload 4, 2) := by decide +kernel
theorem dX11_isAtRest_54 : decode cX11_isAtRest 54 = .ok (.invokestatic 338, 3) := by decide +kernel
theorem dX11_isAtRest_57 : decode cX11_isAtRest 57 = .ok (.if_icmp .lt 7, 3) := by decide +kernel
theorem dX11_isAtRest_60 : decode cX11_isAtRest 60 = .ok (.iconst 1, 1) := by decide +kernel
theorem dX11_isAtRest_61 : decode cX11_isAtRest 61 = .ok (.goto 4, 3) := by decide +kernel
theorem dX11_isAtRest_64 : decode cX11_isAtRest 64 = .ok (.iconst 0, 1) := by decide +kernel
theorem dX11_isAtRest_65 : decode cX11_isAtRest 65 = .ok (.ireturn, 1) := by decide +kernel
theorem dX11_rentOf_0 : decode cX11_rentOf 0 = .ok (.iload_n 3, 1) := by decide +kernel
theorem dX11_rentOf_1 : decode cX11_rentOf 1 = .ok (.iload 4, 2) := by decide +kernel
theorem dX11_rentOf_3 : decode cX11_rentOf 3 = .ok (.if_icmp .ne 14, 3) := by decide +kernel
theorem dX11_rentOf_6 : decode cX11_rentOf 6 = .ok (.iload_n 3, 1) := by decide +kernel
theorem dX11_rentOf_7 : decode cX11_rentOf 7 = .ok (.iconst 1, 1) := by decide +kernel
theorem dX11_rentOf_8 : decode cX11_rentOf 8 = .ok (.if_icmp .ne 7, 3) := by decide +kernel
theorem dX11_rentOf_11 : decode cX11_rentOf 11 = .ok (.iload_n 0, 1) := by decide +kernel
theorem dX11_rentOf_12 : decode cX11_rentOf 12 = .ok (.goto 4, 3) := by decide +kernel
theorem dX11_rentOf_15 : decode cX11_rentOf 15 = .ok (.iload_n 1, 1) := by decide +kernel
theorem dX11_rentOf_16 : decode cX11_rentOf 16 = .ok (.ireturn, 1) := by decide +kernel
theorem dX11_rentOf_17 : decode cX11_rentOf 17 = .ok (.iload_n 3, 1) := by decide +kernel
theorem dX11_rentOf_18 : decode cX11_rentOf 18 = .ok (.iconst 1, 1) := by decide +kernel
theorem dX11_rentOf_19 : decode cX11_rentOf 19 = .ok (.if_icmp .ne 7, 3) := by decide +kernel
theorem dX11_rentOf_22 : decode cX11_rentOf 22 = .ok (.iconst 0, 1) := by decide +kernel
theorem dX11_rentOf_23 : decode cX11_rentOf 23 = .ok (.goto 4, 3) := by decide +kernel
theorem dX11_rentOf_26 : decode cX11_rentOf 26 = .ok (.iload_n 2, 1) := by decide +kernel
theorem dX11_rentOf_27 : decode cX11_rentOf 27 = .ok (.ireturn, 1) := by decide +kernel
theorem dX11_isBetterSet_0 : decode cX11_isBetterSet 0 = .ok (.iload_n 1, 1) := by decide +kernel
theorem dX11_isBetterSet_1 : decode cX11_isBetterSet 1 = .ok (.iconst (-1), 1) := by decide +kernel
theorem dX11_isBetterSet_2 : decode cX11_isBetterSet 2 = .ok (.if_icmp .ne 5, 3) := by decide +kernel
theorem dX11_isBetterSet_5 : decode cX11_isBetterSet 5 = .ok (.iconst 1, 1) := by decide +kernel
theorem dX11_isBetterSet_6 : decode cX11_isBetterSet 6 = .ok (.ireturn, 1) := by decide +kernel
theorem dX11_isBetterSet_7 : decode cX11_isBetterSet 7 = .ok (.iload_n 0, 1) := by decide +kernel
theorem dX11_isBetterSet_8 : decode cX11_isBetterSet 8 = .ok (.invokestatic 332, 3) := by decide +kernel
theorem dX11_isBetterSet_11 : decode cX11_isBetterSet 11 = .ok (.istore_n 2, 1) := by decide +kernel
theorem dX11_isBetterSet_12 : decode cX11_isBetterSet 12 = .ok (.iload_n 1, 1) := by decide +kernel
theorem dX11_isBetterSet_13 : decode cX11_isBetterSet 13 = .ok (.invokestatic 332, 3) := by decide +kernel
theorem dX11_isBetterSet_16 : decode cX11_isBetterSet 16 = .ok (.istore_n 3, 1) := by decide +kernel
theorem dX11_isBetterSet_17 : decode cX11_isBetterSet 17 = .ok (.iload_n 2, 1) := by decide +kernel
theorem dX11_isBetterSet_18 : decode cX11_isBetterSet 18 = .ok (.iload_n 3, 1) := by decide +kernel
theorem dX11_isBetterSet_19 : decode cX11_isBetterSet 19 = .ok (.if_icmp .lt 13, 3) := by decide +kernel
theorem dX11_isBetterSet_22 : decode cX11_isBetterSet 22 = .ok (.iload_n 2, 1) := by decide +kernel
theorem dX11_isBetterSet_23 : decode cX11_isBetterSet 23 = .ok (.iload_n 3, 1) := by decide +kernel
theorem dX11_isBetterSet_24 : decode cX11_isBetterSet 24 = .ok (.if_icmp .ne 12, 3) := by decide +kernel
theorem dX11_isBetterSet_27 : decode cX11_isBetterSet 27 = .ok (.iload_n 0, 1) := by decide +kernel
theorem dX11_isBetterSet_28 : decode cX11_isBetterSet 28 = .ok (.iload_n 1, 1) := by decide +kernel
theorem dX11_isBetterSet_29 : decode cX11_isBetterSet 29 = .ok (.if_icmp .ge 7, 3) := by decide +kernel
theorem dX11_isBetterSet_32 : decode cX11_isBetterSet 32 = .ok (.iconst 1, 1) := by decide +kernel
theorem dX11_isBetterSet_33 : decode cX11_isBetterSet 33 = .ok (.goto 4, 3) := by decide +kernel
theorem dX11_isBetterSet_36 : decode cX11_isBetterSet 36 = .ok (.iconst 0, 1) := by decide +kernel
theorem dX11_isBetterSet_37 : decode cX11_isBetterSet 37 = .ok (.ireturn, 1) := by decide +kernel
theorem dX12_thrown_0 : decode cX12_thrown 0 = .ok (.aload_n 0, 1) := by decide +kernel
theorem dX12_thrown_1 : decode cX12_thrown 1 = .ok (.getfield 1, 3) := by decide +kernel
theorem dX12_thrown_4 : decode cX12_thrown 4 = .ok (.ireturn, 1) := by decide +kernel
theorem dX12_feed_0 : decode cX12_feed 0 = .ok (.aload_n 0, 1) := by decide +kernel
theorem dX12_feed_1 : decode cX12_feed 1 = .ok (.iconst 0, 1) := by decide +kernel
theorem dX12_feed_2 : decode cX12_feed 2 = .ok (.putfield 1, 3) := by decide +kernel
theorem dX12_feed_5 : decode cX12_feed 5 = .ok (.aload_n 0, 1) := by decide +kernel
theorem dX12_feed_6 : decode cX12_feed 6 = .ok (.lload_n 1, 1) := by decide +kernel
theorem dX12_feed_7 : decode cX12_feed 7 = .ok (.invokevirtual 7, 3) := by decide +kernel
theorem dX12_feed_10 : decode cX12_feed 10 = .ok (.aload_n 0, 1) := by decide +kernel
theorem dX12_feed_11 : decode cX12_feed 11 = .ok (.lload_n 3, 1) := by decide +kernel
theorem dX12_feed_12 : decode cX12_feed 12 = .ok (.invokevirtual 7, 3) := by decide +kernel
theorem dX12_feed_15 : decode cX12_feed 15 = .ok (.aload_n 0, 1) := by decide +kernel
theorem dX12_feed_16 : decode cX12_feed 16 = .ok (.lload 5, 2) := by decide +kernel
theorem dX12_feed_18 : decode cX12_feed 18 = .ok (.invokevirtual 7, 3) := by decide +kernel
theorem dX12_feed_21 : decode cX12_feed 21 = .ok (.aload_n 0, 1) := by decide +kernel
theorem dX12_feed_22 : decode cX12_feed 22 = .ok (.getfield 11, 3) := by decide +kernel
theorem dX12_feed_25 : decode cX12_feed 25 = .ok (.ireturn, 1) := by decide +kernel
theorem dX12_lay_0 : decode cX12_lay 0 = .ok (.bipush 56, 2) := by decide +kernel
theorem dX12_lay_2 : decode cX12_lay 2 = .ok (.istore_n 3, 1) := by decide +kernel
theorem dX12_lay_3 : decode cX12_lay 3 = .ok (.iload_n 3, 1) := by decide +kernel
theorem dX12_lay_4 : decode cX12_lay 4 = .ok (.ifCond .lt 71, 3) := by decide +kernel
theorem dX12_lay_7 : decode cX12_lay 7 = .ok (.lload_n 1, 1) := by decide +kernel
theorem dX12_lay_8 : decode cX12_lay 8 = .ok (.iload_n 3, 1) := by decide +kernel
theorem dX12_lay_9 : decode cX12_lay 9 = .ok (.lshr, 1) := by decide +kernel
theorem dX12_lay_10 : decode cX12_lay 10 = .ok (.l2i, 1) := by decide +kernel
theorem dX12_lay_11 : decode cX12_lay 11 = .ok (.sipush 255, 3) := by decide +kernel
theorem dX12_lay_14 : decode cX12_lay 14 = .ok (.iand, 1) := by decide +kernel
theorem dX12_lay_15 : decode cX12_lay 15 = .ok (.istore 4, 2) := by decide +kernel
theorem dX12_lay_17 : decode cX12_lay 17 = .ok (.iload 4, 2) := by decide +kernel
theorem dX12_lay_19 : decode cX12_lay 19 = .ok (.bipush 10, 2) := by decide +kernel
theorem dX12_lay_21 : decode cX12_lay 21 = .ok (.if_icmp .eq 17, 3) := by decide +kernel
theorem dX12_lay_24 : decode cX12_lay 24 = .ok (.iload 4, 2) := by decide +kernel
theorem dX12_lay_26 : decode cX12_lay 26 = .ok (.bipush 32, 2) := by decide +kernel
theorem dX12_lay_28 : decode cX12_lay 28 = .ok (.if_icmp .lt 41, 3) := by decide +kernel
theorem dX12_lay_31 : decode cX12_lay 31 = .ok (.iload 4, 2) := by decide +kernel
theorem dX12_lay_33 : decode cX12_lay 33 = .ok (.bipush 126, 2) := by decide +kernel
theorem dX12_lay_35 : decode cX12_lay 35 = .ok (.if_icmp .gt 34, 3) := by decide +kernel
theorem dX12_lay_38 : decode cX12_lay 38 = .ok (.aload_n 0, 1) := by decide +kernel
theorem dX12_lay_39 : decode cX12_lay 39 = .ok (.getfield 11, 3) := by decide +kernel
theorem dX12_lay_42 : decode cX12_lay 42 = .ok (.sipush 1000, 3) := by decide +kernel
theorem dX12_lay_45 : decode cX12_lay 45 = .ok (.if_icmp .ge 24, 3) := by decide +kernel
theorem dX12_lay_48 : decode cX12_lay 48 = .ok (.aload_n 0, 1) := by decide +kernel
theorem dX12_lay_49 : decode cX12_lay 49 = .ok (.getfield 14, 3) := by decide +kernel
theorem dX12_lay_52 : decode cX12_lay 52 = .ok (.aload_n 0, 1) := by decide +kernel
theorem dX12_lay_53 : decode cX12_lay 53 = .ok (.getfield 11, 3) := by decide +kernel
theorem dX12_lay_56 : decode cX12_lay 56 = .ok (.iload 4, 2) := by decide +kernel
theorem dX12_lay_58 : decode cX12_lay 58 = .ok (.iastore, 1) := by decide +kernel
theorem dX12_lay_59 : decode cX12_lay 59 = .ok (.aload_n 0, 1) := by decide +kernel
theorem dX12_lay_60 : decode cX12_lay 60 = .ok (.dup, 1) := by decide +kernel
theorem dX12_lay_61 : decode cX12_lay 61 = .ok (.getfield 11, 3) := by decide +kernel
theorem dX12_lay_64 : decode cX12_lay 64 = .ok (.iconst 1, 1) := by decide +kernel
theorem dX12_lay_65 : decode cX12_lay 65 = .ok (.iadd, 1) := by decide +kernel
theorem dX12_lay_66 : decode cX12_lay 66 = .ok (.putfield 11, 3) := by decide +kernel
theorem dX12_lay_69 : decode cX12_lay 69 = .ok (.iinc 3 (-8), 3) := by decide +kernel
theorem dX12_lay_72 : decode cX12_lay 72 = .ok (.goto (-69), 3) := by decide +kernel
theorem dX12_lay_75 : decode cX12_lay 75 = .ok (.return_, 1) := by decide +kernel
theorem dX12_init_0 : decode cX12_init 0 = .ok (.aload_n 0, 1) := by decide +kernel
theorem dX12_init_1 : decode cX12_init 1 = .ok (.invokespecial 18, 3) := by decide +kernel
theorem dX12_init_4 : decode cX12_init 4 = .ok (.aload_n 0, 1) := by decide +kernel
theorem dX12_init_5 : decode cX12_init 5 = .ok (.sipush 1000, 3) := by decide +kernel
theorem dX12_init_8 : decode cX12_init 8 = .ok (.newarray .int, 2) := by decide +kernel
theorem dX12_init_10 : decode cX12_init 10 = .ok (.putfield 14, 3) := by decide +kernel
theorem dX12_init_13 : decode cX12_init 13 = .ok (.aload_n 0, 1) := by decide +kernel
theorem dX12_init_14 : decode cX12_init 14 = .ok (.sipush 1002, 3) := by decide +kernel
theorem dX12_init_17 : decode cX12_init 17 = .ok (.newarray .int, 2) := by decide +kernel
theorem dX12_init_19 : decode cX12_init 19 = .ok (.putfield 24, 3) := by decide +kernel
theorem dX12_init_22 : decode cX12_init 22 = .ok (.aload_n 0, 1) := by decide +kernel
theorem dX12_init_23 : decode cX12_init 23 = .ok (.sipush 1002, 3) := by decide +kernel
theorem dX12_init_26 : decode cX12_init 26 = .ok (.newarray .int, 2) := by decide +kernel
theorem dX12_init_28 : decode cX12_init 28 = .ok (.putfield 27, 3) := by decide +kernel
theorem dX12_init_31 : decode cX12_init 31 = .ok (.aload_n 0, 1) := by decide +kernel
theorem dX12_init_32 : decode cX12_init 32 = .ok (.sipush 1002, 3) := by decide +kernel
theorem dX12_init_35 : decode cX12_init 35 = .ok (.newarray .long, 2) := by decide +kernel
theorem dX12_init_37 : decode cX12_init 37 = .ok (.putfield 30, 3) := by decide +kernel
theorem dX12_init_40 : decode cX12_init 40 = .ok (.aload_n 0, 1) := by decide +kernel
theorem dX12_init_41 : decode cX12_init 41 = .ok (.bipush 26, 2) := by decide +kernel
theorem dX12_init_43 : decode cX12_init 43 = .ok (.newarray .long, 2) := by decide +kernel
theorem dX12_init_45 : decode cX12_init 45 = .ok (.dup, 1) := by decide +kernel
theorem dX12_init_46 : decode cX12_init 46 = .ok (.iconst 0, 1) := by decide +kernel
theorem dX12_init_47 : decode cX12_init 47 = .ok (.ldc2_w 34, 3) := by decide +kernel
theorem dX12_init_50 : decode cX12_init 50 = .ok (.lastore, 1) := by decide +kernel
theorem dX12_init_51 : decode cX12_init 51 = .ok (.dup, 1) := by decide +kernel
theorem dX12_init_52 : decode cX12_init 52 = .ok (.iconst 1, 1) := by decide +kernel
theorem dX12_init_53 : decode cX12_init 53 = .ok (.ldc2_w 36, 3) := by decide +kernel
theorem dX12_init_56 : decode cX12_init 56 = .ok (.lastore, 1) := by decide +kernel
theorem dX12_init_57 : decode cX12_init 57 = .ok (.dup, 1) := by decide +kernel
theorem dX12_init_58 : decode cX12_init 58 = .ok (.iconst 2, 1) := by decide +kernel
theorem dX12_init_59 : decode cX12_init 59 = .ok (.ldc2_w 38, 3) := by decide +kernel
theorem dX12_init_62 : decode cX12_init 62 = .ok (.lastore, 1) := by decide +kernel
theorem dX12_init_63 : decode cX12_init 63 = .ok (.dup, 1) := by decide +kernel
theorem dX12_init_64 : decode cX12_init 64 = .ok (.iconst 3, 1) := by decide +kernel
theorem dX12_init_65 : decode cX12_init 65 = .ok (.ldc2_w 40, 3) := by decide +kernel
theorem dX12_init_68 : decode cX12_init 68 = .ok (.lastore, 1) := by decide +kernel
theorem dX12_init_69 : decode cX12_init 69 = .ok (.dup, 1) := by decide +kernel
theorem dX12_init_70 : decode cX12_init 70 = .ok (.iconst 4, 1) := by decide +kernel
theorem dX12_init_71 : decode cX12_init 71 = .ok (.ldc2_w 42, 3) := by decide +kernel
theorem dX12_init_74 : decode cX12_init 74 = .ok (.lastore, 1) := by decide +kernel
theorem dX12_init_75 : decode cX12_init 75 = .ok (.dup, 1) := by decide +kernel
theorem dX12_init_76 : decode cX12_init 76 = .ok (.iconst 5, 1) := by decide +kernel
theorem dX12_init_77 : decode cX12_init 77 = .ok (.ldc2_w 44, 3) := by decide +kernel
theorem dX12_init_80 : decode cX12_init 80 = .ok (.lastore, 1) := by decide +kernel
theorem dX12_init_81 : decode cX12_init 81 = .ok (.dup, 1) := by decide +kernel
theorem dX12_init_82 : decode cX12_init 82 = .ok (.bipush 6, 2) := by decide +kernel
theorem dX12_init_84 : decode cX12_init 84 = .ok (.ldc2_w 46, 3) := by decide +kernel
theorem dX12_init_87 : decode cX12_init 87 = .ok (.lastore, 1) := by decide +kernel
theorem dX12_init_88 : decode cX12_init 88 = .ok (.dup, 1) := by decide +kernel
theorem dX12_init_89 : decode cX12_init 89 = .ok (.bipush 7, 2) := by decide +kernel
theorem dX12_init_91 : decode cX12_init 91 = .ok (.ldc2_w 48, 3) := by decide +kernel
theorem dX12_init_94 : decode cX12_init 94 = .ok (.lastore, 1) := by decide +kernel
theorem dX12_init_95 : decode cX12_init 95 = .ok (.dup, 1) := by decide +kernel
theorem dX12_init_96 : decode cX12_init 96 = .ok (.bipush 8, 2) := by decide +kernel
theorem dX12_init_98 : decode cX12_init 98 = .ok (.ldc2_w 50, 3) := by decide +kernel
theorem dX12_init_101 : decode cX12_init 101 = .ok (.lastore, 1) := by decide +kernel
theorem dX12_init_102 : decode cX12_init 102 = .ok (.dup, 1) := by decide +kernel
theorem dX12_init_103 : decode cX12_init 103 = .ok (.bipush 9, 2) := by decide +kernel
theorem dX12_init_105 : decode cX12_init 105 = .ok (.ldc2_w 52, 3) := by decide +kernel
theorem dX12_init_108 : decode cX12_init 108 = .ok (.lastore, 1) := by decide +kernel
theorem dX12_init_109 : decode cX12_init 109 = .ok (.dup, 1) := by decide +kernel
theorem dX12_init_110 : decode cX12_init 110 = .ok (.bipush 10, 2) := by decide +kernel
theorem dX12_init_112 : decode cX12_init 112 = .ok (.ldc2_w 54, 3) := by decide +kernel
theorem dX12_init_115 : decode cX12_init 115 = .ok (.lastore, 1) := by decide +kernel
theorem dX12_init_116 : decode cX12_init 116 = .ok (.dup, 1) := by decide +kernel
theorem dX12_init_117 : decode cX12_init 117 = .ok (.bipush 11, 2) := by decide +kernel
theorem dX12_init_119 : decode cX12_init 119 = .ok (.ldc2_w 56, 3) := by decide +kernel
theorem dX12_init_122 : decode cX12_init 122 = .ok (.lastore, 1) := by decide +kernel
theorem dX12_init_123 : decode cX12_init 123 = .ok (.dup, 1) := by decide +kernel
theorem dX12_init_124 : decode cX12_init 124 = .ok (.bipush 12, 2) := by decide +kernel
theorem dX12_init_126 : decode cX12_init 126 = .ok (.ldc2_w 58, 3) := by decide +kernel
theorem dX12_init_129 : decode cX12_init 129 = .ok (.lastore, 1) := by decide +kernel
theorem dX12_init_130 : decode cX12_init 130 = .ok (.dup, 1) := by decide +kernel
theorem dX12_init_131 : decode cX12_init 131 = .ok (.bipush 13, 2) := by decide +kernel
theorem dX12_init_133 : decode cX12_init 133 = .ok (.ldc2_w 60, 3) := by decide +kernel
theorem dX12_init_136 : decode cX12_init 136 = .ok (.lastore, 1) := by decide +kernel
theorem dX12_init_137 : decode cX12_init 137 = .ok (.dup, 1) := by decide +kernel
theorem dX12_init_138 : decode cX12_init 138 = .ok (.bipush 14, 2) := by decide +kernel
theorem dX12_init_140 : decode cX12_init 140 = .ok (.ldc2_w 62, 3) := by decide +kernel
theorem dX12_init_143 : decode cX12_init 143 = .ok (.lastore, 1) := by decide +kernel
theorem dX12_init_144 : decode cX12_init 144 = .ok (.dup, 1) := by decide +kernel
theorem dX12_init_145 : decode cX12_init 145 = .ok (.bipush 15, 2) := by decide +kernel
theorem dX12_init_147 : decode cX12_init 147 = .ok (.ldc2_w 64, 3) := by decide +kernel
theorem dX12_init_150 : decode cX12_init 150 = .ok (.lastore, 1) := by decide +kernel
theorem dX12_init_151 : decode cX12_init 151 = .ok (.dup, 1) := by decide +kernel
theorem dX12_init_152 : decode cX12_init 152 = .ok (.bipush 16, 2) := by decide +kernel
theorem dX12_init_154 : decode cX12_init 154 = .ok (.ldc2_w 66, 3) := by decide +kernel
theorem dX12_init_157 : decode cX12_init 157 = .ok (.lastore, 1) := by decide +kernel
theorem dX12_init_158 : decode cX12_init 158 = .ok (.dup, 1) := by decide +kernel
theorem dX12_init_159 : decode cX12_init 159 = .ok (.bipush 17, 2) := by decide +kernel
theorem dX12_init_161 : decode cX12_init 161 = .ok (.ldc2_w 68, 3) := by decide +kernel
theorem dX12_init_164 : decode cX12_init 164 = .ok (.lastore, 1) := by decide +kernel
theorem dX12_init_165 : decode cX12_init 165 = .ok (.dup, 1) := by decide +kernel
theorem dX12_init_166 : decode cX12_init 166 = .ok (.bipush 18, 2) := by decide +kernel
theorem dX12_init_168 : decode cX12_init 168 = .ok (.ldc2_w 70, 3) := by decide +kernel
theorem dX12_init_171 : decode cX12_init 171 = .ok (.lastore, 1) := by decide +kernel
theorem dX12_init_172 : decode cX12_init 172 = .ok (.dup, 1) := by decide +kernel
theorem dX12_init_173 : decode cX12_init 173 = .ok (.bipush 19, 2) := by decide +kernel
theorem dX12_init_175 : decode cX12_init 175 = .ok (.ldc2_w 72, 3) := by decide +kernel
theorem dX12_init_178 : decode cX12_init 178 = .ok (.lastore, 1) := by decide +kernel
theorem dX12_init_179 : decode cX12_init 179 = .ok (.dup, 1) := by decide +kernel
theorem dX12_init_180 : decode cX12_init 180 = .ok (.bipush 20, 2) := by decide +kernel
theorem dX12_init_182 : decode cX12_init 182 = .ok (.ldc2_w 74, 3) := by decide +kernel
theorem dX12_init_185 : decode cX12_init 185 = .ok (.lastore, 1) := by decide +kernel
theorem dX12_init_186 : decode cX12_init 186 = .ok (.dup, 1) := by decide +kernel
theorem dX12_init_187 : decode cX12_init 187 = .ok (.bipush 21, 2) := by decide +kernel
theorem dX12_init_189 : decode cX12_init 189 = .ok (.ldc2_w 76, 3) := by decide +kernel
theorem dX12_init_192 : decode cX12_init 192 = .ok (.lastore, 1) := by decide +kernel
theorem dX12_init_193 : decode cX12_init 193 = .ok (.dup, 1) := by decide +kernel
theorem dX12_init_194 : decode cX12_init 194 = .ok (.bipush 22, 2) := by decide +kernel
theorem dX12_init_196 : decode cX12_init 196 = .ok (.ldc2_w 78, 3) := by decide +kernel
theorem dX12_init_199 : decode cX12_init 199 = .ok (.lastore, 1) := by decide +kernel
theorem dX12_init_200 : decode cX12_init 200 = .ok (.dup, 1) := by decide +kernel
theorem dX12_init_201 : decode cX12_init 201 = .ok (.bipush 23, 2) := by decide +kernel
theorem dX12_init_203 : decode cX12_init 203 = .ok (.ldc2_w 80, 3) := by decide +kernel
theorem dX12_init_206 : decode cX12_init 206 = .ok (.lastore, 1) := by decide +kernel
theorem dX12_init_207 : decode cX12_init 207 = .ok (.dup, 1) := by decide +kernel
theorem dX12_init_208 : decode cX12_init 208 = .ok (.bipush 24, 2) := by decide +kernel
theorem dX12_init_210 : decode cX12_init 210 = .ok (.ldc2_w 82, 3) := by decide +kernel
theorem dX12_init_213 : decode cX12_init 213 = .ok (.lastore, 1) := by decide +kernel
theorem dX12_init_214 : decode cX12_init 214 = .ok (.dup, 1) := by decide +kernel
theorem dX12_init_215 : decode cX12_init 215 = .ok (.bipush 25, 2) := by decide +kernel
theorem dX12_init_217 : decode cX12_init 217 = .ok (.ldc2_w 84, 3) := by decide +kernel
theorem dX12_init_220 : decode cX12_init 220 = .ok (.lastore, 1) := by decide +kernel
theorem dX12_init_221 : decode cX12_init 221 = .ok (.putfield 86, 3) := by decide +kernel
theorem dX12_init_224 : decode cX12_init 224 = .ok (.aload_n 0, 1) := by decide +kernel
theorem dX12_init_225 : decode cX12_init 225 = .ok (.bipush 120, 2) := by decide +kernel
theorem dX12_init_227 : decode cX12_init 227 = .ok (.newarray .int, 2) := by decide +kernel
theorem dX12_init_229 : decode cX12_init 229 = .ok (.putfield 89, 3) := by decide +kernel
theorem dX12_init_232 : decode cX12_init 232 = .ok (.aload_n 0, 1) := by decide +kernel
theorem dX12_init_233 : decode cX12_init 233 = .ok (.sipush 2200, 3) := by decide +kernel
theorem dX12_init_236 : decode cX12_init 236 = .ok (.newarray .int, 2) := by decide +kernel
theorem dX12_init_238 : decode cX12_init 238 = .ok (.putfield 92, 3) := by decide +kernel
theorem dX12_init_241 : decode cX12_init 241 = .ok (.aload_n 0, 1) := by decide +kernel
theorem dX12_init_242 : decode cX12_init 242 = .ok (.sipush 2200, 3) := by decide +kernel
theorem dX12_init_245 : decode cX12_init 245 = .ok (.newarray .int, 2) := by decide +kernel
theorem dX12_init_247 : decode cX12_init 247 = .ok (.putfield 95, 3) := by decide +kernel
theorem dX12_init_250 : decode cX12_init 250 = .ok (.aload_n 0, 1) := by decide +kernel
theorem dX12_init_251 : decode cX12_init 251 = .ok (.bipush 16, 2) := by decide +kernel
theorem dX12_init_253 : decode cX12_init 253 = .ok (.newarray .long, 2) := by decide +kernel
theorem dX12_init_255 : decode cX12_init 255 = .ok (.putfield 98, 3) := by decide +kernel
theorem dX12_init_258 : decode cX12_init 258 = .ok (.aload_n 0, 1) := by decide +kernel
theorem dX12_init_259 : decode cX12_init 259 = .ok (.bipush 16, 2) := by decide +kernel
theorem dX12_init_261 : decode cX12_init 261 = .ok (.newarray .long, 2) := by decide +kernel
theorem dX12_init_263 : decode cX12_init 263 = .ok (.putfield 101, 3) := by decide +kernel
theorem dX12_init_266 : decode cX12_init 266 = .ok (.aload_n 0, 1) := by decide +kernel
theorem dX12_init_267 : decode cX12_init 267 = .ok (.bipush 16, 2) := by decide +kernel
theorem dX12_init_269 : decode cX12_init 269 = .ok (.newarray .int, 2) := by decide +kernel
theorem dX12_init_271 : decode cX12_init 271 = .ok (.putfield 104, 3) := by decide +kernel
theorem dX12_init_274 : decode cX12_init 274 = .ok (.aload_n 0, 1) := by decide +kernel
theorem dX12_init_275 : decode cX12_init 275 = .ok (.bipush 16, 2) := by decide +kernel
theorem dX12_init_277 : decode cX12_init 277 = .ok (.newarray .int, 2) := by decide +kernel
theorem dX12_init_279 : decode cX12_init 279 = .ok (.putfield 107, 3) := by decide +kernel
theorem dX12_init_282 : decode cX12_init 282 = .ok (.aload_n 0, 1) := by decide +kernel
theorem dX12_init_283 : decode cX12_init 283 = .ok (.sipush 250, 3) := by decide +kernel
theorem dX12_init_286 : decode cX12_init 286 = .ok (.newarray .int, 2) := by decide +kernel
theorem dX12_init_288 : decode cX12_init 288 = .ok (.putfield 110, 3) := by decide +kernel
theorem dX12_init_291 : decode cX12_init 291 = .ok (.aload_n 0, 1) := by decide +kernel
theorem dX12_init_292 : decode cX12_init 292 = .ok (.iconst 4, 1) := by decide +kernel
theorem dX12_init_293 : decode cX12_init 293 = .ok (.newarray .int, 2) := by decide +kernel
theorem dX12_init_295 : decode cX12_init 295 = .ok (.putfield 113, 3) := by decide +kernel
theorem dX12_init_298 : decode cX12_init 298 = .ok (.aload_n 0, 1) := by decide +kernel
theorem dX12_init_299 : decode cX12_init 299 = .ok (.sipush 1100, 3) := by decide +kernel
theorem dX12_init_302 : decode cX12_init 302 = .ok (.newarray .int, 2) := by decide +kernel
theorem dX12_init_304 : decode cX12_init 304 = .ok (.putfield 116, 3) := by decide +kernel
theorem dX12_init_307 : decode cX12_init 307 = .ok (.aload_n 0, 1) := by decide +kernel
theorem dX12_init_308 : decode cX12_init 308 = .ok (.sipush 1518, 3) := by decide +kernel
theorem dX12_init_311 : decode cX12_init 311 = .ok (.newarray .int, 2) := by decide +kernel
theorem dX12_init_313 : decode cX12_init 313 = .ok (.putfield 119, 3) := by decide +kernel
theorem dX12_init_316 : decode cX12_init 316 = .ok (.aload_n 0, 1) := by decide +kernel
theorem dX12_init_317 : decode cX12_init 317 = .ok (.iconst 4, 1) := by decide +kernel
theorem dX12_init_318 : decode cX12_init 318 = .ok (.newarray .boolean, 2) := by decide +kernel
theorem dX12_init_320 : decode cX12_init 320 = .ok (.putfield 122, 3) := by decide +kernel
theorem dX12_init_323 : decode cX12_init 323 = .ok (.aload_n 0, 1) := by decide +kernel
theorem dX12_init_324 : decode cX12_init 324 = .ok (.iconst 0, 1) := by decide +kernel
theorem dX12_init_325 : decode cX12_init 325 = .ok (.invokevirtual 126, 3) := by decide +kernel
theorem dX12_init_328 : decode cX12_init 328 = .ok (.aload_n 0, 1) := by decide +kernel
theorem dX12_init_329 : decode cX12_init 329 = .ok (.invokevirtual 130, 3) := by decide +kernel
theorem dX12_init_332 : decode cX12_init 332 = .ok (.return_, 1) := by decide +kernel
theorem dX12_isLetter_0 : decode cX12_isLetter 0 = .ok (.iload_n 0, 1) := by decide +kernel
theorem dX12_isLetter_1 : decode cX12_isLetter 1 = .ok (.bipush 97, 2) := by decide +kernel
theorem dX12_isLetter_3 : decode cX12_isLetter 3 = .ok (.if_icmp .lt 13, 3) := by decide +kernel
theorem dX12_isLetter_6 : decode cX12_isLetter 6 = .ok (.iload_n 0, 1) := by decide +kernel
theorem dX12_isLetter_7 : decode cX12_isLetter 7 = .ok (.bipush 122, 2) := by decide +kernel
theorem dX12_isLetter_9 : decode cX12_isLetter 9 = .ok (.if_icmp .gt 7, 3) := by decide +kernel
theorem dX12_isLetter_12 : decode cX12_isLetter 12 = .ok (.iconst 1, 1) := by decide +kernel
theorem dX12_isLetter_13 : decode cX12_isLetter 13 = .ok (.goto 4, 3) := by decide +kernel
theorem dX12_isLetter_16 : decode cX12_isLetter 16 = .ok (.iconst 0, 1) := by decide +kernel
theorem dX12_isLetter_17 : decode cX12_isLetter 17 = .ok (.ireturn, 1) := by decide +kernel
theorem dX12_isDigit_0 : decode cX12_isDigit 0 = .ok (.iload_n 0, 1) := by decide +kernel
theorem dX12_isDigit_1 : decode cX12_isDigit 1 = .ok (.bipush 48, 2) := by decide +kernel
theorem dX12_isDigit_3 : decode cX12_isDigit 3 = .ok (.if_icmp .lt 13, 3) := by decide +kernel
theorem dX12_isDigit_6 : decode cX12_isDigit 6 = .ok (.iload_n 0, 1) := by decide +kernel
theorem dX12_isDigit_7 : decode cX12_isDigit 7 = .ok (.bipush 57, 2) := by decide +kernel
theorem dX12_isDigit_9 : decode cX12_isDigit 9 = .ok (.if_icmp .gt 7, 3) := by decide +kernel
theorem dX12_isDigit_12 : decode cX12_isDigit 12 = .ok (.iconst 1, 1) := by decide +kernel
theorem dX12_isDigit_13 : decode cX12_isDigit 13 = .ok (.goto 4, 3) := by decide +kernel
theorem dX12_isDigit_16 : decode cX12_isDigit 16 = .ok (.iconst 0, 1) := by decide +kernel
theorem dX12_isDigit_17 : decode cX12_isDigit 17 = .ok (.ireturn, 1) := by decide +kernel
theorem dX12_rank_0 : decode cX12_rank 0 = .ok (.iload_n 0, 1) := by decide +kernel
theorem dX12_rank_1 : decode cX12_rank 1 = .ok (.invokestatic 133, 3) := by decide +kernel
theorem dX12_rank_4 : decode cX12_rank 4 = .ok (.ifCond .eq 10, 3) := by decide +kernel
theorem dX12_rank_7 : decode cX12_rank 7 = .ok (.iload_n 0, 1) := by decide +kernel
theorem dX12_rank_8 : decode cX12_rank 8 = .ok (.bipush 96, 2) := by decide +kernel
theorem dX12_rank_10 : decode cX12_rank 10 = .ok (.isub, 1) := by decide +kernel
theorem dX12_rank_11 : decode cX12_rank 11 = .ok (.goto 7, 3) := by decide +kernel
theorem dX12_rank_14 : decode cX12_rank 14 = .ok (.iload_n 0, 1) := by decide +kernel
theorem dX12_rank_15 : decode cX12_rank 15 = .ok (.bipush 21, 2) := by decide +kernel
theorem dX12_rank_17 : decode cX12_rank 17 = .ok (.isub, 1) := by decide +kernel
theorem dX12_rank_18 : decode cX12_rank 18 = .ok (.ireturn, 1) := by decide +kernel
theorem dX12_isSignOf_0 : decode cX12_isSignOf 0 = .ok (.iload_n 0, 1) := by decide +kernel
theorem dX12_isSignOf_1 : decode cX12_isSignOf 1 = .ok (.bipush 40, 2) := by decide +kernel
theorem dX12_isSignOf_3 : decode cX12_isSignOf 3 = .ok (.if_icmp .eq 45, 3) := by decide +kernel
theorem dX12_isSignOf_6 : decode cX12_isSignOf 6 = .ok (.iload_n 0, 1) := by decide +kernel
theorem dX12_isSignOf_7 : decode cX12_isSignOf 7 = .ok (.bipush 41, 2) := by decide +kernel
theorem dX12_isSignOf_9 : decode cX12_isSignOf 9 = .ok (.if_icmp .eq 39, 3) := by decide +kernel
theorem dX12_isSignOf_12 : decode cX12_isSignOf 12 = .ok (.iload_n 0, 1) := by decide +kernel
theorem dX12_isSignOf_13 : decode cX12_isSignOf 13 = .ok (.bipush 59, 2) := by decide +kernel
theorem dX12_isSignOf_15 : decode cX12_isSignOf 15 = .ok (.if_icmp .eq 33, 3) := by decide +kernel
theorem dX12_isSignOf_18 : decode cX12_isSignOf 18 = .ok (.iload_n 0, 1) := by decide +kernel
theorem dX12_isSignOf_19 : decode cX12_isSignOf 19 = .ok (.bipush 61, 2) := by decide +kernel
theorem dX12_isSignOf_21 : decode cX12_isSignOf 21 = .ok (.if_icmp .eq 27, 3) := by decide +kernel
theorem dX12_isSignOf_24 : decode cX12_isSignOf 24 = .ok (.iload_n 0, 1) := by decide +kernel
theorem dX12_isSignOf_25 : decode cX12_isSignOf 25 = .ok (.bipush 60, 2) := by decide +kernel
theorem dX12_isSignOf_27 : decode cX12_isSignOf 27 = .ok (.if_icmp .eq 21, 3) := by decide +kernel
theorem dX12_isSignOf_30 : decode cX12_isSignOf 30 = .ok (.iload_n 0, 1) := by decide +kernel
theorem dX12_isSignOf_31 : decode cX12_isSignOf 31 = .ok (.bipush 43, 2) := by decide +kernel
theorem dX12_isSignOf_33 : decode cX12_isSignOf 33 = .ok (.if_icmp .eq 15, 3) := by decide +kernel
theorem dX12_isSignOf_36 : decode cX12_isSignOf 36 = .ok (.iload_n 0, 1) := by decide +kernel
theorem dX12_isSignOf_37 : decode cX12_isSignOf 37 = .ok (.bipush 45, 2) := by decide +kernel
theorem dX12_isSignOf_39 : decode cX12_isSignOf 39 = .ok (.if_icmp .eq 9, 3) := by decide +kernel
theorem dX12_isSignOf_42 : decode cX12_isSignOf 42 = .ok (.iload_n 0, 1) := by decide +kernel
theorem dX12_isSignOf_43 : decode cX12_isSignOf 43 = .ok (.bipush 42, 2) := by decide +kernel
theorem dX12_isSignOf_45 : decode cX12_isSignOf 45 = .ok (.if_icmp .ne 7, 3) := by decide +kernel
theorem dX12_isSignOf_48 : decode cX12_isSignOf 48 = .ok (.iconst 1, 1) := by decide +kernel
theorem dX12_isSignOf_49 : decode cX12_isSignOf 49 = .ok (.goto 4, 3) := by decide +kernel
theorem dX12_isSignOf_52 : decode cX12_isSignOf 52 = .ok (.iconst 0, 1) := by decide +kernel
theorem dX12_isSignOf_53 : decode cX12_isSignOf 53 = .ok (.ireturn, 1) := by decide +kernel
theorem dX12_cutAll_0 : decode cX12_cutAll 0 = .ok (.aload_n 0, 1) := by decide +kernel
theorem dX12_cutAll_1 : decode cX12_cutAll 1 = .ok (.aload_n 0, 1) := by decide +kernel
theorem dX12_cutAll_2 : decode cX12_cutAll 2 = .ok (.getfield 11, 3) := by decide +kernel
theorem dX12_cutAll_5 : decode cX12_cutAll 5 = .ok (.putfield 137, 3) := by decide +kernel
theorem dX12_cutAll_8 : decode cX12_cutAll 8 = .ok (.aload_n 0, 1) := by decide +kernel
theorem dX12_cutAll_9 : decode cX12_cutAll 9 = .ok (.iconst 0, 1) := by decide +kernel
theorem dX12_cutAll_10 : decode cX12_cutAll 10 = .ok (.putfield 11, 3) := by decide +kernel
theorem dX12_cutAll_13 : decode cX12_cutAll 13 = .ok (.iconst 0, 1) := by decide +kernel
theorem dX12_cutAll_14 : decode cX12_cutAll 14 = .ok (.istore_n 1, 1) := by decide +kernel
theorem dX12_cutAll_15 : decode cX12_cutAll 15 = .ok (.iconst 0, 1) := by decide +kernel
theorem dX12_cutAll_16 : decode cX12_cutAll 16 = .ok (.istore_n 2, 1) := by decide +kernel
theorem dX12_cutAll_17 : decode cX12_cutAll 17 = .ok (.iload_n 2, 1) := by decide +kernel
theorem dX12_cutAll_18 : decode cX12_cutAll 18 = .ok (.aload_n 0, 1) := by decide +kernel
theorem dX12_cutAll_19 : decode cX12_cutAll 19 = .ok (.getfield 137, 3) := by decide +kernel
theorem dX12_cutAll_22 : decode cX12_cutAll 22 = .ok (.if_icmp .ge 257, 3) := by decide +kernel
theorem dX12_cutAll_25 : decode cX12_cutAll 25 = .ok (.aload_n 0, 1) := by decide +kernel
theorem dX12_cutAll_26 : decode cX12_cutAll 26 = .ok (.getfield 14, 3) := by decide +kernel
theorem dX12_cutAll_29 : decode cX12_cutAll 29 = .ok (.iload_n 2, 1) := by decide +kernel
theorem dX12_cutAll_30 : decode cX12_cutAll 30 = .ok (.iaload, 1) := by decide +kernel
theorem dX12_cutAll_31 : decode cX12_cutAll 31 = .ok (.istore_n 3, 1) := by decide +kernel
theorem dX12_cutAll_32 : decode cX12_cutAll 32 = .ok (.iload_n 3, 1) := by decide +kernel
theorem dX12_cutAll_33 : decode cX12_cutAll 33 = .ok (.bipush 10, 2) := by decide +kernel
theorem dX12_cutAll_35 : decode cX12_cutAll 35 = .ok (.if_icmp .eq 9, 3) := by decide +kernel
theorem dX12_cutAll_38 : decode cX12_cutAll 38 = .ok (.iload_n 3, 1) := by decide +kernel
theorem dX12_cutAll_39 : decode cX12_cutAll 39 = .ok (.bipush 32, 2) := by decide +kernel
theorem dX12_cutAll_41 : decode cX12_cutAll 41 = .ok (.if_icmp .ne 9, 3) := by decide +kernel
theorem dX12_cutAll_44 : decode cX12_cutAll 44 = .ok (.iinc 2 1, 3) := by decide +kernel
theorem dX12_cutAll_47 : decode cX12_cutAll 47 = .ok (.goto (-30), 3) := by decide +kernel
theorem dX12_cutAll_50 : decode cX12_cutAll 50 = .ok (.iload_n 2, 1) := by decide +kernel
theorem dX12_cutAll_51 : decode cX12_cutAll 51 = .ok (.istore 4, 2) := by decide +kernel
theorem dX12_cutAll_53 : decode cX12_cutAll 53 = .ok (.lconst 0, 1) := by decide +kernel
theorem dX12_cutAll_54 : decode cX12_cutAll 54 = .ok (.lstore 5, 2) := by decide +kernel
theorem dX12_cutAll_56 : decode cX12_cutAll 56 = .ok (.aload_n 0, 1) := by decide +kernel
theorem dX12_cutAll_57 : decode cX12_cutAll 57 = .ok (.getfield 27, 3) := by decide +kernel
theorem dX12_cutAll_60 : decode cX12_cutAll 60 = .ok (.iload_n 1, 1) := by decide +kernel
theorem dX12_cutAll_61 : decode cX12_cutAll 61 = .ok (.iload_n 2, 1) := by decide +kernel
theorem dX12_cutAll_62 : decode cX12_cutAll 62 = .ok (.iastore, 1) := by decide +kernel
theorem dX12_cutAll_63 : decode cX12_cutAll 63 = .ok (.iload_n 3, 1) := by decide +kernel
theorem dX12_cutAll_64 : decode cX12_cutAll 64 = .ok (.invokestatic 133, 3) := by decide +kernel
theorem dX12_cutAll_67 : decode cX12_cutAll 67 = .ok (.ifCond .eq 85, 3) := by decide +kernel
theorem dX12_cutAll_70 : decode cX12_cutAll 70 = .ok (.iload_n 2, 1) := by decide +kernel
theorem dX12_cutAll_71 : decode cX12_cutAll 71 = .ok (.aload_n 0, 1) := by decide +kernel
theorem dX12_cutAll_72 : decode cX12_cutAll 72 = .ok (.getfield 137, 3) := by decide +kernel
theorem dX12_cutAll_75 : decode cX12_cutAll 75 = .ok (.if_icmp .ge 54, 3) := by decide +kernel
theorem dX12_cutAll_78 : decode cX12_cutAll 78 = .ok (.aload_n 0, 1) := by decide +kernel
theorem dX12_cutAll_79 : decode cX12_cutAll 79 = .ok (.getfield 14, 3) := by decide +kernel
theorem dX12_cutAll_82 : decode cX12_cutAll 82 = .ok (.iload_n 2, 1) := by decide +kernel
theorem dX12_cutAll_83 : decode cX12_cutAll 83 = .ok (.iaload, 1) := by decide +kernel
theorem dX12_cutAll_84 : decode cX12_cutAll 84 = .ok (.invokestatic 133, 3) := by decide +kernel
theorem dX12_cutAll_87 : decode cX12_cutAll 87 = .ok (.ifCond .eq 42, 3) := by decide +kernel
theorem dX12_cutAll_90 : decode cX12_cutAll 90 = .ok (.iload_n 2, 1) := by decide +kernel
theorem dX12_cutAll_91 : decode cX12_cutAll 91 = .ok (.iload 4, 2) := by decide +kernel
theorem dX12_cutAll_93 : decode cX12_cutAll 93 = .ok (.isub, 1) := by decide +kernel
theorem dX12_cutAll_94 : decode cX12_cutAll 94 = .ok (.bipush 8, 2) := by decide +kernel
theorem dX12_cutAll_96 : decode cX12_cutAll 96 = .ok (.if_icmp .ge 23, 3) := by decide +kernel
theorem dX12_cutAll_99 : decode cX12_cutAll 99 = .ok (.ldc2_w 140, 3) := by decide +kernel
theorem dX12_cutAll_102 : decode cX12_cutAll 102 = .ok (.lload 5, 2) := by decide +kernel
theorem dX12_cutAll_104 : decode cX12_cutAll 104 = .ok (.lmul, 1) := by decide +kernel
theorem dX12_cutAll_105 : decode cX12_cutAll 105 = .ok (.aload_n 0, 1) := by decide +kernel
theorem dX12_cutAll_106 : decode cX12_cutAll 106 = .ok (.getfield 14, 3) := by decide +kernel
theorem dX12_cutAll_109 : decode cX12_cutAll 109 = .ok (.iload_n 2, 1) := by decide +kernel
theorem dX12_cutAll_110 : decode cX12_cutAll 110 = .ok (.iaload, 1) := by decide +kernel
theorem dX12_cutAll_111 : decode cX12_cutAll 111 = .ok (.invokestatic 142, 3) := by decide +kernel
theorem dX12_cutAll_114 : decode cX12_cutAll 114 = .ok (.i2l, 1) := by decide +kernel
theorem dX12_cutAll_115 : decode cX12_cutAll 115 = .ok (.ladd, 1) := by decide +kernel
theorem dX12_cutAll_116 : decode cX12_cutAll 116 = .ok (.goto 5, 3) := by decide +kernel
theorem dX12_cutAll_119 : decode cX12_cutAll 119 = .ok (.lload 5, 2) := by decide +kernel
theorem dX12_cutAll_121 : decode cX12_cutAll 121 = .ok (.lstore 5, 2) := by decide +kernel
theorem dX12_cutAll_123 : decode cX12_cutAll 123 = .ok (.iinc 2 1, 3) := by decide +kernel
theorem dX12_cutAll_126 : decode cX12_cutAll 126 = .ok (.goto (-56), 3) := by decide +kernel
theorem dX12_cutAll_129 : decode cX12_cutAll 129 = .ok (.aload_n 0, 1) := by decide +kernel
theorem dX12_cutAll_130 : decode cX12_cutAll 130 = .ok (.getfield 24, 3) := by decide +kernel
theorem dX12_cutAll_133 : decode cX12_cutAll 133 = .ok (.iload_n 1, 1) := by decide +kernel
theorem dX12_cutAll_134 : decode cX12_cutAll 134 = .ok (.iload_n 2, 1) := by decide +kernel
theorem dX12_cutAll_135 : decode cX12_cutAll 135 = .ok (.iload 4, 2) := by decide +kernel
theorem dX12_cutAll_137 : decode cX12_cutAll 137 = .ok (.isub, 1) := by decide +kernel
theorem dX12_cutAll_138 : decode cX12_cutAll 138 = .ok (.bipush 8, 2) := by decide +kernel
theorem dX12_cutAll_140 : decode cX12_cutAll 140 = .ok (.if_icmp .le 7, 3) := by decide +kernel
theorem dX12_cutAll_143 : decode cX12_cutAll 143 = .ok (.iconst 4, 1) := by decide +kernel
theorem dX12_cutAll_144 : decode cX12_cutAll 144 = .ok (.goto 4, 3) := by decide +kernel
theorem dX12_cutAll_147 : decode cX12_cutAll 147 = .ok (.iconst 1, 1) := by decide +kernel
theorem dX12_cutAll_148 : decode cX12_cutAll 148 = .ok (.iastore, 1) := by decide +kernel
theorem dX12_cutAll_149 : decode cX12_cutAll 149 = .ok (.goto 116, 3) := by decide +kernel
theorem dX12_cutAll_152 : decode cX12_cutAll 152 = .ok (.iload_n 3, 1) := by decide +kernel
theorem dX12_cutAll_153 : decode cX12_cutAll 153 = .ok (.invokestatic 146, 3) := by decide +kernel
theorem dX12_cutAll_156 : decode cX12_cutAll 156 = .ok (.ifCond .eq 84, 3) := by decide +kernel
theorem dX12_cutAll_159 : decode cX12_cutAll 159 = .ok (.iload_n 2, 1) := by decide +kernel
theorem dX12_cutAll_160 : decode cX12_cutAll 160 = .ok (.aload_n 0, 1) := by decide +kernel
theorem dX12_cutAll_161 : decode cX12_cutAll 161 = .ok (.getfield 137, 3) := by decide +kernel
theorem dX12_cutAll_164 : decode cX12_cutAll 164 = .ok (.if_icmp .ge 54, 3) := by decide +kernel
theorem dX12_cutAll_167 : decode cX12_cutAll 167 = .ok (.aload_n 0, 1) := by decide +kernel
theorem dX12_cutAll_168 : decode cX12_cutAll 168 = .ok (.getfield 14, 3) := by decide +kernel
theorem dX12_cutAll_171 : decode cX12_cutAll 171 = .ok (.iload_n 2, 1) := by decide +kernel
theorem dX12_cutAll_172 : decode cX12_cutAll 172 = .ok (.iaload, 1) := by decide +kernel
theorem dX12_cutAll_173 : decode cX12_cutAll 173 = .ok (.invokestatic 146, 3) := by decide +kernel
theorem dX12_cutAll_176 : decode cX12_cutAll 176 = .ok (.ifCond .eq 42, 3) := by decide +kernel
theorem dX12_cutAll_179 : decode cX12_cutAll 179 = .ok (.iload_n 2, 1) := by decide +kernel
theorem dX12_cutAll_180 : decode cX12_cutAll 180 = .ok (.iload 4, 2) := by decide +kernel
theorem dX12_cutAll_182 : decode cX12_cutAll 182 = .ok (.isub, 1) := by decide +kernel
theorem dX12_cutAll_183 : decode cX12_cutAll 183 = .ok (.iconst 4, 1) := by decide +kernel
theorem dX12_cutAll_184 : decode cX12_cutAll 184 = .ok (.if_icmp .ge 24, 3) := by decide +kernel
theorem dX12_cutAll_187 : decode cX12_cutAll 187 = .ok (.ldc2_w 149, 3) := by decide +kernel
theorem dX12_cutAll_190 : decode cX12_cutAll 190 = .ok (.lload 5, 2) := by decide +kernel
theorem dX12_cutAll_192 : decode cX12_cutAll 192 = .ok (.lmul, 1) := by decide +kernel
theorem dX12_cutAll_193 : decode cX12_cutAll 193 = .ok (.aload_n 0, 1) := by decide +kernel
theorem dX12_cutAll_194 : decode cX12_cutAll 194 = .ok (.getfield 14, 3) := by decide +kernel
theorem dX12_cutAll_197 : decode cX12_cutAll 197 = .ok (.iload_n 2, 1) := by decide +kernel
theorem dX12_cutAll_198 : decode cX12_cutAll 198 = .ok (.iaload, 1) := by decide +kernel
theorem dX12_cutAll_199 : decode cX12_cutAll 199 = .ok (.i2l, 1) := by decide +kernel
theorem dX12_cutAll_200 : decode cX12_cutAll 200 = .ok (.ladd, 1) := by decide +kernel
theorem dX12_cutAll_201 : decode cX12_cutAll 201 = .ok (.ldc2_w 151, 3) := by decide +kernel
theorem dX12_cutAll_204 : decode cX12_cutAll 204 = .ok (.lsub, 1) := by decide +kernel
theorem dX12_cutAll_205 : decode cX12_cutAll 205 = .ok (.goto 5, 3) := by decide +kernel
theorem dX12_cutAll_208 : decode cX12_cutAll 208 = .ok (.lload 5, 2) := by decide +kernel
theorem dX12_cutAll_210 : decode cX12_cutAll 210 = .ok (.lstore 5, 2) := by decide +kernel
theorem dX12_cutAll_212 : decode cX12_cutAll 212 = .ok (.iinc 2 1, 3) := by decide +kernel
theorem dX12_cutAll_215 : decode cX12_cutAll 215 = .ok (.goto (-56), 3) := by decide +kernel
theorem dX12_cutAll_218 : decode cX12_cutAll 218 = .ok (.aload_n 0, 1) := by decide +kernel
theorem dX12_cutAll_219 : decode cX12_cutAll 219 = .ok (.getfield 24, 3) := by decide +kernel
theorem dX12_cutAll_222 : decode cX12_cutAll 222 = .ok (.iload_n 1, 1) := by decide +kernel
theorem dX12_cutAll_223 : decode cX12_cutAll 223 = .ok (.iload_n 2, 1) := by decide +kernel
theorem dX12_cutAll_224 : decode cX12_cutAll 224 = .ok (.iload 4, 2) := by decide +kernel
theorem dX12_cutAll_226 : decode cX12_cutAll 226 = .ok (.isub, 1) := by decide +kernel
theorem dX12_cutAll_227 : decode cX12_cutAll 227 = .ok (.iconst 4, 1) := by decide +kernel
theorem dX12_cutAll_228 : decode cX12_cutAll 228 = .ok (.if_icmp .le 7, 3) := by decide +kernel
theorem dX12_cutAll_231 : decode cX12_cutAll 231 = .ok (.iconst 4, 1) := by decide +kernel
theorem dX12_cutAll_232 : decode cX12_cutAll 232 = .ok (.goto 4, 3) := by decide +kernel
theorem dX12_cutAll_235 : decode cX12_cutAll 235 = .ok (.iconst 2, 1) := by decide +kernel
theorem dX12_cutAll_236 : decode cX12_cutAll 236 = .ok (.iastore, 1) := by decide +kernel
theorem dX12_cutAll_237 : decode cX12_cutAll 237 = .ok (.goto 28, 3) := by decide +kernel
theorem dX12_cutAll_240 : decode cX12_cutAll 240 = .ok (.iload_n 3, 1) := by decide +kernel
theorem dX12_cutAll_241 : decode cX12_cutAll 241 = .ok (.i2l, 1) := by decide +kernel
theorem dX12_cutAll_242 : decode cX12_cutAll 242 = .ok (.lstore 5, 2) := by decide +kernel
theorem dX12_cutAll_244 : decode cX12_cutAll 244 = .ok (.aload_n 0, 1) := by decide +kernel
theorem dX12_cutAll_245 : decode cX12_cutAll 245 = .ok (.getfield 24, 3) := by decide +kernel
theorem dX12_cutAll_248 : decode cX12_cutAll 248 = .ok (.iload_n 1, 1) := by decide +kernel
theorem dX12_cutAll_249 : decode cX12_cutAll 249 = .ok (.iload_n 3, 1) := by decide +kernel
theorem dX12_cutAll_250 : decode cX12_cutAll 250 = .ok (.invokestatic 153, 3) := by decide +kernel
theorem dX12_cutAll_253 : decode cX12_cutAll 253 = .ok (.ifCond .eq 7, 3) := by decide +kernel
theorem dX12_cutAll_256 : decode cX12_cutAll 256 = .ok (.iconst 3, 1) := by decide +kernel
theorem dX12_cutAll_257 : decode cX12_cutAll 257 = .ok (.goto 4, 3) := by decide +kernel
theorem dX12_cutAll_260 : decode cX12_cutAll 260 = .ok (.iconst 4, 1) := by decide +kernel
theorem dX12_cutAll_261 : decode cX12_cutAll 261 = .ok (.iastore, 1) := by decide +kernel
theorem dX12_cutAll_262 : decode cX12_cutAll 262 = .ok (.iinc 2 1, 3) := by decide +kernel
theorem dX12_cutAll_265 : decode cX12_cutAll 265 = .ok (.aload_n 0, 1) := by decide +kernel
theorem dX12_cutAll_266 : decode cX12_cutAll 266 = .ok (.getfield 30, 3) := by decide +kernel
theorem dX12_cutAll_269 : decode cX12_cutAll 269 = .ok (.iload_n 1, 1) := by decide +kernel
theorem dX12_cutAll_270 : decode cX12_cutAll 270 = .ok (.lload 5, 2) := by decide +kernel
theorem dX12_cutAll_272 : decode cX12_cutAll 272 = .ok (.lastore, 1) := by decide +kernel
theorem dX12_cutAll_273 : decode cX12_cutAll 273 = .ok (.iinc 1 1, 3) := by decide +kernel
theorem dX12_cutAll_276 : decode cX12_cutAll 276 = .ok (.goto (-259), 3) := by decide +kernel
theorem dX12_cutAll_279 : decode cX12_cutAll 279 = .ok (.aload_n 0, 1) := by decide +kernel
theorem dX12_cutAll_280 : decode cX12_cutAll 280 = .ok (.getfield 24, 3) := by decide +kernel
theorem dX12_cutAll_283 : decode cX12_cutAll 283 = .ok (.iload_n 1, 1) := by decide +kernel
theorem dX12_cutAll_284 : decode cX12_cutAll 284 = .ok (.iconst 0, 1) := by decide +kernel
theorem dX12_cutAll_285 : decode cX12_cutAll 285 = .ok (.iastore, 1) := by decide +kernel
theorem dX12_cutAll_286 : decode cX12_cutAll 286 = .ok (.aload_n 0, 1) := by decide +kernel
theorem dX12_cutAll_287 : decode cX12_cutAll 287 = .ok (.getfield 27, 3) := by decide +kernel
theorem dX12_cutAll_290 : decode cX12_cutAll 290 = .ok (.iload_n 1, 1) := by decide +kernel
theorem dX12_cutAll_291 : decode cX12_cutAll 291 = .ok (.aload_n 0, 1) := by decide +kernel
theorem dX12_cutAll_292 : decode cX12_cutAll 292 = .ok (.getfield 137, 3) := by decide +kernel
theorem dX12_cutAll_295 : decode cX12_cutAll 295 = .ok (.iastore, 1) := by decide +kernel
theorem dX12_cutAll_296 : decode cX12_cutAll 296 = .ok (.aload_n 0, 1) := by decide +kernel
theorem dX12_cutAll_297 : decode cX12_cutAll 297 = .ok (.iconst 0, 1) := by decide +kernel
theorem dX12_cutAll_298 : decode cX12_cutAll 298 = .ok (.putfield 156, 3) := by decide +kernel
theorem dX12_cutAll_301 : decode cX12_cutAll 301 = .ok (.aload_n 0, 1) := by decide +kernel
theorem dX12_cutAll_302 : decode cX12_cutAll 302 = .ok (.iconst 0, 1) := by decide +kernel
theorem dX12_cutAll_303 : decode cX12_cutAll 303 = .ok (.putfield 159, 3) := by decide +kernel
theorem dX12_cutAll_306 : decode cX12_cutAll 306 = .ok (.return_, 1) := by decide +kernel
theorem dX12_wrong_0 : decode cX12_wrong 0 = .ok (.aload_n 0, 1) := by decide +kernel
theorem dX12_wrong_1 : decode cX12_wrong 1 = .ok (.getfield 159, 3) := by decide +kernel
theorem dX12_wrong_4 : decode cX12_wrong 4 = .ok (.ifCond .ne 21, 3) := by decide +kernel
theorem dX12_wrong_7 : decode cX12_wrong 7 = .ok (.aload_n 0, 1) := by decide +kernel
theorem dX12_wrong_8 : decode cX12_wrong 8 = .ok (.iload_n 1, 1) := by decide +kernel
theorem dX12_wrong_9 : decode cX12_wrong 9 = .ok (.bipush 16, 2) := by decide +kernel
theorem dX12_wrong_11 : decode cX12_wrong 11 = .ok (.aload_n 0, 1) := by decide +kernel
theorem dX12_wrong_12 : decode cX12_wrong 12 = .ok (.getfield 27, 3) := by decide +kernel
theorem dX12_wrong_15 : decode cX12_wrong 15 = .ok (.aload_n 0, 1) := by decide +kernel
theorem dX12_wrong_16 : decode cX12_wrong 16 = .ok (.getfield 156, 3) := by decide +kernel
theorem dX12_wrong_19 : decode cX12_wrong 19 = .ok (.iaload, 1) := by decide +kernel
theorem dX12_wrong_20 : decode cX12_wrong 20 = .ok (.imul, 1) := by decide +kernel
theorem dX12_wrong_21 : decode cX12_wrong 21 = .ok (.iadd, 1) := by decide +kernel
theorem dX12_wrong_22 : decode cX12_wrong 22 = .ok (.putfield 159, 3) := by decide +kernel
theorem dX12_wrong_25 : decode cX12_wrong 25 = .ok (.return_, 1) := by decide +kernel
theorem dX12_isSign_0 : decode cX12_isSign 0 = .ok (.aload_n 0, 1) := by decide +kernel
theorem dX12_isSign_1 : decode cX12_isSign 1 = .ok (.getfield 159, 3) := by decide +kernel
theorem dX12_isSign_4 : decode cX12_isSign 4 = .ok (.ifCond .ne 35, 3) := by decide +kernel
theorem dX12_isSign_7 : decode cX12_isSign 7 = .ok (.aload_n 0, 1) := by decide +kernel
theorem dX12_isSign_8 : decode cX12_isSign 8 = .ok (.getfield 24, 3) := by decide +kernel
theorem dX12_isSign_11 : decode cX12_isSign 11 = .ok (.aload_n 0, 1) := by decide +kernel
theorem dX12_isSign_12 : decode cX12_isSign 12 = .ok (.getfield 156, 3) := by decide +kernel
theorem dX12_isSign_15 : decode cX12_isSign 15 = .ok (.iaload, 1) := by decide +kernel
theorem dX12_isSign_16 : decode cX12_isSign 16 = .ok (.iconst 3, 1) := by decide +kernel
theorem dX12_isSign_17 : decode cX12_isSign 17 = .ok (.if_icmp .ne 22, 3) := by decide +kernel
theorem dX12_isSign_20 : decode cX12_isSign 20 = .ok (.aload_n 0, 1) := by decide +kernel
theorem dX12_isSign_21 : decode cX12_isSign 21 = .ok (.getfield 30, 3) := by decide +kernel
theorem dX12_isSign_24 : decode cX12_isSign 24 = .ok (.aload_n 0, 1) := by decide +kernel
theorem dX12_isSign_25 : decode cX12_isSign 25 = .ok (.getfield 156, 3) := by decide +kernel
theorem dX12_isSign_28 : decode cX12_isSign 28 = .ok (.laload, 1) := by decide +kernel
theorem dX12_isSign_29 : decode cX12_isSign 29 = .ok (.iload_n 1, 1) := by decide +kernel
theorem dX12_isSign_30 : decode cX12_isSign 30 = .ok (.i2l, 1) := by decide +kernel
theorem dX12_isSign_31 : decode cX12_isSign 31 = .ok (.lcmp, 1) := by decide +kernel
theorem dX12_isSign_32 : decode cX12_isSign 32 = .ok (.ifCond .ne 7, 3) := by decide +kernel
theorem dX12_isSign_35 : decode cX12_isSign 35 = .ok (.iconst 1, 1) := by decide +kernel
theorem dX12_isSign_36 : decode cX12_isSign 36 = .ok (.goto 4, 3) := by decide +kernel
theorem dX12_isSign_39 : decode cX12_isSign 39 = .ok (.iconst 0, 1) := by decide +kernel
theorem dX12_isSign_40 : decode cX12_isSign 40 = .ok (.ireturn, 1) := by decide +kernel
theorem dX12_isWord_0 : decode cX12_isWord 0 = .ok (.aload_n 0, 1) := by decide +kernel
theorem dX12_isWord_1 : decode cX12_isWord 1 = .ok (.getfield 159, 3) := by decide +kernel
theorem dX12_isWord_4 : decode cX12_isWord 4 = .ok (.ifCond .ne 39, 3) := by decide +kernel
theorem dX12_isWord_7 : decode cX12_isWord 7 = .ok (.aload_n 0, 1) := by decide +kernel
theorem dX12_isWord_8 : decode cX12_isWord 8 = .ok (.getfield 24, 3) := by decide +kernel
theorem dX12_isWord_11 : decode cX12_isWord 11 = .ok (.aload_n 0, 1) := by decide +kernel
theorem dX12_isWord_12 : decode cX12_isWord 12 = .ok (.getfield 156, 3) := by decide +kernel
theorem dX12_isWord_15 : decode cX12_isWord 15 = .ok (.iaload, 1) := by decide +kernel
theorem dX12_isWord_16 : decode cX12_isWord 16 = .ok (.iconst 1, 1) := by decide +kernel
theorem dX12_isWord_17 : decode cX12_isWord 17 = .ok (.if_icmp .ne 26, 3) := by decide +kernel
theorem dX12_isWord_20 : decode cX12_isWord 20 = .ok (.aload_n 0, 1) := by decide +kernel
theorem dX12_isWord_21 : decode cX12_isWord 21 = .ok (.getfield 30, 3) := by decide +kernel
theorem dX12_isWord_24 : decode cX12_isWord 24 = .ok (.aload_n 0, 1) := by decide +kernel
theorem dX12_isWord_25 : decode cX12_isWord 25 = .ok (.getfield 156, 3) := by decide +kernel
theorem dX12_isWord_28 : decode cX12_isWord 28 = .ok (.laload, 1) := by decide +kernel
theorem dX12_isWord_29 : decode cX12_isWord 29 = .ok (.aload_n 0, 1) := by decide +kernel
theorem dX12_isWord_30 : decode cX12_isWord 30 = .ok (.getfield 86, 3) := by decide +kernel
theorem dX12_isWord_33 : decode cX12_isWord 33 = .ok (.iload_n 1, 1) := by decide +kernel
theorem dX12_isWord_34 : decode cX12_isWord 34 = .ok (.laload, 1) := by decide +kernel
theorem dX12_isWord_35 : decode cX12_isWord 35 = .ok (.lcmp, 1) := by decide +kernel
theorem dX12_isWord_36 : decode cX12_isWord 36 = .ok (.ifCond .ne 7, 3) := by decide +kernel
theorem dX12_isWord_39 : decode cX12_isWord 39 = .ok (.iconst 1, 1) := by decide +kernel
theorem dX12_isWord_40 : decode cX12_isWord 40 = .ok (.goto 4, 3) := by decide +kernel
theorem dX12_isWord_43 : decode cX12_isWord 43 = .ok (.iconst 0, 1) := by decide +kernel
theorem dX12_isWord_44 : decode cX12_isWord 44 = .ok (.ireturn, 1) := by decide +kernel
theorem dX12_takeSign_0 : decode cX12_takeSign 0 = .ok (.aload_n 0, 1) := by decide +kernel
theorem dX12_takeSign_1 : decode cX12_takeSign 1 = .ok (.iload_n 1, 1) := by decide +kernel
theorem dX12_takeSign_2 : decode cX12_takeSign 2 = .ok (.invokevirtual 162, 3) := by decide +kernel
theorem dX12_takeSign_5 : decode cX12_takeSign 5 = .ok (.ifCond .eq 16, 3) := by decide +kernel
theorem dX12_takeSign_8 : decode cX12_takeSign 8 = .ok (.aload_n 0, 1) := by decide +kernel
theorem dX12_takeSign_9 : decode cX12_takeSign 9 = .ok (.dup, 1) := by decide +kernel
theorem dX12_takeSign_10 : decode cX12_takeSign 10 = .ok (.getfield 156, 3) := by decide +kernel
theorem dX12_takeSign_13 : decode cX12_takeSign 13 = .ok (.iconst 1, 1) := by decide +kernel
theorem dX12_takeSign_14 : decode cX12_takeSign 14 = .ok (.iadd, 1) := by decide +kernel
theorem dX12_takeSign_15 : decode cX12_takeSign 15 = .ok (.putfield 156, 3) := by decide +kernel
theorem dX12_takeSign_18 : decode cX12_takeSign 18 = .ok (.goto 8, 3) := by decide +kernel
theorem dX12_takeSign_21 : decode cX12_takeSign 21 = .ok (.aload_n 0, 1) := by decide +kernel
theorem dX12_takeSign_22 : decode cX12_takeSign 22 = .ok (.iconst 1, 1) := by decide +kernel
theorem dX12_takeSign_23 : decode cX12_takeSign 23 = .ok (.invokevirtual 165, 3) := by decide +kernel
theorem dX12_takeSign_26 : decode cX12_takeSign 26 = .ok (.return_, 1) := by decide +kernel
theorem dX12_hasSign_0 : decode cX12_hasSign 0 = .ok (.aload_n 0, 1) := by decide +kernel
theorem dX12_hasSign_1 : decode cX12_hasSign 1 = .ok (.iload_n 1, 1) := by decide +kernel
theorem dX12_hasSign_2 : decode cX12_hasSign 2 = .ok (.invokevirtual 162, 3) := by decide +kernel
theorem dX12_hasSign_5 : decode cX12_hasSign 5 = .ok (.istore_n 2, 1) := by decide +kernel
theorem dX12_hasSign_6 : decode cX12_hasSign 6 = .ok (.aload_n 0, 1) := by decide +kernel
theorem dX12_hasSign_7 : decode cX12_hasSign 7 = .ok (.dup, 1) := by decide +kernel
theorem dX12_hasSign_8 : decode cX12_hasSign 8 = .ok (.getfield 156, 3) := by decide +kernel
theorem dX12_hasSign_11 : decode cX12_hasSign 11 = .ok (.iload_n 2, 1) := by decide +kernel
theorem dX12_hasSign_12 : decode cX12_hasSign 12 = .ok (.ifCond .eq 7, 3) := by decide +kernel
theorem dX12_hasSign_15 : decode cX12_hasSign 15 = .ok (.iconst 1, 1) := by decide +kernel
theorem dX12_hasSign_16 : decode cX12_hasSign 16 = .ok (.goto 4, 3) := by decide +kernel
theorem dX12_hasSign_19 : decode cX12_hasSign 19 = .ok (.iconst 0, 1) := by decide +kernel
theorem dX12_hasSign_20 : decode cX12_hasSign 20 = .ok (.iadd, 1) := by decide +kernel
theorem dX12_hasSign_21 : decode cX12_hasSign 21 = .ok (.putfield 156, 3) := by decide +kernel
theorem dX12_hasSign_24 : decode cX12_hasSign 24 = .ok (.iload_n 2, 1) := by decide +kernel
theorem dX12_hasSign_25 : decode cX12_hasSign 25 = .ok (.ireturn, 1) := by decide +kernel
theorem dX12_hasWord_0 : decode cX12_hasWord 0 = .ok (.aload_n 0, 1) := by decide +kernel
theorem dX12_hasWord_1 : decode cX12_hasWord 1 = .ok (.iload_n 1, 1) := by decide +kernel
theorem dX12_hasWord_2 : decode cX12_hasWord 2 = .ok (.invokevirtual 168, 3) := by decide +kernel
theorem dX12_hasWord_5 : decode cX12_hasWord 5 = .ok (.istore_n 2, 1) := by decide +kernel
theorem dX12_hasWord_6 : decode cX12_hasWord 6 = .ok (.aload_n 0, 1) := by decide +kernel
theorem dX12_hasWord_7 : decode cX12_hasWord 7 = .ok (.dup, 1) := by decide +kernel
theorem dX12_hasWord_8 : decode cX12_hasWord 8 = .ok (.getfield 156, 3) := by decide +kernel
theorem dX12_hasWord_11 : decode cX12_hasWord 11 = .ok (.iload_n 2, 1) := by decide +kernel
theorem dX12_hasWord_12 : decode cX12_hasWord 12 = .ok (.ifCond .eq 7, 3) := by decide +kernel
theorem dX12_hasWord_15 : decode cX12_hasWord 15 = .ok (.iconst 1, 1) := by decide +kernel
theorem dX12_hasWord_16 : decode cX12_hasWord 16 = .ok (.goto 4, 3) := by decide +kernel
theorem dX12_hasWord_19 : decode cX12_hasWord 19 = .ok (.iconst 0, 1) := by decide +kernel
theorem dX12_hasWord_20 : decode cX12_hasWord 20 = .ok (.iadd, 1) := by decide +kernel
theorem dX12_hasWord_21 : decode cX12_hasWord 21 = .ok (.putfield 156, 3) := by decide +kernel
theorem dX12_hasWord_24 : decode cX12_hasWord 24 = .ok (.iload_n 2, 1) := by decide +kernel
theorem dX12_hasWord_25 : decode cX12_hasWord 25 = .ok (.ireturn, 1) := by decide +kernel
theorem dX12_takeWord_0 : decode cX12_takeWord 0 = .ok (.aload_n 0, 1) := by decide +kernel
theorem dX12_takeWord_1 : decode cX12_takeWord 1 = .ok (.iload_n 1, 1) := by decide +kernel
theorem dX12_takeWord_2 : decode cX12_takeWord 2 = .ok (.invokevirtual 171, 3) := by decide +kernel
theorem dX12_takeWord_5 : decode cX12_takeWord 5 = .ok (.ifCond .ne 8, 3) := by decide +kernel
theorem dX12_takeWord_8 : decode cX12_takeWord 8 = .ok (.aload_n 0, 1) := by decide +kernel
theorem dX12_takeWord_9 : decode cX12_takeWord 9 = .ok (.iconst 1, 1) := by decide +kernel
theorem dX12_takeWord_10 : decode cX12_takeWord 10 = .ok (.invokevirtual 165, 3) := by decide +kernel
theorem dX12_takeWord_13 : decode cX12_takeWord 13 = .ok (.return_, 1) := by decide +kernel
theorem dX12_within_0 : decode cX12_within 0 = .ok (.iload_n 0, 1) := by decide +kernel
theorem dX12_within_1 : decode cX12_within 1 = .ok (.iload_n 1, 1) := by decide +kernel
theorem dX12_within_2 : decode cX12_within 2 = .ok (.if_icmp .lt 12, 3) := by decide +kernel
theorem dX12_within_5 : decode cX12_within 5 = .ok (.iload_n 0, 1) := by decide +kernel
theorem dX12_within_6 : decode cX12_within 6 = .ok (.iload_n 2, 1) := by decide +kernel
theorem dX12_within_7 : decode cX12_within 7 = .ok (.if_icmp .gt 7, 3) := by decide +kernel
theorem dX12_within_10 : decode cX12_within 10 = .ok (.iconst 1, 1) := by decide +kernel
theorem dX12_within_11 : decode cX12_within 11 = .ok (.goto 4, 3) := by decide +kernel
theorem dX12_within_14 : decode cX12_within 14 = .ok (.iconst 0, 1) := by decide +kernel
theorem dX12_within_15 : decode cX12_within 15 = .ok (.ireturn, 1) := by decide +kernel
theorem dX12_standsAsAlways_0 : decode cX12_standsAsAlways 0 = .ok (.iconst 0, 1) := by decide +kernel
theorem dX12_standsAsAlways_1 : decode cX12_standsAsAlways 1 = .ok (.istore_n 2, 1) := by decide +kernel
theorem dX12_standsAsAlways_2 : decode cX12_standsAsAlways 2 = .ok (.iload_n 2, 1) := by decide +kernel
theorem dX12_standsAsAlways_3 : decode cX12_standsAsAlways 3 = .ok (.bipush 60, 2) := by decide +kernel
theorem dX12_standsAsAlways_5 : decode cX12_standsAsAlways 5 = .ok (.if_icmp .ge 18, 3) := by decide +kernel
theorem dX12_standsAsAlways_8 : decode cX12_standsAsAlways 8 = .ok (.aload_n 0, 1) := by decide +kernel
theorem dX12_standsAsAlways_9 : decode cX12_standsAsAlways 9 = .ok (.getfield 89, 3) := by decide +kernel
theorem dX12_standsAsAlways_12 : decode cX12_standsAsAlways 12 = .ok (.iload_n 1, 1) := by decide +kernel
theorem dX12_standsAsAlways_13 : decode cX12_standsAsAlways 13 = .ok (.iload_n 2, 1) := by decide +kernel
theorem dX12_standsAsAlways_14 : decode cX12_standsAsAlways 14 = .ok (.iadd, 1) := by decide +kernel
theorem dX12_standsAsAlways_15 : decode cX12_standsAsAlways 15 = .ok (.iconst 0, 1) := by decide +kernel
theorem dX12_standsAsAlways_16 : decode cX12_standsAsAlways 16 = .ok (.iastore, 1) := by decide +kernel
theorem dX12_standsAsAlways_17 : decode cX12_standsAsAlways 17 = .ok (.iinc 2 1, 3) := by decide +kernel
theorem dX12_standsAsAlways_20 : decode cX12_standsAsAlways 20 = .ok (.goto (-18), 3) := by decide +kernel
theorem dX12_standsAsAlways_23 : decode cX12_standsAsAlways 23 = .ok (.aload_n 0, 1) := by decide +kernel
theorem dX12_standsAsAlways_24 : decode cX12_standsAsAlways 24 = .ok (.getfield 89, 3) := by decide +kernel
theorem dX12_standsAsAlways_27 : decode cX12_standsAsAlways 27 = .ok (.iload_n 1, 1) := by decide +kernel
theorem dX12_standsAsAlways_28 : decode cX12_standsAsAlways 28 = .ok (.iconst 3, 1) := by decide +kernel
theorem dX12_standsAsAlways_29 : decode cX12_standsAsAlways 29 = .ok (.iadd, 1) := by decide +kernel
theorem dX12_standsAsAlways_30 : decode cX12_standsAsAlways 30 = .ok (.iconst 1, 1) := by decide +kernel
theorem dX12_standsAsAlways_31 : decode cX12_standsAsAlways 31 = .ok (.iastore, 1) := by decide +kernel
theorem dX12_standsAsAlways_32 : decode cX12_standsAsAlways 32 = .ok (.aload_n 0, 1) := by decide +kernel
theorem dX12_standsAsAlways_33 : decode cX12_standsAsAlways 33 = .ok (.getfield 89, 3) := by decide +kernel
theorem dX12_standsAsAlways_36 : decode cX12_standsAsAlways 36 = .ok (.iload_n 1, 1) := by decide +kernel
theorem dX12_standsAsAlways_37 : decode cX12_standsAsAlways 37 = .ok (.bipush 33, 2) := by decide +kernel
theorem dX12_standsAsAlways_39 : decode cX12_standsAsAlways 39 = .ok (.iadd, 1) := by decide +kernel
theorem dX12_standsAsAlways_40 : decode cX12_standsAsAlways 40 = .ok (.iconst 1, 1) := by decide +kernel
theorem dX12_standsAsAlways_41 : decode cX12_standsAsAlways 41 = .ok (.iastore, 1) := by decide +kernel
theorem dX12_standsAsAlways_42 : decode cX12_standsAsAlways 42 = .ok (.aload_n 0, 1) := by decide +kernel
theorem dX12_standsAsAlways_43 : decode cX12_standsAsAlways 43 = .ok (.getfield 89, 3) := by decide +kernel
theorem dX12_standsAsAlways_46 : decode cX12_standsAsAlways 46 = .ok (.iload_n 1, 1) := by decide +kernel
theorem dX12_standsAsAlways_47 : decode cX12_standsAsAlways 47 = .ok (.iconst 4, 1) := by decide +kernel
theorem dX12_standsAsAlways_48 : decode cX12_standsAsAlways 48 = .ok (.iadd, 1) := by decide +kernel
theorem dX12_standsAsAlways_49 : decode cX12_standsAsAlways 49 = .ok (.iconst (-1), 1) := by decide +kernel
theorem dX12_standsAsAlways_50 : decode cX12_standsAsAlways 50 = .ok (.iastore, 1) := by decide +kernel
theorem dX12_standsAsAlways_51 : decode cX12_standsAsAlways 51 = .ok (.return_, 1) := by decide +kernel
theorem dX12_takeNumber_0 : decode cX12_takeNumber 0 = .ok (.aload_n 0, 1) := by decide +kernel
theorem dX12_takeNumber_1 : decode cX12_takeNumber 1 = .ok (.getfield 159, 3) := by decide +kernel
theorem dX12_takeNumber_4 : decode cX12_takeNumber 4 = .ok (.ifCond .ne 24, 3) := by decide +kernel
theorem dX12_takeNumber_7 : decode cX12_takeNumber 7 = .ok (.aload_n 0, 1) := by decide +kernel
theorem dX12_takeNumber_8 : decode cX12_takeNumber 8 = .ok (.getfield 24, 3) := by decide +kernel
theorem dX12_takeNumber_11 : decode cX12_takeNumber 11 = .ok (.aload_n 0, 1) := by decide +kernel
theorem dX12_takeNumber_12 : decode cX12_takeNumber 12 = .ok (.getfield 156, 3) := by decide +kernel
theorem dX12_takeNumber_15 : decode cX12_takeNumber 15 = .ok (.iaload, 1) := by decide +kernel
theorem dX12_takeNumber_16 : decode cX12_takeNumber 16 = .ok (.iconst 2, 1) := by decide +kernel
theorem dX12_takeNumber_17 : decode cX12_takeNumber 17 = .ok (.if_icmp .eq 11, 3) := by decide +kernel
theorem dX12_takeNumber_20 : decode cX12_takeNumber 20 = .ok (.aload_n 0, 1) := by decide +kernel
theorem dX12_takeNumber_21 : decode cX12_takeNumber 21 = .ok (.iconst 1, 1) := by decide +kernel
theorem dX12_takeNumber_22 : decode cX12_takeNumber 22 = .ok (.invokevirtual 165, 3) := by decide +kernel
theorem dX12_takeNumber_25 : decode cX12_takeNumber 25 = .ok (.goto 45, 3) := by decide +kernel
theorem dX12_takeNumber_28 : decode cX12_takeNumber 28 = .ok (.aload_n 0, 1) := by decide +kernel
theorem dX12_takeNumber_29 : decode cX12_takeNumber 29 = .ok (.getfield 159, 3) := by decide +kernel
theorem dX12_takeNumber_32 : decode cX12_takeNumber 32 = .ok (.ifCond .ne 38, 3) := by decide +kernel
theorem dX12_takeNumber_35 : decode cX12_takeNumber 35 = .ok (.aload_n 0, 1) := by decide +kernel
theorem dX12_takeNumber_36 : decode cX12_takeNumber 36 = .ok (.getfield 30, 3) := by decide +kernel
theorem dX12_takeNumber_39 : decode cX12_takeNumber 39 = .ok (.aload_n 0, 1) := by decide +kernel
theorem dX12_takeNumber_40 : decode cX12_takeNumber 40 = .ok (.getfield 156, 3) := by decide +kernel
theorem dX12_takeNumber_43 : decode cX12_takeNumber 43 = .ok (.laload, 1) := by decide +kernel
theorem dX12_takeNumber_44 : decode cX12_takeNumber 44 = .ok (.iload_n 1, 1) := by decide +kernel
theorem dX12_takeNumber_45 : decode cX12_takeNumber 45 = .ok (.i2l, 1) := by decide +kernel
theorem dX12_takeNumber_46 : decode cX12_takeNumber 46 = .ok (.lcmp, 1) := by decide +kernel
theorem dX12_takeNumber_47 : decode cX12_takeNumber 47 = .ok (.ifCond .lt 18, 3) := by decide +kernel
theorem dX12_takeNumber_50 : decode cX12_takeNumber 50 = .ok (.aload_n 0, 1) := by decide +kernel
theorem dX12_takeNumber_51 : decode cX12_takeNumber 51 = .ok (.getfield 30, 3) := by decide +kernel
theorem dX12_takeNumber_54 : decode cX12_takeNumber 54 = .ok (.aload_n 0, 1) := by decide +kernel
theorem dX12_takeNumber_55 : decode cX12_takeNumber 55 = .ok (.getfield 156, 3) := by decide +kernel
theorem dX12_takeNumber_58 : decode cX12_takeNumber 58 = .ok (.laload, 1) := by decide +kernel
theorem dX12_takeNumber_59 : decode cX12_takeNumber 59 = .ok (.iload_n 2, 1) := by decide +kernel
theorem dX12_takeNumber_60 : decode cX12_takeNumber 60 = .ok (.i2l, 1) := by decide +kernel
theorem dX12_takeNumber_61 : decode cX12_takeNumber 61 = .ok (.lcmp, 1) := by decide +kernel
theorem dX12_takeNumber_62 : decode cX12_takeNumber 62 = .ok (.ifCond .le 8, 3) := by decide +kernel
theorem dX12_takeNumber_65 : decode cX12_takeNumber 65 = .ok (.aload_n 0, 1) := by decide +kernel
theorem dX12_takeNumber_66 : decode cX12_takeNumber 66 = .ok (.iconst 4, 1) := by decide +kernel
theorem dX12_takeNumber_67 : decode cX12_takeNumber 67 = .ok (.invokevirtual 165, 3) := by decide +kernel
theorem dX12_takeNumber_70 : decode cX12_takeNumber 70 = .ok (.aload_n 0, 1) := by decide +kernel
theorem dX12_takeNumber_71 : decode cX12_takeNumber 71 = .ok (.getfield 159, 3) := by decide +kernel
theorem dX12_takeNumber_74 : decode cX12_takeNumber 74 = .ok (.ifCond .le 5, 3) := by decide +kernel
theorem dX12_takeNumber_77 : decode cX12_takeNumber 77 = .ok (.iconst 0, 1) := by decide +kernel
theorem dX12_takeNumber_78 : decode cX12_takeNumber 78 = .ok (.ireturn, 1) := by decide +kernel
theorem dX12_takeNumber_79 : decode cX12_takeNumber 79 = .ok (.aload_n 0, 1) := by decide +kernel
theorem dX12_takeNumber_80 : decode cX12_takeNumber 80 = .ok (.dup, 1) := by decide +kernel
theorem dX12_takeNumber_81 : decode cX12_takeNumber 81 = .ok (.getfield 156, 3) := by decide +kernel
theorem dX12_takeNumber_84 : decode cX12_takeNumber 84 = .ok (.iconst 1, 1) := by decide +kernel
theorem dX12_takeNumber_85 : decode cX12_takeNumber 85 = .ok (.iadd, 1) := by decide +kernel
theorem dX12_takeNumber_86 : decode cX12_takeNumber 86 = .ok (.putfield 156, 3) := by decide +kernel
theorem dX12_takeNumber_89 : decode cX12_takeNumber 89 = .ok (.aload_n 0, 1) := by decide +kernel
theorem dX12_takeNumber_90 : decode cX12_takeNumber 90 = .ok (.getfield 30, 3) := by decide +kernel
theorem dX12_takeNumber_93 : decode cX12_takeNumber 93 = .ok (.aload_n 0, 1) := by decide +kernel
theorem dX12_takeNumber_94 : decode cX12_takeNumber 94 = .ok (.getfield 156, 3) := by decide +kernel
theorem dX12_takeNumber_97 : decode cX12_takeNumber 97 = .ok (.iconst 1, 1) := by decide +kernel
theorem dX12_takeNumber_98 : decode cX12_takeNumber 98 = .ok (.isub, 1) := by decide +kernel
theorem dX12_takeNumber_99 : decode cX12_takeNumber 99 = .ok (.laload, 1) := by decide +kernel
theorem dX12_takeNumber_100 : decode cX12_takeNumber 100 = .ok (.l2i, 1) := by decide +kernel
theorem dX12_takeNumber_101 : decode cX12_takeNumber 101 = .ok (.ireturn, 1) := by decide +kernel
theorem dX12_takeAfter_0 : decode cX12_takeAfter 0 = .ok (.aload_n 0, 1) := by decide +kernel
theorem dX12_takeAfter_1 : decode cX12_takeAfter 1 = .ok (.iload_n 1, 1) := by decide +kernel
theorem dX12_takeAfter_2 : decode cX12_takeAfter 2 = .ok (.invokevirtual 174, 3) := by decide +kernel
theorem dX12_takeAfter_5 : decode cX12_takeAfter 5 = .ok (.aload_n 0, 1) := by decide +kernel
theorem dX12_takeAfter_6 : decode cX12_takeAfter 6 = .ok (.iload_n 2, 1) := by decide +kernel
theorem dX12_takeAfter_7 : decode cX12_takeAfter 7 = .ok (.iload_n 3, 1) := by decide +kernel
theorem dX12_takeAfter_8 : decode cX12_takeAfter 8 = .ok (.invokevirtual 177, 3) := by decide +kernel
theorem dX12_takeAfter_11 : decode cX12_takeAfter 11 = .ok (.ireturn, 1) := by decide +kernel
theorem dX12_wordHere_0 : decode cX12_wordHere 0 = .ok (.iconst (-1), 1) := by decide +kernel
theorem dX12_wordHere_1 : decode cX12_wordHere 1 = .ok (.istore_n 3, 1) := by decide +kernel
theorem dX12_wordHere_2 : decode cX12_wordHere 2 = .ok (.iconst 0, 1) := by decide +kernel
theorem dX12_wordHere_3 : decode cX12_wordHere 3 = .ok (.istore 4, 2) := by decide +kernel
theorem dX12_wordHere_5 : decode cX12_wordHere 5 = .ok (.iload 4, 2) := by decide +kernel
theorem dX12_wordHere_7 : decode cX12_wordHere 7 = .ok (.iload_n 2, 1) := by decide +kernel
theorem dX12_wordHere_8 : decode cX12_wordHere 8 = .ok (.if_icmp .ge 27, 3) := by decide +kernel
theorem dX12_wordHere_11 : decode cX12_wordHere 11 = .ok (.aload_n 0, 1) := by decide +kernel
theorem dX12_wordHere_12 : decode cX12_wordHere 12 = .ok (.iload_n 1, 1) := by decide +kernel
theorem dX12_wordHere_13 : decode cX12_wordHere 13 = .ok (.iload 4, 2) := by decide +kernel
theorem dX12_wordHere_15 : decode cX12_wordHere 15 = .ok (.iadd, 1) := by decide +kernel
theorem dX12_wordHere_16 : decode cX12_wordHere 16 = .ok (.invokevirtual 168, 3) := by decide +kernel
theorem dX12_wordHere_19 : decode cX12_wordHere 19 = .ok (.ifCond .eq 8, 3) := by decide +kernel
theorem dX12_wordHere_22 : decode cX12_wordHere 22 = .ok (.iload 4, 2) := by decide +kernel
theorem dX12_wordHere_24 : decode cX12_wordHere 24 = .ok (.goto 4, 3) := by decide +kernel
theorem dX12_wordHere_27 : decode cX12_wordHere 27 = .ok (.iload_n 3, 1) := by decide +kernel
theorem dX12_wordHere_28 : decode cX12_wordHere 28 = .ok (.istore_n 3, 1) := by decide +kernel
theorem dX12_wordHere_29 : decode cX12_wordHere 29 = .ok (.iinc 4 1, 3) := by decide +kernel
theorem dX12_wordHere_32 : decode cX12_wordHere 32 = .ok (.goto (-27), 3) := by decide +kernel
theorem dX12_wordHere_35 : decode cX12_wordHere 35 = .ok (.iload_n 3, 1) := by decide +kernel
theorem dX12_wordHere_36 : decode cX12_wordHere 36 = .ok (.ireturn, 1) := by decide +kernel
theorem dX12_takeOne_0 : decode cX12_takeOne 0 = .ok (.aload_n 0, 1) := by decide +kernel
theorem dX12_takeOne_1 : decode cX12_takeOne 1 = .ok (.getfield 159, 3) := by decide +kernel
theorem dX12_takeOne_4 : decode cX12_takeOne 4 = .ok (.ifCond .le 7, 3) := by decide +kernel
theorem dX12_takeOne_7 : decode cX12_takeOne 7 = .ok (.iconst (-1), 1) := by decide +kernel
theorem dX12_takeOne_8 : decode cX12_takeOne 8 = .ok (.goto 9, 3) := by decide +kernel
theorem dX12_takeOne_11 : decode cX12_takeOne 11 = .ok (.aload_n 0, 1) := by decide +kernel
theorem dX12_takeOne_12 : decode cX12_takeOne 12 = .ok (.iload_n 1, 1) := by decide +kernel
theorem dX12_takeOne_13 : decode cX12_takeOne 13 = .ok (.iload_n 2, 1) := by decide +kernel
theorem dX12_takeOne_14 : decode cX12_takeOne 14 = .ok (.invokevirtual 181, 3) := by decide +kernel
theorem dX12_takeOne_17 : decode cX12_takeOne 17 = .ok (.istore_n 3, 1) := by decide +kernel
theorem dX12_takeOne_18 : decode cX12_takeOne 18 = .ok (.aload_n 0, 1) := by decide +kernel
theorem dX12_takeOne_19 : decode cX12_takeOne 19 = .ok (.getfield 159, 3) := by decide +kernel
theorem dX12_takeOne_22 : decode cX12_takeOne 22 = .ok (.ifCond .ne 12, 3) := by decide +kernel
theorem dX12_takeOne_25 : decode cX12_takeOne 25 = .ok (.iload_n 3, 1) := by decide +kernel
theorem dX12_takeOne_26 : decode cX12_takeOne 26 = .ok (.ifCond .ge 8, 3) := by decide +kernel
theorem dX12_takeOne_29 : decode cX12_takeOne 29 = .ok (.aload_n 0, 1) := by decide +kernel
theorem dX12_takeOne_30 : decode cX12_takeOne 30 = .ok (.iconst 1, 1) := by decide +kernel
theorem dX12_takeOne_31 : decode cX12_takeOne 31 = .ok (.invokevirtual 165, 3) := by decide +kernel
theorem dX12_takeOne_34 : decode cX12_takeOne 34 = .ok (.aload_n 0, 1) := by decide +kernel
theorem dX12_takeOne_35 : decode cX12_takeOne 35 = .ok (.dup, 1) := by decide +kernel
theorem dX12_takeOne_36 : decode cX12_takeOne 36 = .ok (.getfield 156, 3) := by decide +kernel
theorem dX12_takeOne_39 : decode cX12_takeOne 39 = .ok (.aload_n 0, 1) := by decide +kernel
theorem dX12_takeOne_40 : decode cX12_takeOne 40 = .ok (.getfield 159, 3) := by decide +kernel
theorem dX12_takeOne_43 : decode cX12_takeOne 43 = .ok (.ifCond .le 7, 3) := by decide +kernel
theorem dX12_takeOne_46 : decode cX12_takeOne 46 = .ok (.iconst 0, 1) := by decide +kernel
theorem dX12_takeOne_47 : decode cX12_takeOne 47 = .ok (.goto 4, 3) := by decide +kernel
theorem dX12_takeOne_50 : decode cX12_takeOne 50 = .ok (.iconst 1, 1) := by decide +kernel
theorem dX12_takeOne_51 : decode cX12_takeOne 51 = .ok (.iadd, 1) := by decide +kernel
theorem dX12_takeOne_52 : decode cX12_takeOne 52 = .ok (.putfield 156, 3) := by decide +kernel
theorem dX12_takeOne_55 : decode cX12_takeOne 55 = .ok (.aload_n 0, 1) := by decide +kernel
theorem dX12_takeOne_56 : decode cX12_takeOne 56 = .ok (.getfield 159, 3) := by decide +kernel
theorem dX12_takeOne_59 : decode cX12_takeOne 59 = .ok (.ifCond .le 7, 3) := by decide +kernel
theorem dX12_takeOne_62 : decode cX12_takeOne 62 = .ok (.iconst 0, 1) := by decide +kernel
theorem dX12_takeOne_63 : decode cX12_takeOne 63 = .ok (.goto 4, 3) := by decide +kernel
theorem dX12_takeOne_66 : decode cX12_takeOne 66 = .ok (.iload_n 3, 1) := by decide +kernel
theorem dX12_takeOne_67 : decode cX12_takeOne 67 = .ok (.ireturn, 1) := by decide +kernel
theorem dX12_isName_0 : decode cX12_isName 0 = .ok (.aload_n 0, 1) := by decide +kernel
theorem dX12_isName_1 : decode cX12_isName 1 = .ok (.getfield 159, 3) := by decide +kernel
theorem dX12_isName_4 : decode cX12_isName 4 = .ok (.ifCond .ne 30, 3) := by decide +kernel
theorem dX12_isName_7 : decode cX12_isName 7 = .ok (.aload_n 0, 1) := by decide +kernel
theorem dX12_isName_8 : decode cX12_isName 8 = .ok (.getfield 24, 3) := by decide +kernel
theorem dX12_isName_11 : decode cX12_isName 11 = .ok (.aload_n 0, 1) := by decide +kernel
theorem dX12_isName_12 : decode cX12_isName 12 = .ok (.getfield 156, 3) := by decide +kernel
theorem dX12_isName_15 : decode cX12_isName 15 = .ok (.iaload, 1) := by decide +kernel
theorem dX12_isName_16 : decode cX12_isName 16 = .ok (.iconst 1, 1) := by decide +kernel
theorem dX12_isName_17 : decode cX12_isName 17 = .ok (.if_icmp .ne 17, 3) := by decide +kernel
theorem dX12_isName_20 : decode cX12_isName 20 = .ok (.aload_n 0, 1) := by decide +kernel
theorem dX12_isName_21 : decode cX12_isName 21 = .ok (.iconst 0, 1) := by decide +kernel
theorem dX12_isName_22 : decode cX12_isName 22 = .ok (.bipush 22, 2) := by decide +kernel
theorem dX12_isName_24 : decode cX12_isName 24 = .ok (.invokevirtual 181, 3) := by decide +kernel
theorem dX12_isName_27 : decode cX12_isName 27 = .ok (.ifCond .ge 7, 3) := by decide +kernel
theorem dX12_isName_30 : decode cX12_isName 30 = .ok (.iconst 1, 1) := by decide +kernel
theorem dX12_isName_31 : decode cX12_isName 31 = .ok (.goto 4, 3) := by decide +kernel
theorem dX12_isName_34 : decode cX12_isName 34 = .ok (.iconst 0, 1) := by decide +kernel
theorem dX12_isName_35 : decode cX12_isName 35 = .ok (.ireturn, 1) := by decide +kernel
theorem dX12_nameAt_0 : decode cX12_nameAt 0 = .ok (.iconst 0, 1) := by decide +kernel
theorem dX12_nameAt_1 : decode cX12_nameAt 1 = .ok (.istore_n 2, 1) := by decide +kernel
theorem dX12_nameAt_2 : decode cX12_nameAt 2 = .ok (.iload_n 2, 1) := by decide +kernel
theorem dX12_nameAt_3 : decode cX12_nameAt 3 = .ok (.iload_n 1, 1) := by decide +kernel
theorem dX12_nameAt_4 : decode cX12_nameAt 4 = .ok (.ifCond .eq 10, 3) := by decide +kernel
theorem dX12_nameAt_7 : decode cX12_nameAt 7 = .ok (.aload_n 0, 1) := by decide +kernel
theorem dX12_nameAt_8 : decode cX12_nameAt 8 = .ok (.getfield 184, 3) := by decide +kernel
theorem dX12_nameAt_11 : decode cX12_nameAt 11 = .ok (.goto 7, 3) := by decide +kernel
theorem dX12_nameAt_14 : decode cX12_nameAt 14 = .ok (.aload_n 0, 1) := by decide +kernel
theorem dX12_nameAt_15 : decode cX12_nameAt 15 = .ok (.getfield 187, 3) := by decide +kernel
theorem dX12_nameAt_18 : decode cX12_nameAt 18 = .ok (.if_icmp .ge 61, 3) := by decide +kernel
theorem dX12_nameAt_21 : decode cX12_nameAt 21 = .ok (.iload_n 1, 1) := by decide +kernel
theorem dX12_nameAt_22 : decode cX12_nameAt 22 = .ok (.ifCond .eq 12, 3) := by decide +kernel
theorem dX12_nameAt_25 : decode cX12_nameAt 25 = .ok (.aload_n 0, 1) := by decide +kernel
theorem dX12_nameAt_26 : decode cX12_nameAt 26 = .ok (.getfield 101, 3) := by decide +kernel
theorem dX12_nameAt_29 : decode cX12_nameAt 29 = .ok (.iload_n 2, 1) := by decide +kernel
theorem dX12_nameAt_30 : decode cX12_nameAt 30 = .ok (.laload, 1) := by decide +kernel
theorem dX12_nameAt_31 : decode cX12_nameAt 31 = .ok (.goto 9, 3) := by decide +kernel
theorem dX12_nameAt_34 : decode cX12_nameAt 34 = .ok (.aload_n 0, 1) := by decide +kernel
theorem dX12_nameAt_35 : decode cX12_nameAt 35 = .ok (.getfield 98, 3) := by decide +kernel
theorem dX12_nameAt_38 : decode cX12_nameAt 38 = .ok (.iload_n 2, 1) := by decide +kernel
theorem dX12_nameAt_39 : decode cX12_nameAt 39 = .ok (.laload, 1) := by decide +kernel
theorem dX12_nameAt_40 : decode cX12_nameAt 40 = .ok (.aload_n 0, 1) := by decide +kernel
theorem dX12_nameAt_41 : decode cX12_nameAt 41 = .ok (.getfield 30, 3) := by decide +kernel
theorem dX12_nameAt_44 : decode cX12_nameAt 44 = .ok (.aload_n 0, 1) := by decide +kernel
theorem dX12_nameAt_45 : decode cX12_nameAt 45 = .ok (.getfield 156, 3) := by decide +kernel
theorem dX12_nameAt_48 : decode cX12_nameAt 48 = .ok (.laload, 1) := by decide +kernel
theorem dX12_nameAt_49 : decode cX12_nameAt 49 = .ok (.lcmp, 1) := by decide +kernel
theorem dX12_nameAt_50 : decode cX12_nameAt 50 = .ok (.ifCond .ne 23, 3) := by decide +kernel
theorem dX12_nameAt_53 : decode cX12_nameAt 53 = .ok (.iload_n 1, 1) := by decide +kernel
theorem dX12_nameAt_54 : decode cX12_nameAt 54 = .ok (.ifCond .eq 12, 3) := by decide +kernel
theorem dX12_nameAt_57 : decode cX12_nameAt 57 = .ok (.aload_n 0, 1) := by decide +kernel
theorem dX12_nameAt_58 : decode cX12_nameAt 58 = .ok (.getfield 107, 3) := by decide +kernel
theorem dX12_nameAt_61 : decode cX12_nameAt 61 = .ok (.iload_n 2, 1) := by decide +kernel
theorem dX12_nameAt_62 : decode cX12_nameAt 62 = .ok (.iaload, 1) := by decide +kernel
theorem dX12_nameAt_63 : decode cX12_nameAt 63 = .ok (.goto 9, 3) := by decide +kernel
theorem dX12_nameAt_66 : decode cX12_nameAt 66 = .ok (.aload_n 0, 1) := by decide +kernel
theorem dX12_nameAt_67 : decode cX12_nameAt 67 = .ok (.getfield 104, 3) := by decide +kernel
theorem dX12_nameAt_70 : decode cX12_nameAt 70 = .ok (.iload_n 2, 1) := by decide +kernel
theorem dX12_nameAt_71 : decode cX12_nameAt 71 = .ok (.iaload, 1) := by decide +kernel
theorem dX12_nameAt_72 : decode cX12_nameAt 72 = .ok (.ireturn, 1) := by decide +kernel
theorem dX12_nameAt_73 : decode cX12_nameAt 73 = .ok (.iinc 2 1, 3) := by decide +kernel
theorem dX12_nameAt_76 : decode cX12_nameAt 76 = .ok (.goto (-74), 3) := by decide +kernel
theorem dX12_nameAt_79 : decode cX12_nameAt 79 = .ok (.iconst (-1), 1) := by decide +kernel
theorem dX12_nameAt_80 : decode cX12_nameAt 80 = .ok (.ireturn, 1) := by decide +kernel
theorem dX12_takeTold_0 : decode cX12_takeTold 0 = .ok (.aload_n 0, 1) := by decide +kernel
theorem dX12_takeTold_1 : decode cX12_takeTold 1 = .ok (.getfield 159, 3) := by decide +kernel
theorem dX12_takeTold_4 : decode cX12_takeTold 4 = .ok (.ifCond .ne 15, 3) := by decide +kernel
theorem dX12_takeTold_7 : decode cX12_takeTold 7 = .ok (.aload_n 0, 1) := by decide +kernel
theorem dX12_takeTold_8 : decode cX12_takeTold 8 = .ok (.invokevirtual 190, 3) := by decide +kernel
theorem dX12_takeTold_11 : decode cX12_takeTold 11 = .ok (.ifCond .ne 8, 3) := by decide +kernel
theorem dX12_takeTold_14 : decode cX12_takeTold 14 = .ok (.aload_n 0, 1) := by decide +kernel
theorem dX12_takeTold_15 : decode cX12_takeTold 15 = .ok (.iconst 1, 1) := by decide +kernel
theorem dX12_takeTold_16 : decode cX12_takeTold 16 = .ok (.invokevirtual 165, 3) := by decide +kernel
theorem dX12_takeTold_19 : decode cX12_takeTold 19 = .ok (.aload_n 0, 1) := by decide +kernel
theorem dX12_takeTold_20 : decode cX12_takeTold 20 = .ok (.getfield 159, 3) := by decide +kernel
theorem dX12_takeTold_23 : decode cX12_takeTold 23 = .ok (.ifCond .le 7, 3) := by decide +kernel
theorem dX12_takeTold_26 : decode cX12_takeTold 26 = .ok (.iconst (-1), 1) := by decide +kernel
theorem dX12_takeTold_27 : decode cX12_takeTold 27 = .ok (.goto 10, 3) := by decide +kernel
theorem dX12_takeTold_30 : decode cX12_takeTold 30 = .ok (.aload_n 0, 1) := by decide +kernel
theorem dX12_takeTold_31 : decode cX12_takeTold 31 = .ok (.iconst 0, 1) := by decide +kernel
theorem dX12_takeTold_32 : decode cX12_takeTold 32 = .ok (.invokevirtual 194, 3) := by decide +kernel
theorem dX12_takeTold_35 : decode cX12_takeTold 35 = .ok (.iload_n 1, 1) := by decide +kernel
theorem dX12_takeTold_36 : decode cX12_takeTold 36 = .ok (.isub, 1) := by decide +kernel
theorem dX12_takeTold_37 : decode cX12_takeTold 37 = .ok (.istore_n 2, 1) := by decide +kernel
theorem dX12_takeTold_38 : decode cX12_takeTold 38 = .ok (.aload_n 0, 1) := by decide +kernel
theorem dX12_takeTold_39 : decode cX12_takeTold 39 = .ok (.getfield 159, 3) := by decide +kernel
theorem dX12_takeTold_42 : decode cX12_takeTold 42 = .ok (.ifCond .ne 17, 3) := by decide +kernel
theorem dX12_takeTold_45 : decode cX12_takeTold 45 = .ok (.iload_n 2, 1) := by decide +kernel
theorem dX12_takeTold_46 : decode cX12_takeTold 46 = .ok (.iconst 0, 1) := by decide +kernel
theorem dX12_takeTold_47 : decode cX12_takeTold 47 = .ok (.iconst 5, 1) := by decide +kernel
theorem dX12_takeTold_48 : decode cX12_takeTold 48 = .ok (.invokestatic 198, 3) := by decide +kernel
theorem dX12_takeTold_51 : decode cX12_takeTold 51 = .ok (.ifCond .ne 8, 3) := by decide +kernel
theorem dX12_takeTold_54 : decode cX12_takeTold 54 = .ok (.aload_n 0, 1) := by decide +kernel
theorem dX12_takeTold_55 : decode cX12_takeTold 55 = .ok (.iconst 2, 1) := by decide +kernel
theorem dX12_takeTold_56 : decode cX12_takeTold 56 = .ok (.invokevirtual 165, 3) := by decide +kernel
theorem dX12_takeTold_59 : decode cX12_takeTold 59 = .ok (.aload_n 0, 1) := by decide +kernel
theorem dX12_takeTold_60 : decode cX12_takeTold 60 = .ok (.dup, 1) := by decide +kernel
theorem dX12_takeTold_61 : decode cX12_takeTold 61 = .ok (.getfield 156, 3) := by decide +kernel
theorem dX12_takeTold_64 : decode cX12_takeTold 64 = .ok (.aload_n 0, 1) := by decide +kernel
theorem dX12_takeTold_65 : decode cX12_takeTold 65 = .ok (.getfield 159, 3) := by decide +kernel
theorem dX12_takeTold_68 : decode cX12_takeTold 68 = .ok (.ifCond .le 7, 3) := by decide +kernel
theorem dX12_takeTold_71 : decode cX12_takeTold 71 = .ok (.iconst 0, 1) := by decide +kernel
theorem dX12_takeTold_72 : decode cX12_takeTold 72 = .ok (.goto 4, 3) := by decide +kernel
theorem dX12_takeTold_75 : decode cX12_takeTold 75 = .ok (.iconst 1, 1) := by decide +kernel
theorem dX12_takeTold_76 : decode cX12_takeTold 76 = .ok (.iadd, 1) := by decide +kernel
theorem dX12_takeTold_77 : decode cX12_takeTold 77 = .ok (.putfield 156, 3) := by decide +kernel
theorem dX12_takeTold_80 : decode cX12_takeTold 80 = .ok (.aload_n 0, 1) := by decide +kernel
theorem dX12_takeTold_81 : decode cX12_takeTold 81 = .ok (.getfield 159, 3) := by decide +kernel
theorem dX12_takeTold_84 : decode cX12_takeTold 84 = .ok (.ifCond .le 7, 3) := by decide +kernel
theorem dX12_takeTold_87 : decode cX12_takeTold 87 = .ok (.iconst 0, 1) := by decide +kernel
theorem dX12_takeTold_88 : decode cX12_takeTold 88 = .ok (.goto 4, 3) := by decide +kernel
theorem dX12_takeTold_91 : decode cX12_takeTold 91 = .ok (.iload_n 2, 1) := by decide +kernel
theorem dX12_takeTold_92 : decode cX12_takeTold 92 = .ok (.ireturn, 1) := by decide +kernel
theorem dX12_street_0 : decode cX12_street 0 = .ok (.aload_n 0, 1) := by decide +kernel
theorem dX12_street_1 : decode cX12_street 1 = .ok (.iconst 0, 1) := by decide +kernel
theorem dX12_street_2 : decode cX12_street 2 = .ok (.putfield 1, 3) := by decide +kernel
theorem dX12_street_5 : decode cX12_street 5 = .ok (.aload_n 0, 1) := by decide +kernel
theorem dX12_street_6 : decode cX12_street 6 = .ok (.invokevirtual 202, 3) := by decide +kernel
theorem dX12_street_9 : decode cX12_street 9 = .ok (.aload_n 0, 1) := by decide +kernel
theorem dX12_street_10 : decode cX12_street 10 = .ok (.iconst 0, 1) := by decide +kernel
theorem dX12_street_11 : decode cX12_street 11 = .ok (.putfield 205, 3) := by decide +kernel
theorem dX12_street_14 : decode cX12_street 14 = .ok (.aload_n 0, 1) := by decide +kernel
theorem dX12_street_15 : decode cX12_street 15 = .ok (.iconst 0, 1) := by decide +kernel
theorem dX12_street_16 : decode cX12_street 16 = .ok (.putfield 184, 3) := by decide +kernel
theorem dX12_street_19 : decode cX12_street 19 = .ok (.aload_n 0, 1) := by decide +kernel
theorem dX12_street_20 : decode cX12_street 20 = .ok (.iconst 0, 1) := by decide +kernel
theorem dX12_street_21 : decode cX12_street 21 = .ok (.putfield 208, 3) := by decide +kernel
theorem dX12_street_24 : decode cX12_street 24 = .ok (.aload_n 0, 1) := by decide +kernel
theorem dX12_street_25 : decode cX12_street 25 = .ok (.bipush 60, 2) := by decide +kernel
theorem dX12_street_27 : decode cX12_street 27 = .ok (.invokevirtual 126, 3) := by decide +kernel
theorem dX12_street_30 : decode cX12_street 30 = .ok (.aload_n 0, 1) := by decide +kernel
theorem dX12_street_31 : decode cX12_street 31 = .ok (.getfield 159, 3) := by decide +kernel
theorem dX12_street_34 : decode cX12_street 34 = .ok (.ifCond .ne 28, 3) := by decide +kernel
theorem dX12_street_37 : decode cX12_street 37 = .ok (.aload_n 0, 1) := by decide +kernel
theorem dX12_street_38 : decode cX12_street 38 = .ok (.getfield 24, 3) := by decide +kernel
theorem dX12_street_41 : decode cX12_street 41 = .ok (.aload_n 0, 1) := by decide +kernel
theorem dX12_street_42 : decode cX12_street 42 = .ok (.getfield 156, 3) := by decide +kernel
theorem dX12_street_45 : decode cX12_street 45 = .ok (.iaload, 1) := by decide +kernel
theorem dX12_street_46 : decode cX12_street 46 = .ok (.ifCond .eq 16, 3) := by decide +kernel
theorem dX12_street_49 : decode cX12_street 49 = .ok (.aload_n 0, 1) := by decide +kernel
theorem dX12_street_50 : decode cX12_street 50 = .ok (.invokevirtual 211, 3) := by decide +kernel
theorem dX12_street_53 : decode cX12_street 53 = .ok (.aload_n 0, 1) := by decide +kernel
theorem dX12_street_54 : decode cX12_street 54 = .ok (.bipush 59, 2) := by decide +kernel
theorem dX12_street_56 : decode cX12_street 56 = .ok (.invokevirtual 214, 3) := by decide +kernel
theorem dX12_street_59 : decode cX12_street 59 = .ok (.goto (-29), 3) := by decide +kernel
theorem dX12_street_62 : decode cX12_street 62 = .ok (.aload_n 0, 1) := by decide +kernel
theorem dX12_street_63 : decode cX12_street 63 = .ok (.getfield 159, 3) := by decide +kernel
theorem dX12_street_66 : decode cX12_street 66 = .ok (.ifCond .le 8, 3) := by decide +kernel
theorem dX12_street_69 : decode cX12_street 69 = .ok (.aload_n 0, 1) := by decide +kernel
theorem dX12_street_70 : decode cX12_street 70 = .ok (.getfield 159, 3) := by decide +kernel
theorem dX12_street_73 : decode cX12_street 73 = .ok (.ireturn, 1) := by decide +kernel
theorem dX12_street_74 : decode cX12_street 74 = .ok (.iconst 0, 1) := by decide +kernel
theorem dX12_street_75 : decode cX12_street 75 = .ok (.istore_n 1, 1) := by decide +kernel
theorem dX12_street_76 : decode cX12_street 76 = .ok (.iload_n 1, 1) := by decide +kernel
theorem dX12_street_77 : decode cX12_street 77 = .ok (.bipush 60, 2) := by decide +kernel
theorem dX12_street_79 : decode cX12_street 79 = .ok (.if_icmp .ge 24, 3) := by decide +kernel
theorem dX12_street_82 : decode cX12_street 82 = .ok (.aload_n 0, 1) := by decide +kernel
theorem dX12_street_83 : decode cX12_street 83 = .ok (.getfield 89, 3) := by decide +kernel
theorem dX12_street_86 : decode cX12_street 86 = .ok (.iload_n 1, 1) := by decide +kernel
theorem dX12_street_87 : decode cX12_street 87 = .ok (.aload_n 0, 1) := by decide +kernel
theorem dX12_street_88 : decode cX12_street 88 = .ok (.getfield 89, 3) := by decide +kernel
theorem dX12_street_91 : decode cX12_street 91 = .ok (.bipush 60, 2) := by decide +kernel
theorem dX12_street_93 : decode cX12_street 93 = .ok (.iload_n 1, 1) := by decide +kernel
theorem dX12_street_94 : decode cX12_street 94 = .ok (.iadd, 1) := by decide +kernel
theorem dX12_street_95 : decode cX12_street 95 = .ok (.iaload, 1) := by decide +kernel
theorem dX12_street_96 : decode cX12_street 96 = .ok (.iastore, 1) := by decide +kernel
theorem dX12_street_97 : decode cX12_street 97 = .ok (.iinc 1 1, 3) := by decide +kernel
theorem dX12_street_100 : decode cX12_street 100 = .ok (.goto (-24), 3) := by decide +kernel
theorem dX12_street_103 : decode cX12_street 103 = .ok (.iconst 0, 1) := by decide +kernel
theorem dX12_street_104 : decode cX12_street 104 = .ok (.istore_n 1, 1) := by decide +kernel
theorem dX12_street_105 : decode cX12_street 105 = .ok (.iload_n 1, 1) := by decide +kernel
theorem dX12_street_106 : decode cX12_street 106 = .ok (.aload_n 0, 1) := by decide +kernel
theorem dX12_street_107 : decode cX12_street 107 = .ok (.getfield 205, 3) := by decide +kernel
theorem dX12_street_110 : decode cX12_street 110 = .ok (.if_icmp .ge 41, 3) := by decide +kernel
theorem dX12_street_113 : decode cX12_street 113 = .ok (.aload_n 0, 1) := by decide +kernel
theorem dX12_street_114 : decode cX12_street 114 = .ok (.getfield 92, 3) := by decide +kernel
theorem dX12_street_117 : decode cX12_street 117 = .ok (.iload_n 1, 1) := by decide +kernel
theorem dX12_street_118 : decode cX12_street 118 = .ok (.aload_n 0, 1) := by decide +kernel
theorem dX12_street_119 : decode cX12_street 119 = .ok (.getfield 92, 3) := by decide +kernel
theorem dX12_street_122 : decode cX12_street 122 = .ok (.sipush 1100, 3) := by decide +kernel
theorem dX12_street_125 : decode cX12_street 125 = .ok (.iload_n 1, 1) := by decide +kernel
theorem dX12_street_126 : decode cX12_street 126 = .ok (.iadd, 1) := by decide +kernel
theorem dX12_street_127 : decode cX12_street 127 = .ok (.iaload, 1) := by decide +kernel
theorem dX12_street_128 : decode cX12_street 128 = .ok (.iastore, 1) := by decide +kernel
theorem dX12_street_129 : decode cX12_street 129 = .ok (.aload_n 0, 1) := by decide +kernel
theorem dX12_street_130 : decode cX12_street 130 = .ok (.getfield 95, 3) := by decide +kernel
theorem dX12_street_133 : decode cX12_street 133 = .ok (.iload_n 1, 1) := by decide +kernel
theorem dX12_street_134 : decode cX12_street 134 = .ok (.aload_n 0, 1) := by decide +kernel
theorem dX12_street_135 : decode cX12_street 135 = .ok (.getfield 95, 3) := by decide +kernel
theorem dX12_street_138 : decode cX12_street 138 = .ok (.sipush 1100, 3) := by decide +kernel
theorem dX12_street_141 : decode cX12_street 141 = .ok (.iload_n 1, 1) := by decide +kernel
theorem dX12_street_142 : decode cX12_street 142 = .ok (.iadd, 1) := by decide +kernel
theorem dX12_street_143 : decode cX12_street 143 = .ok (.iaload, 1) := by decide +kernel
theorem dX12_street_144 : decode cX12_street 144 = .ok (.iastore, 1) := by decide +kernel
theorem dX12_street_145 : decode cX12_street 145 = .ok (.iinc 1 1, 3) := by decide +kernel
theorem dX12_street_148 : decode cX12_street 148 = .ok (.goto (-43), 3) := by decide +kernel
theorem dX12_street_151 : decode cX12_street 151 = .ok (.iconst 0, 1) := by decide +kernel
theorem dX12_street_152 : decode cX12_street 152 = .ok (.istore_n 1, 1) := by decide +kernel
theorem dX12_street_153 : decode cX12_street 153 = .ok (.iload_n 1, 1) := by decide +kernel
theorem dX12_street_154 : decode cX12_street 154 = .ok (.aload_n 0, 1) := by decide +kernel
theorem dX12_street_155 : decode cX12_street 155 = .ok (.getfield 184, 3) := by decide +kernel
theorem dX12_street_158 : decode cX12_street 158 = .ok (.if_icmp .ge 33, 3) := by decide +kernel
theorem dX12_street_161 : decode cX12_street 161 = .ok (.aload_n 0, 1) := by decide +kernel
theorem dX12_street_162 : decode cX12_street 162 = .ok (.getfield 98, 3) := by decide +kernel
theorem dX12_street_165 : decode cX12_street 165 = .ok (.iload_n 1, 1) := by decide +kernel
theorem dX12_street_166 : decode cX12_street 166 = .ok (.aload_n 0, 1) := by decide +kernel
theorem dX12_street_167 : decode cX12_street 167 = .ok (.getfield 101, 3) := by decide +kernel
theorem dX12_street_170 : decode cX12_street 170 = .ok (.iload_n 1, 1) := by decide +kernel
theorem dX12_street_171 : decode cX12_street 171 = .ok (.laload, 1) := by decide +kernel
theorem dX12_street_172 : decode cX12_street 172 = .ok (.lastore, 1) := by decide +kernel
theorem dX12_street_173 : decode cX12_street 173 = .ok (.aload_n 0, 1) := by decide +kernel
theorem dX12_street_174 : decode cX12_street 174 = .ok (.getfield 104, 3) := by decide +kernel
theorem dX12_street_177 : decode cX12_street 177 = .ok (.iload_n 1, 1) := by decide +kernel
theorem dX12_street_178 : decode cX12_street 178 = .ok (.aload_n 0, 1) := by decide +kernel
theorem dX12_street_179 : decode cX12_street 179 = .ok (.getfield 107, 3) := by decide +kernel
theorem dX12_street_182 : decode cX12_street 182 = .ok (.iload_n 1, 1) := by decide +kernel
theorem dX12_street_183 : decode cX12_street 183 = .ok (.iaload, 1) := by decide +kernel
theorem dX12_street_184 : decode cX12_street 184 = .ok (.iastore, 1) := by decide +kernel
theorem dX12_street_185 : decode cX12_street 185 = .ok (.iinc 1 1, 3) := by decide +kernel
theorem dX12_street_188 : decode cX12_street 188 = .ok (.goto (-35), 3) := by decide +kernel
theorem dX12_street_191 : decode cX12_street 191 = .ok (.aload_n 0, 1) := by decide +kernel
theorem dX12_street_192 : decode cX12_street 192 = .ok (.aload_n 0, 1) := by decide +kernel
theorem dX12_street_193 : decode cX12_street 193 = .ok (.getfield 184, 3) := by decide +kernel
theorem dX12_street_196 : decode cX12_street 196 = .ok (.putfield 187, 3) := by decide +kernel
theorem dX12_street_199 : decode cX12_street 199 = .ok (.aload_n 0, 1) := by decide +kernel
theorem dX12_street_200 : decode cX12_street 200 = .ok (.invokevirtual 130, 3) := by decide +kernel
theorem dX12_street_203 : decode cX12_street 203 = .ok (.iconst 0, 1) := by decide +kernel
theorem dX12_street_204 : decode cX12_street 204 = .ok (.ireturn, 1) := by decide +kernel
theorem dX12_readLine_0 : decode cX12_readLine 0 = .ok (.aload_n 0, 1) := by decide +kernel
theorem dX12_readLine_1 : decode cX12_readLine 1 = .ok (.iconst 0, 1) := by decide +kernel
theorem dX12_readLine_2 : decode cX12_readLine 2 = .ok (.invokevirtual 168, 3) := by decide +kernel
theorem dX12_readLine_5 : decode cX12_readLine 5 = .ok (.ifCond .eq 10, 3) := by decide +kernel
theorem dX12_readLine_8 : decode cX12_readLine 8 = .ok (.aload_n 0, 1) := by decide +kernel
theorem dX12_readLine_9 : decode cX12_readLine 9 = .ok (.invokevirtual 217, 3) := by decide +kernel
theorem dX12_readLine_12 : decode cX12_readLine 12 = .ok (.goto 114, 3) := by decide +kernel
theorem dX12_readLine_15 : decode cX12_readLine 15 = .ok (.aload_n 0, 1) := by decide +kernel
theorem dX12_readLine_16 : decode cX12_readLine 16 = .ok (.iconst 3, 1) := by decide +kernel
theorem dX12_readLine_17 : decode cX12_readLine 17 = .ok (.invokevirtual 168, 3) := by decide +kernel
theorem dX12_readLine_20 : decode cX12_readLine 20 = .ok (.ifCond .eq 48, 3) := by decide +kernel
theorem dX12_readLine_23 : decode cX12_readLine 23 = .ok (.bipush 83, 2) := by decide +kernel
theorem dX12_readLine_25 : decode cX12_readLine 25 = .ok (.aload_n 0, 1) := by decide +kernel
theorem dX12_readLine_26 : decode cX12_readLine 26 = .ok (.getfield 89, 3) := by decide +kernel
theorem dX12_readLine_29 : decode cX12_readLine 29 = .ok (.bipush 61, 2) := by decide +kernel
theorem dX12_readLine_31 : decode cX12_readLine 31 = .ok (.iaload, 1) := by decide +kernel
theorem dX12_readLine_32 : decode cX12_readLine 32 = .ok (.iadd, 1) := by decide +kernel
theorem dX12_readLine_33 : decode cX12_readLine 33 = .ok (.istore_n 1, 1) := by decide +kernel
theorem dX12_readLine_34 : decode cX12_readLine 34 = .ok (.aload_n 0, 1) := by decide +kernel
theorem dX12_readLine_35 : decode cX12_readLine 35 = .ok (.iconst 1, 1) := by decide +kernel
theorem dX12_readLine_36 : decode cX12_readLine 36 = .ok (.iconst 5, 1) := by decide +kernel
theorem dX12_readLine_37 : decode cX12_readLine 37 = .ok (.bipush 20, 2) := by decide +kernel
theorem dX12_readLine_39 : decode cX12_readLine 39 = .ok (.invokevirtual 220, 3) := by decide +kernel
theorem dX12_readLine_42 : decode cX12_readLine 42 = .ok (.aload_n 0, 1) := by decide +kernel
theorem dX12_readLine_43 : decode cX12_readLine 43 = .ok (.iconst 4, 1) := by decide +kernel
theorem dX12_readLine_44 : decode cX12_readLine 44 = .ok (.iconst 0, 1) := by decide +kernel
theorem dX12_readLine_45 : decode cX12_readLine 45 = .ok (.bipush 9, 2) := by decide +kernel
theorem dX12_readLine_47 : decode cX12_readLine 47 = .ok (.invokevirtual 224, 3) := by decide +kernel
theorem dX12_readLine_50 : decode cX12_readLine 50 = .ok (.istore_n 2, 1) := by decide +kernel
theorem dX12_readLine_51 : decode cX12_readLine 51 = .ok (.aload_n 0, 1) := by decide +kernel
theorem dX12_readLine_52 : decode cX12_readLine 52 = .ok (.getfield 159, 3) := by decide +kernel
theorem dX12_readLine_55 : decode cX12_readLine 55 = .ok (.ifCond .ne 10, 3) := by decide +kernel
theorem dX12_readLine_58 : decode cX12_readLine 58 = .ok (.aload_n 0, 1) := by decide +kernel
theorem dX12_readLine_59 : decode cX12_readLine 59 = .ok (.getfield 89, 3) := by decide +kernel
theorem dX12_readLine_62 : decode cX12_readLine 62 = .ok (.iload_n 1, 1) := by decide +kernel
theorem dX12_readLine_63 : decode cX12_readLine 63 = .ok (.iload_n 2, 1) := by decide +kernel
theorem dX12_readLine_64 : decode cX12_readLine 64 = .ok (.iastore, 1) := by decide +kernel
theorem dX12_readLine_65 : decode cX12_readLine 65 = .ok (.goto 61, 3) := by decide +kernel
theorem dX12_readLine_68 : decode cX12_readLine 68 = .ok (.aload_n 0, 1) := by decide +kernel
theorem dX12_readLine_69 : decode cX12_readLine 69 = .ok (.iconst 5, 1) := by decide +kernel
theorem dX12_readLine_70 : decode cX12_readLine 70 = .ok (.invokevirtual 168, 3) := by decide +kernel
theorem dX12_readLine_73 : decode cX12_readLine 73 = .ok (.ifCond .eq 49, 3) := by decide +kernel
theorem dX12_readLine_76 : decode cX12_readLine 76 = .ok (.bipush 88, 2) := by decide +kernel
theorem dX12_readLine_78 : decode cX12_readLine 78 = .ok (.aload_n 0, 1) := by decide +kernel
theorem dX12_readLine_79 : decode cX12_readLine 79 = .ok (.getfield 89, 3) := by decide +kernel
theorem dX12_readLine_82 : decode cX12_readLine 82 = .ok (.bipush 62, 2) := by decide +kernel
theorem dX12_readLine_84 : decode cX12_readLine 84 = .ok (.iaload, 1) := by decide +kernel
theorem dX12_readLine_85 : decode cX12_readLine 85 = .ok (.iadd, 1) := by decide +kernel
theorem dX12_readLine_86 : decode cX12_readLine 86 = .ok (.istore_n 1, 1) := by decide +kernel
theorem dX12_readLine_87 : decode cX12_readLine 87 = .ok (.aload_n 0, 1) := by decide +kernel
