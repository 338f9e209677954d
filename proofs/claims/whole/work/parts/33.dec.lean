theorem dX0_init_0 : decode cX0_init 0 = .ok (.aload_n 0, 1) := by decide +kernel
theorem dX0_init_1 : decode cX0_init 1 = .ok (.invokespecial 3, 3) := by decide +kernel
theorem dX0_init_4 : decode cX0_init 4 = .ok (.aload_n 0, 1) := by decide +kernel
theorem dX0_init_5 : decode cX0_init 5 = .ok (.bipush 40, 2) := by decide +kernel
theorem dX0_init_7 : decode cX0_init 7 = .ok (.newarray .int, 2) := by decide +kernel
theorem dX0_init_9 : decode cX0_init 9 = .ok (.putfield 9, 3) := by decide +kernel
theorem dX0_init_12 : decode cX0_init 12 = .ok (.aload_n 0, 1) := by decide +kernel
theorem dX0_init_13 : decode cX0_init 13 = .ok (.iconst 0, 1) := by decide +kernel
theorem dX0_init_14 : decode cX0_init 14 = .ok (.putfield 15, 3) := by decide +kernel
theorem dX0_init_17 : decode cX0_init 17 = .ok (.aload_n 0, 1) := by decide +kernel
theorem dX0_init_18 : decode cX0_init 18 = .ok (.iconst 0, 1) := by decide +kernel
theorem dX0_init_19 : decode cX0_init 19 = .ok (.putfield 19, 3) := by decide +kernel
theorem dX0_init_22 : decode cX0_init 22 = .ok (.return_, 1) := by decide +kernel
theorem dX0_renew_0 : decode cX0_renew 0 = .ok (.aload_n 0, 1) := by decide +kernel
theorem dX0_renew_1 : decode cX0_renew 1 = .ok (.iload_n 1, 1) := by decide +kernel
theorem dX0_renew_2 : decode cX0_renew 2 = .ok (.putfield 15, 3) := by decide +kernel
theorem dX0_renew_5 : decode cX0_renew 5 = .ok (.aload_n 0, 1) := by decide +kernel
theorem dX0_renew_6 : decode cX0_renew 6 = .ok (.iload_n 2, 1) := by decide +kernel
theorem dX0_renew_7 : decode cX0_renew 7 = .ok (.putfield 19, 3) := by decide +kernel
theorem dX0_renew_10 : decode cX0_renew 10 = .ok (.iconst 0, 1) := by decide +kernel
theorem dX0_renew_11 : decode cX0_renew 11 = .ok (.istore_n 3, 1) := by decide +kernel
theorem dX0_renew_12 : decode cX0_renew 12 = .ok (.iload_n 3, 1) := by decide +kernel
theorem dX0_renew_13 : decode cX0_renew 13 = .ok (.bipush 40, 2) := by decide +kernel
theorem dX0_renew_15 : decode cX0_renew 15 = .ok (.if_icmp .ge 16, 3) := by decide +kernel
theorem dX0_renew_18 : decode cX0_renew 18 = .ok (.aload_n 0, 1) := by decide +kernel
theorem dX0_renew_19 : decode cX0_renew 19 = .ok (.getfield 9, 3) := by decide +kernel
theorem dX0_renew_22 : decode cX0_renew 22 = .ok (.iload_n 3, 1) := by decide +kernel
theorem dX0_renew_23 : decode cX0_renew 23 = .ok (.iconst 0, 1) := by decide +kernel
theorem dX0_renew_24 : decode cX0_renew 24 = .ok (.iastore, 1) := by decide +kernel
theorem dX0_renew_25 : decode cX0_renew 25 = .ok (.iinc 3 1, 3) := by decide +kernel
theorem dX0_renew_28 : decode cX0_renew 28 = .ok (.goto (-16), 3) := by decide +kernel
theorem dX0_renew_31 : decode cX0_renew 31 = .ok (.return_, 1) := by decide +kernel
theorem dX0_put_0 : decode cX0_put 0 = .ok (.aload_n 0, 1) := by decide +kernel
theorem dX0_put_1 : decode cX0_put 1 = .ok (.getfield 15, 3) := by decide +kernel
theorem dX0_put_4 : decode cX0_put 4 = .ok (.bipush 8, 2) := by decide +kernel
theorem dX0_put_6 : decode cX0_put 6 = .ok (.if_icmp .ne 14, 3) := by decide +kernel
theorem dX0_put_9 : decode cX0_put 9 = .ok (.aload_n 0, 1) := by decide +kernel
theorem dX0_put_10 : decode cX0_put 10 = .ok (.getfield 9, 3) := by decide +kernel
theorem dX0_put_13 : decode cX0_put 13 = .ok (.iload_n 1, 1) := by decide +kernel
theorem dX0_put_14 : decode cX0_put 14 = .ok (.iload_n 2, 1) := by decide +kernel
theorem dX0_put_15 : decode cX0_put 15 = .ok (.i2b, 1) := by decide +kernel
theorem dX0_put_16 : decode cX0_put 16 = .ok (.iastore, 1) := by decide +kernel
theorem dX0_put_17 : decode cX0_put 17 = .ok (.goto 30, 3) := by decide +kernel
theorem dX0_put_20 : decode cX0_put 20 = .ok (.aload_n 0, 1) := by decide +kernel
theorem dX0_put_21 : decode cX0_put 21 = .ok (.getfield 15, 3) := by decide +kernel
theorem dX0_put_24 : decode cX0_put 24 = .ok (.bipush 16, 2) := by decide +kernel
theorem dX0_put_26 : decode cX0_put 26 = .ok (.if_icmp .ne 14, 3) := by decide +kernel
theorem dX0_put_29 : decode cX0_put 29 = .ok (.aload_n 0, 1) := by decide +kernel
theorem dX0_put_30 : decode cX0_put 30 = .ok (.getfield 9, 3) := by decide +kernel
theorem dX0_put_33 : decode cX0_put 33 = .ok (.iload_n 1, 1) := by decide +kernel
theorem dX0_put_34 : decode cX0_put 34 = .ok (.iload_n 2, 1) := by decide +kernel
theorem dX0_put_35 : decode cX0_put 35 = .ok (.i2s, 1) := by decide +kernel
theorem dX0_put_36 : decode cX0_put 36 = .ok (.iastore, 1) := by decide +kernel
theorem dX0_put_37 : decode cX0_put 37 = .ok (.goto 10, 3) := by decide +kernel
theorem dX0_put_40 : decode cX0_put 40 = .ok (.aload_n 0, 1) := by decide +kernel
theorem dX0_put_41 : decode cX0_put 41 = .ok (.getfield 9, 3) := by decide +kernel
theorem dX0_put_44 : decode cX0_put 44 = .ok (.iload_n 1, 1) := by decide +kernel
theorem dX0_put_45 : decode cX0_put 45 = .ok (.iload_n 2, 1) := by decide +kernel
theorem dX0_put_46 : decode cX0_put 46 = .ok (.iastore, 1) := by decide +kernel
theorem dX0_put_47 : decode cX0_put 47 = .ok (.return_, 1) := by decide +kernel
theorem dX0_hasFrom_0 : decode cX0_hasFrom 0 = .ok (.iload_n 1, 1) := by decide +kernel
theorem dX0_hasFrom_1 : decode cX0_hasFrom 1 = .ok (.ifCond .lt 17, 3) := by decide +kernel
theorem dX0_hasFrom_4 : decode cX0_hasFrom 4 = .ok (.iload_n 1, 1) := by decide +kernel
theorem dX0_hasFrom_5 : decode cX0_hasFrom 5 = .ok (.aload_n 0, 1) := by decide +kernel
theorem dX0_hasFrom_6 : decode cX0_hasFrom 6 = .ok (.getfield 19, 3) := by decide +kernel
theorem dX0_hasFrom_9 : decode cX0_hasFrom 9 = .ok (.iload_n 2, 1) := by decide +kernel
theorem dX0_hasFrom_10 : decode cX0_hasFrom 10 = .ok (.isub, 1) := by decide +kernel
theorem dX0_hasFrom_11 : decode cX0_hasFrom 11 = .ok (.if_icmp .gt 7, 3) := by decide +kernel
theorem dX0_hasFrom_14 : decode cX0_hasFrom 14 = .ok (.iconst 1, 1) := by decide +kernel
theorem dX0_hasFrom_15 : decode cX0_hasFrom 15 = .ok (.goto 4, 3) := by decide +kernel
theorem dX0_hasFrom_18 : decode cX0_hasFrom 18 = .ok (.iconst 0, 1) := by decide +kernel
theorem dX0_hasFrom_19 : decode cX0_hasFrom 19 = .ok (.ireturn, 1) := by decide +kernel
theorem dX1_init_0 : decode cX1_init 0 = .ok (.aload_n 0, 1) := by decide +kernel
theorem dX1_init_1 : decode cX1_init 1 = .ok (.invokespecial 3, 3) := by decide +kernel
theorem dX1_init_4 : decode cX1_init 4 = .ok (.aload_n 0, 1) := by decide +kernel
theorem dX1_init_5 : decode cX1_init 5 = .ok (.bipush 24, 2) := by decide +kernel
theorem dX1_init_7 : decode cX1_init 7 = .ok (.newarray .int, 2) := by decide +kernel
theorem dX1_init_9 : decode cX1_init 9 = .ok (.putfield 9, 3) := by decide +kernel
theorem dX1_init_12 : decode cX1_init 12 = .ok (.aload_n 0, 1) := by decide +kernel
theorem dX1_init_13 : decode cX1_init 13 = .ok (.bipush 24, 2) := by decide +kernel
theorem dX1_init_15 : decode cX1_init 15 = .ok (.newarray .int, 2) := by decide +kernel
theorem dX1_init_17 : decode cX1_init 17 = .ok (.putfield 15, 3) := by decide +kernel
theorem dX1_init_20 : decode cX1_init 20 = .ok (.aload_n 0, 1) := by decide +kernel
theorem dX1_init_21 : decode cX1_init 21 = .ok (.bipush 42, 2) := by decide +kernel
theorem dX1_init_23 : decode cX1_init 23 = .ok (.newarray .int, 2) := by decide +kernel
theorem dX1_init_25 : decode cX1_init 25 = .ok (.putfield 18, 3) := by decide +kernel
theorem dX1_init_28 : decode cX1_init 28 = .ok (.aload_n 0, 1) := by decide +kernel
theorem dX1_init_29 : decode cX1_init 29 = .ok (.sipush 168, 3) := by decide +kernel
theorem dX1_init_32 : decode cX1_init 32 = .ok (.newarray .int, 2) := by decide +kernel
theorem dX1_init_34 : decode cX1_init 34 = .ok (.putfield 21, 3) := by decide +kernel
theorem dX1_init_37 : decode cX1_init 37 = .ok (.aload_n 0, 1) := by decide +kernel
theorem dX1_init_38 : decode cX1_init 38 = .ok (.iconst 3, 1) := by decide +kernel
theorem dX1_init_39 : decode cX1_init 39 = .ok (.newarray .int, 2) := by decide +kernel
theorem dX1_init_41 : decode cX1_init 41 = .ok (.putfield 24, 3) := by decide +kernel
theorem dX1_init_44 : decode cX1_init 44 = .ok (.aload_n 0, 1) := by decide +kernel
theorem dX1_init_45 : decode cX1_init 45 = .ok (.bipush 10, 2) := by decide +kernel
theorem dX1_init_47 : decode cX1_init 47 = .ok (.newarray .int, 2) := by decide +kernel
theorem dX1_init_49 : decode cX1_init 49 = .ok (.putfield 27, 3) := by decide +kernel
theorem dX1_init_52 : decode cX1_init 52 = .ok (.aload_n 0, 1) := by decide +kernel
theorem dX1_init_53 : decode cX1_init 53 = .ok (.iconst 0, 1) := by decide +kernel
theorem dX1_init_54 : decode cX1_init 54 = .ok (.putfield 30, 3) := by decide +kernel
theorem dX1_init_57 : decode cX1_init 57 = .ok (.aload_n 0, 1) := by decide +kernel
theorem dX1_init_58 : decode cX1_init 58 = .ok (.iconst 0, 1) := by decide +kernel
theorem dX1_init_59 : decode cX1_init 59 = .ok (.putfield 34, 3) := by decide +kernel
theorem dX1_init_62 : decode cX1_init 62 = .ok (.aload_n 0, 1) := by decide +kernel
theorem dX1_init_63 : decode cX1_init 63 = .ok (.iconst 0, 1) := by decide +kernel
theorem dX1_init_64 : decode cX1_init 64 = .ok (.putfield 37, 3) := by decide +kernel
theorem dX1_init_67 : decode cX1_init 67 = .ok (.aload_n 0, 1) := by decide +kernel
theorem dX1_init_68 : decode cX1_init 68 = .ok (.iconst 1, 1) := by decide +kernel
theorem dX1_init_69 : decode cX1_init 69 = .ok (.putfield 40, 3) := by decide +kernel
theorem dX1_init_72 : decode cX1_init 72 = .ok (.aload_n 0, 1) := by decide +kernel
theorem dX1_init_73 : decode cX1_init 73 = .ok (.getfield 24, 3) := by decide +kernel
theorem dX1_init_76 : decode cX1_init 76 = .ok (.iconst 0, 1) := by decide +kernel
theorem dX1_init_77 : decode cX1_init 77 = .ok (.bipush 8, 2) := by decide +kernel
theorem dX1_init_79 : decode cX1_init 79 = .ok (.iastore, 1) := by decide +kernel
theorem dX1_init_80 : decode cX1_init 80 = .ok (.aload_n 0, 1) := by decide +kernel
theorem dX1_init_81 : decode cX1_init 81 = .ok (.getfield 24, 3) := by decide +kernel
theorem dX1_init_84 : decode cX1_init 84 = .ok (.iconst 1, 1) := by decide +kernel
theorem dX1_init_85 : decode cX1_init 85 = .ok (.iconst 2, 1) := by decide +kernel
theorem dX1_init_86 : decode cX1_init 86 = .ok (.iastore, 1) := by decide +kernel
theorem dX1_init_87 : decode cX1_init 87 = .ok (.aload_n 0, 1) := by decide +kernel
theorem dX1_init_88 : decode cX1_init 88 = .ok (.getfield 24, 3) := by decide +kernel
theorem dX1_init_91 : decode cX1_init 91 = .ok (.iconst 2, 1) := by decide +kernel
theorem dX1_init_92 : decode cX1_init 92 = .ok (.iconst 1, 1) := by decide +kernel
theorem dX1_init_93 : decode cX1_init 93 = .ok (.iastore, 1) := by decide +kernel
theorem dX1_init_94 : decode cX1_init 94 = .ok (.iconst 0, 1) := by decide +kernel
theorem dX1_init_95 : decode cX1_init 95 = .ok (.istore_n 1, 1) := by decide +kernel
theorem dX1_init_96 : decode cX1_init 96 = .ok (.iload_n 1, 1) := by decide +kernel
theorem dX1_init_97 : decode cX1_init 97 = .ok (.bipush 10, 2) := by decide +kernel
theorem dX1_init_99 : decode cX1_init 99 = .ok (.if_icmp .ge 16, 3) := by decide +kernel
theorem dX1_init_102 : decode cX1_init 102 = .ok (.aload_n 0, 1) := by decide +kernel
theorem dX1_init_103 : decode cX1_init 103 = .ok (.getfield 27, 3) := by decide +kernel
theorem dX1_init_106 : decode cX1_init 106 = .ok (.iload_n 1, 1) := by decide +kernel
theorem dX1_init_107 : decode cX1_init 107 = .ok (.iconst (-1), 1) := by decide +kernel
theorem dX1_init_108 : decode cX1_init 108 = .ok (.iastore, 1) := by decide +kernel
theorem dX1_init_109 : decode cX1_init 109 = .ok (.iinc 1 1, 3) := by decide +kernel
theorem dX1_init_112 : decode cX1_init 112 = .ok (.goto (-16), 3) := by decide +kernel
theorem dX1_init_115 : decode cX1_init 115 = .ok (.return_, 1) := by decide +kernel
theorem dX1_become_0 : decode cX1_become 0 = .ok (.aload_n 1, 1) := by decide +kernel
theorem dX1_become_1 : decode cX1_become 1 = .ok (.getfield 9, 3) := by decide +kernel
theorem dX1_become_4 : decode cX1_become 4 = .ok (.iconst 0, 1) := by decide +kernel
theorem dX1_become_5 : decode cX1_become 5 = .ok (.aload_n 0, 1) := by decide +kernel
theorem dX1_become_6 : decode cX1_become 6 = .ok (.getfield 9, 3) := by decide +kernel
theorem dX1_become_9 : decode cX1_become 9 = .ok (.iconst 0, 1) := by decide +kernel
theorem dX1_become_10 : decode cX1_become 10 = .ok (.bipush 24, 2) := by decide +kernel
theorem dX1_become_12 : decode cX1_become 12 = .ok (.invokestatic 43, 3) := by decide +kernel
theorem dX1_become_15 : decode cX1_become 15 = .ok (.aload_n 1, 1) := by decide +kernel
theorem dX1_become_16 : decode cX1_become 16 = .ok (.getfield 15, 3) := by decide +kernel
theorem dX1_become_19 : decode cX1_become 19 = .ok (.iconst 0, 1) := by decide +kernel
theorem dX1_become_20 : decode cX1_become 20 = .ok (.aload_n 0, 1) := by decide +kernel
theorem dX1_become_21 : decode cX1_become 21 = .ok (.getfield 15, 3) := by decide +kernel
theorem dX1_become_24 : decode cX1_become 24 = .ok (.iconst 0, 1) := by decide +kernel
theorem dX1_become_25 : decode cX1_become 25 = .ok (.bipush 24, 2) := by decide +kernel
theorem dX1_become_27 : decode cX1_become 27 = .ok (.invokestatic 43, 3) := by decide +kernel
theorem dX1_become_30 : decode cX1_become 30 = .ok (.aload_n 1, 1) := by decide +kernel
theorem dX1_become_31 : decode cX1_become 31 = .ok (.getfield 18, 3) := by decide +kernel
theorem dX1_become_34 : decode cX1_become 34 = .ok (.iconst 0, 1) := by decide +kernel
theorem dX1_become_35 : decode cX1_become 35 = .ok (.aload_n 0, 1) := by decide +kernel
theorem dX1_become_36 : decode cX1_become 36 = .ok (.getfield 18, 3) := by decide +kernel
theorem dX1_become_39 : decode cX1_become 39 = .ok (.iconst 0, 1) := by decide +kernel
theorem dX1_become_40 : decode cX1_become 40 = .ok (.bipush 42, 2) := by decide +kernel
theorem dX1_become_42 : decode cX1_become 42 = .ok (.invokestatic 43, 3) := by decide +kernel
theorem dX1_become_45 : decode cX1_become 45 = .ok (.aload_n 1, 1) := by decide +kernel
theorem dX1_become_46 : decode cX1_become 46 = .ok (.getfield 21, 3) := by decide +kernel
theorem dX1_become_49 : decode cX1_become 49 = .ok (.iconst 0, 1) := by decide +kernel
theorem dX1_become_50 : decode cX1_become 50 = .ok (.aload_n 0, 1) := by decide +kernel
theorem dX1_become_51 : decode cX1_become 51 = .ok (.getfield 21, 3) := by decide +kernel
theorem dX1_become_54 : decode cX1_become 54 = .ok (.iconst 0, 1) := by decide +kernel
theorem dX1_become_55 : decode cX1_become 55 = .ok (.sipush 168, 3) := by decide +kernel
theorem dX1_become_58 : decode cX1_become 58 = .ok (.invokestatic 43, 3) := by decide +kernel
theorem dX1_become_61 : decode cX1_become 61 = .ok (.aload_n 1, 1) := by decide +kernel
theorem dX1_become_62 : decode cX1_become 62 = .ok (.getfield 24, 3) := by decide +kernel
theorem dX1_become_65 : decode cX1_become 65 = .ok (.iconst 0, 1) := by decide +kernel
theorem dX1_become_66 : decode cX1_become 66 = .ok (.aload_n 0, 1) := by decide +kernel
theorem dX1_become_67 : decode cX1_become 67 = .ok (.getfield 24, 3) := by decide +kernel
theorem dX1_become_70 : decode cX1_become 70 = .ok (.iconst 0, 1) := by decide +kernel
theorem dX1_become_71 : decode cX1_become 71 = .ok (.iconst 3, 1) := by decide +kernel
theorem dX1_become_72 : decode cX1_become 72 = .ok (.invokestatic 43, 3) := by decide +kernel
theorem dX1_become_75 : decode cX1_become 75 = .ok (.aload_n 1, 1) := by decide +kernel
theorem dX1_become_76 : decode cX1_become 76 = .ok (.getfield 27, 3) := by decide +kernel
theorem dX1_become_79 : decode cX1_become 79 = .ok (.iconst 0, 1) := by decide +kernel
theorem dX1_become_80 : decode cX1_become 80 = .ok (.aload_n 0, 1) := by decide +kernel
theorem dX1_become_81 : decode cX1_become 81 = .ok (.getfield 27, 3) := by decide +kernel
theorem dX1_become_84 : decode cX1_become 84 = .ok (.iconst 0, 1) := by decide +kernel
theorem dX1_become_85 : decode cX1_become 85 = .ok (.bipush 10, 2) := by decide +kernel
theorem dX1_become_87 : decode cX1_become 87 = .ok (.invokestatic 43, 3) := by decide +kernel
theorem dX1_become_90 : decode cX1_become 90 = .ok (.aload_n 0, 1) := by decide +kernel
theorem dX1_become_91 : decode cX1_become 91 = .ok (.aload_n 1, 1) := by decide +kernel
theorem dX1_become_92 : decode cX1_become 92 = .ok (.getfield 30, 3) := by decide +kernel
theorem dX1_become_95 : decode cX1_become 95 = .ok (.putfield 30, 3) := by decide +kernel
theorem dX1_become_98 : decode cX1_become 98 = .ok (.aload_n 0, 1) := by decide +kernel
theorem dX1_become_99 : decode cX1_become 99 = .ok (.aload_n 1, 1) := by decide +kernel
theorem dX1_become_100 : decode cX1_become 100 = .ok (.getfield 34, 3) := by decide +kernel
theorem dX1_become_103 : decode cX1_become 103 = .ok (.putfield 34, 3) := by decide +kernel
theorem dX1_become_106 : decode cX1_become 106 = .ok (.aload_n 0, 1) := by decide +kernel
theorem dX1_become_107 : decode cX1_become 107 = .ok (.aload_n 1, 1) := by decide +kernel
theorem dX1_become_108 : decode cX1_become 108 = .ok (.getfield 37, 3) := by decide +kernel
theorem dX1_become_111 : decode cX1_become 111 = .ok (.putfield 37, 3) := by decide +kernel
theorem dX1_become_114 : decode cX1_become 114 = .ok (.aload_n 0, 1) := by decide +kernel
theorem dX1_become_115 : decode cX1_become 115 = .ok (.aload_n 1, 1) := by decide +kernel
theorem dX1_become_116 : decode cX1_become 116 = .ok (.getfield 40, 3) := by decide +kernel
theorem dX1_become_119 : decode cX1_become 119 = .ok (.putfield 40, 3) := by decide +kernel
theorem dX1_become_122 : decode cX1_become 122 = .ok (.return_, 1) := by decide +kernel
theorem dX1_mint_0 : decode cX1_mint 0 = .ok (.aload_n 0, 1) := by decide +kernel
theorem dX1_mint_1 : decode cX1_mint 1 = .ok (.getfield 30, 3) := by decide +kernel
theorem dX1_mint_4 : decode cX1_mint 4 = .ok (.istore_n 2, 1) := by decide +kernel
theorem dX1_mint_5 : decode cX1_mint 5 = .ok (.aload_n 0, 1) := by decide +kernel
theorem dX1_mint_6 : decode cX1_mint 6 = .ok (.getfield 9, 3) := by decide +kernel
theorem dX1_mint_9 : decode cX1_mint 9 = .ok (.iload_n 2, 1) := by decide +kernel
theorem dX1_mint_10 : decode cX1_mint 10 = .ok (.iload_n 1, 1) := by decide +kernel
theorem dX1_mint_11 : decode cX1_mint 11 = .ok (.iastore, 1) := by decide +kernel
theorem dX1_mint_12 : decode cX1_mint 12 = .ok (.aload_n 0, 1) := by decide +kernel
theorem dX1_mint_13 : decode cX1_mint 13 = .ok (.getfield 15, 3) := by decide +kernel
theorem dX1_mint_16 : decode cX1_mint 16 = .ok (.iload_n 2, 1) := by decide +kernel
theorem dX1_mint_17 : decode cX1_mint 17 = .ok (.bipush 100, 2) := by decide +kernel
theorem dX1_mint_19 : decode cX1_mint 19 = .ok (.iastore, 1) := by decide +kernel
theorem dX1_mint_20 : decode cX1_mint 20 = .ok (.aload_n 0, 1) := by decide +kernel
theorem dX1_mint_21 : decode cX1_mint 21 = .ok (.dup, 1) := by decide +kernel
theorem dX1_mint_22 : decode cX1_mint 22 = .ok (.getfield 30, 3) := by decide +kernel
theorem dX1_mint_25 : decode cX1_mint 25 = .ok (.iconst 1, 1) := by decide +kernel
theorem dX1_mint_26 : decode cX1_mint 26 = .ok (.iadd, 1) := by decide +kernel
theorem dX1_mint_27 : decode cX1_mint 27 = .ok (.putfield 30, 3) := by decide +kernel
theorem dX1_mint_30 : decode cX1_mint 30 = .ok (.iload_n 2, 1) := by decide +kernel
theorem dX1_mint_31 : decode cX1_mint 31 = .ok (.ireturn, 1) := by decide +kernel
theorem dX1_hasRoom_0 : decode cX1_hasRoom 0 = .ok (.aload_n 0, 1) := by decide +kernel
theorem dX1_hasRoom_1 : decode cX1_hasRoom 1 = .ok (.getfield 18, 3) := by decide +kernel
theorem dX1_hasRoom_4 : decode cX1_hasRoom 4 = .ok (.iload_n 1, 1) := by decide +kernel
theorem dX1_hasRoom_5 : decode cX1_hasRoom 5 = .ok (.iaload, 1) := by decide +kernel
theorem dX1_hasRoom_6 : decode cX1_hasRoom 6 = .ok (.iconst 4, 1) := by decide +kernel
theorem dX1_hasRoom_7 : decode cX1_hasRoom 7 = .ok (.if_icmp .ge 7, 3) := by decide +kernel
theorem dX1_hasRoom_10 : decode cX1_hasRoom 10 = .ok (.iconst 1, 1) := by decide +kernel
theorem dX1_hasRoom_11 : decode cX1_hasRoom 11 = .ok (.goto 4, 3) := by decide +kernel
theorem dX1_hasRoom_14 : decode cX1_hasRoom 14 = .ok (.iconst 0, 1) := by decide +kernel
theorem dX1_hasRoom_15 : decode cX1_hasRoom 15 = .ok (.ireturn, 1) := by decide +kernel
theorem dX1_put_0 : decode cX1_put 0 = .ok (.aload_n 0, 1) := by decide +kernel
theorem dX1_put_1 : decode cX1_put 1 = .ok (.getfield 18, 3) := by decide +kernel
theorem dX1_put_4 : decode cX1_put 4 = .ok (.iload_n 2, 1) := by decide +kernel
theorem dX1_put_5 : decode cX1_put 5 = .ok (.iaload, 1) := by decide +kernel
theorem dX1_put_6 : decode cX1_put 6 = .ok (.iconst 4, 1) := by decide +kernel
theorem dX1_put_7 : decode cX1_put 7 = .ok (.if_icmp .ge 36, 3) := by decide +kernel
theorem dX1_put_10 : decode cX1_put 10 = .ok (.aload_n 0, 1) := by decide +kernel
theorem dX1_put_11 : decode cX1_put 11 = .ok (.getfield 21, 3) := by decide +kernel
theorem dX1_put_14 : decode cX1_put 14 = .ok (.iload_n 2, 1) := by decide +kernel
theorem dX1_put_15 : decode cX1_put 15 = .ok (.iconst 4, 1) := by decide +kernel
theorem dX1_put_16 : decode cX1_put 16 = .ok (.imul, 1) := by decide +kernel
theorem dX1_put_17 : decode cX1_put 17 = .ok (.aload_n 0, 1) := by decide +kernel
theorem dX1_put_18 : decode cX1_put 18 = .ok (.getfield 18, 3) := by decide +kernel
theorem dX1_put_21 : decode cX1_put 21 = .ok (.iload_n 2, 1) := by decide +kernel
theorem dX1_put_22 : decode cX1_put 22 = .ok (.iaload, 1) := by decide +kernel
theorem dX1_put_23 : decode cX1_put 23 = .ok (.iadd, 1) := by decide +kernel
theorem dX1_put_24 : decode cX1_put 24 = .ok (.iload_n 1, 1) := by decide +kernel
theorem dX1_put_25 : decode cX1_put 25 = .ok (.iastore, 1) := by decide +kernel
theorem dX1_put_26 : decode cX1_put 26 = .ok (.aload_n 0, 1) := by decide +kernel
theorem dX1_put_27 : decode cX1_put 27 = .ok (.getfield 18, 3) := by decide +kernel
theorem dX1_put_30 : decode cX1_put 30 = .ok (.iload_n 2, 1) := by decide +kernel
theorem dX1_put_31 : decode cX1_put 31 = .ok (.dup2, 1) := by decide +kernel
theorem dX1_put_32 : decode cX1_put 32 = .ok (.iaload, 1) := by decide +kernel
theorem dX1_put_33 : decode cX1_put 33 = .ok (.iconst 1, 1) := by decide +kernel
theorem dX1_put_34 : decode cX1_put 34 = .ok (.iadd, 1) := by decide +kernel
theorem dX1_put_35 : decode cX1_put 35 = .ok (.iastore, 1) := by decide +kernel
theorem dX1_put_36 : decode cX1_put 36 = .ok (.aload_n 0, 1) := by decide +kernel
theorem dX1_put_37 : decode cX1_put 37 = .ok (.getfield 15, 3) := by decide +kernel
theorem dX1_put_40 : decode cX1_put 40 = .ok (.iload_n 1, 1) := by decide +kernel
theorem dX1_put_41 : decode cX1_put 41 = .ok (.iload_n 2, 1) := by decide +kernel
theorem dX1_put_42 : decode cX1_put 42 = .ok (.iastore, 1) := by decide +kernel
theorem dX1_put_43 : decode cX1_put 43 = .ok (.return_, 1) := by decide +kernel
theorem dX1_pull_0 : decode cX1_pull 0 = .ok (.aload_n 0, 1) := by decide +kernel
theorem dX1_pull_1 : decode cX1_pull 1 = .ok (.getfield 18, 3) := by decide +kernel
theorem dX1_pull_4 : decode cX1_pull 4 = .ok (.iload_n 1, 1) := by decide +kernel
theorem dX1_pull_5 : decode cX1_pull 5 = .ok (.iaload, 1) := by decide +kernel
theorem dX1_pull_6 : decode cX1_pull 6 = .ok (.ifCond .ne 5, 3) := by decide +kernel
theorem dX1_pull_9 : decode cX1_pull 9 = .ok (.iconst (-1), 1) := by decide +kernel
theorem dX1_pull_10 : decode cX1_pull 10 = .ok (.ireturn, 1) := by decide +kernel
theorem dX1_pull_11 : decode cX1_pull 11 = .ok (.aload_n 0, 1) := by decide +kernel
theorem dX1_pull_12 : decode cX1_pull 12 = .ok (.getfield 18, 3) := by decide +kernel
theorem dX1_pull_15 : decode cX1_pull 15 = .ok (.iload_n 1, 1) := by decide +kernel
theorem dX1_pull_16 : decode cX1_pull 16 = .ok (.dup2, 1) := by decide +kernel
theorem dX1_pull_17 : decode cX1_pull 17 = .ok (.iaload, 1) := by decide +kernel
theorem dX1_pull_18 : decode cX1_pull 18 = .ok (.iconst 1, 1) := by decide +kernel
theorem dX1_pull_19 : decode cX1_pull 19 = .ok (.isub, 1) := by decide +kernel
theorem dX1_pull_20 : decode cX1_pull 20 = .ok (.iastore, 1) := by decide +kernel
theorem dX1_pull_21 : decode cX1_pull 21 = .ok (.aload_n 0, 1) := by decide +kernel
theorem dX1_pull_22 : decode cX1_pull 22 = .ok (.getfield 21, 3) := by decide +kernel
theorem dX1_pull_25 : decode cX1_pull 25 = .ok (.iload_n 1, 1) := by decide +kernel
theorem dX1_pull_26 : decode cX1_pull 26 = .ok (.iconst 4, 1) := by decide +kernel
theorem dX1_pull_27 : decode cX1_pull 27 = .ok (.imul, 1) := by decide +kernel
theorem dX1_pull_28 : decode cX1_pull 28 = .ok (.aload_n 0, 1) := by decide +kernel
theorem dX1_pull_29 : decode cX1_pull 29 = .ok (.getfield 18, 3) := by decide +kernel
theorem dX1_pull_32 : decode cX1_pull 32 = .ok (.iload_n 1, 1) := by decide +kernel
theorem dX1_pull_33 : decode cX1_pull 33 = .ok (.iaload, 1) := by decide +kernel
theorem dX1_pull_34 : decode cX1_pull 34 = .ok (.iadd, 1) := by decide +kernel
theorem dX1_pull_35 : decode cX1_pull 35 = .ok (.iaload, 1) := by decide +kernel
theorem dX1_pull_36 : decode cX1_pull 36 = .ok (.istore_n 2, 1) := by decide +kernel
theorem dX1_pull_37 : decode cX1_pull 37 = .ok (.aload_n 0, 1) := by decide +kernel
theorem dX1_pull_38 : decode cX1_pull 38 = .ok (.getfield 15, 3) := by decide +kernel
theorem dX1_pull_41 : decode cX1_pull 41 = .ok (.iload_n 2, 1) := by decide +kernel
theorem dX1_pull_42 : decode cX1_pull 42 = .ok (.bipush 100, 2) := by decide +kernel
theorem dX1_pull_44 : decode cX1_pull 44 = .ok (.iastore, 1) := by decide +kernel
theorem dX1_pull_45 : decode cX1_pull 45 = .ok (.iload_n 2, 1) := by decide +kernel
theorem dX1_pull_46 : decode cX1_pull 46 = .ok (.ireturn, 1) := by decide +kernel
theorem dX1_isOnShelf_0 : decode cX1_isOnShelf 0 = .ok (.aload_n 0, 1) := by decide +kernel
theorem dX1_isOnShelf_1 : decode cX1_isOnShelf 1 = .ok (.getfield 15, 3) := by decide +kernel
theorem dX1_isOnShelf_4 : decode cX1_isOnShelf 4 = .ok (.iload_n 1, 1) := by decide +kernel
theorem dX1_isOnShelf_5 : decode cX1_isOnShelf 5 = .ok (.iaload, 1) := by decide +kernel
theorem dX1_isOnShelf_6 : decode cX1_isOnShelf 6 = .ok (.bipush 42, 2) := by decide +kernel
theorem dX1_isOnShelf_8 : decode cX1_isOnShelf 8 = .ok (.if_icmp .ge 7, 3) := by decide +kernel
theorem dX1_isOnShelf_11 : decode cX1_isOnShelf 11 = .ok (.iconst 1, 1) := by decide +kernel
theorem dX1_isOnShelf_12 : decode cX1_isOnShelf 12 = .ok (.goto 4, 3) := by decide +kernel
theorem dX1_isOnShelf_15 : decode cX1_isOnShelf 15 = .ok (.iconst 0, 1) := by decide +kernel
theorem dX1_isOnShelf_16 : decode cX1_isOnShelf 16 = .ok (.ireturn, 1) := by decide +kernel
theorem dX1_toldPlace_0 : decode cX1_toldPlace 0 = .ok (.aload_n 0, 1) := by decide +kernel
theorem dX1_toldPlace_1 : decode cX1_toldPlace 1 = .ok (.getfield 15, 3) := by decide +kernel
theorem dX1_toldPlace_4 : decode cX1_toldPlace 4 = .ok (.iload_n 1, 1) := by decide +kernel
theorem dX1_toldPlace_5 : decode cX1_toldPlace 5 = .ok (.iaload, 1) := by decide +kernel
theorem dX1_toldPlace_6 : decode cX1_toldPlace 6 = .ok (.istore_n 2, 1) := by decide +kernel
theorem dX1_toldPlace_7 : decode cX1_toldPlace 7 = .ok (.aload_n 0, 1) := by decide +kernel
theorem dX1_toldPlace_8 : decode cX1_toldPlace 8 = .ok (.iload_n 1, 1) := by decide +kernel
theorem dX1_toldPlace_9 : decode cX1_toldPlace 9 = .ok (.invokevirtual 49, 3) := by decide +kernel
theorem dX1_toldPlace_12 : decode cX1_toldPlace 12 = .ok (.ifCond .eq 18, 3) := by decide +kernel
theorem dX1_toldPlace_15 : decode cX1_toldPlace 15 = .ok (.bipush 10, 2) := by decide +kernel
theorem dX1_toldPlace_17 : decode cX1_toldPlace 17 = .ok (.iload_n 2, 1) := by decide +kernel
theorem dX1_toldPlace_18 : decode cX1_toldPlace 18 = .ok (.bipush 6, 2) := by decide +kernel
theorem dX1_toldPlace_20 : decode cX1_toldPlace 20 = .ok (.idiv, 1) := by decide +kernel
theorem dX1_toldPlace_21 : decode cX1_toldPlace 21 = .ok (.imul, 1) := by decide +kernel
theorem dX1_toldPlace_22 : decode cX1_toldPlace 22 = .ok (.iload_n 2, 1) := by decide +kernel
theorem dX1_toldPlace_23 : decode cX1_toldPlace 23 = .ok (.bipush 6, 2) := by decide +kernel
theorem dX1_toldPlace_25 : decode cX1_toldPlace 25 = .ok (.irem, 1) := by decide +kernel
theorem dX1_toldPlace_26 : decode cX1_toldPlace 26 = .ok (.iadd, 1) := by decide +kernel
theorem dX1_toldPlace_27 : decode cX1_toldPlace 27 = .ok (.goto 4, 3) := by decide +kernel
theorem dX1_toldPlace_30 : decode cX1_toldPlace 30 = .ok (.iload_n 2, 1) := by decide +kernel
theorem dX1_toldPlace_31 : decode cX1_toldPlace 31 = .ok (.ireturn, 1) := by decide +kernel
theorem dX1_depthOf_0 : decode cX1_depthOf 0 = .ok (.aload_n 0, 1) := by decide +kernel
theorem dX1_depthOf_1 : decode cX1_depthOf 1 = .ok (.iload_n 1, 1) := by decide +kernel
theorem dX1_depthOf_2 : decode cX1_depthOf 2 = .ok (.invokevirtual 49, 3) := by decide +kernel
theorem dX1_depthOf_5 : decode cX1_depthOf 5 = .ok (.ifCond .ne 5, 3) := by decide +kernel
theorem dX1_depthOf_8 : decode cX1_depthOf 8 = .ok (.iconst 0, 1) := by decide +kernel
theorem dX1_depthOf_9 : decode cX1_depthOf 9 = .ok (.ireturn, 1) := by decide +kernel
theorem dX1_depthOf_10 : decode cX1_depthOf 10 = .ok (.aload_n 0, 1) := by decide +kernel
theorem dX1_depthOf_11 : decode cX1_depthOf 11 = .ok (.getfield 15, 3) := by decide +kernel
theorem dX1_depthOf_14 : decode cX1_depthOf 14 = .ok (.iload_n 1, 1) := by decide +kernel
theorem dX1_depthOf_15 : decode cX1_depthOf 15 = .ok (.iaload, 1) := by decide +kernel
theorem dX1_depthOf_16 : decode cX1_depthOf 16 = .ok (.iconst 4, 1) := by decide +kernel
theorem dX1_depthOf_17 : decode cX1_depthOf 17 = .ok (.imul, 1) := by decide +kernel
theorem dX1_depthOf_18 : decode cX1_depthOf 18 = .ok (.istore_n 2, 1) := by decide +kernel
theorem dX1_depthOf_19 : decode cX1_depthOf 19 = .ok (.iconst 0, 1) := by decide +kernel
theorem dX1_depthOf_20 : decode cX1_depthOf 20 = .ok (.istore_n 3, 1) := by decide +kernel
theorem dX1_depthOf_21 : decode cX1_depthOf 21 = .ok (.iload_n 3, 1) := by decide +kernel
theorem dX1_depthOf_22 : decode cX1_depthOf 22 = .ok (.iconst 3, 1) := by decide +kernel
theorem dX1_depthOf_23 : decode cX1_depthOf 23 = .ok (.if_icmp .ge 21, 3) := by decide +kernel
theorem dX1_depthOf_26 : decode cX1_depthOf 26 = .ok (.aload_n 0, 1) := by decide +kernel
theorem dX1_depthOf_27 : decode cX1_depthOf 27 = .ok (.getfield 21, 3) := by decide +kernel
theorem dX1_depthOf_30 : decode cX1_depthOf 30 = .ok (.iload_n 2, 1) := by decide +kernel
theorem dX1_depthOf_31 : decode cX1_depthOf 31 = .ok (.iload_n 3, 1) := by decide +kernel
theorem dX1_depthOf_32 : decode cX1_depthOf 32 = .ok (.iadd, 1) := by decide +kernel
theorem dX1_depthOf_33 : decode cX1_depthOf 33 = .ok (.iaload, 1) := by decide +kernel
theorem dX1_depthOf_34 : decode cX1_depthOf 34 = .ok (.iload_n 1, 1) := by decide +kernel
theorem dX1_depthOf_35 : decode cX1_depthOf 35 = .ok (.if_icmp .eq 9, 3) := by decide +kernel
theorem dX1_depthOf_38 : decode cX1_depthOf 38 = .ok (.iinc 3 1, 3) := by decide +kernel
theorem dX1_depthOf_41 : decode cX1_depthOf 41 = .ok (.goto (-20), 3) := by decide +kernel
theorem dX1_depthOf_44 : decode cX1_depthOf 44 = .ok (.iload_n 3, 1) := by decide +kernel
theorem dX1_depthOf_45 : decode cX1_depthOf 45 = .ok (.ireturn, 1) := by decide +kernel
theorem dX1_bitsAt_0 : decode cX1_bitsAt 0 = .ok (.iconst 0, 1) := by decide +kernel
theorem dX1_bitsAt_1 : decode cX1_bitsAt 1 = .ok (.istore_n 2, 1) := by decide +kernel
theorem dX1_bitsAt_2 : decode cX1_bitsAt 2 = .ok (.iconst 0, 1) := by decide +kernel
theorem dX1_bitsAt_3 : decode cX1_bitsAt 3 = .ok (.istore_n 3, 1) := by decide +kernel
theorem dX1_bitsAt_4 : decode cX1_bitsAt 4 = .ok (.iload_n 3, 1) := by decide +kernel
theorem dX1_bitsAt_5 : decode cX1_bitsAt 5 = .ok (.aload_n 0, 1) := by decide +kernel
theorem dX1_bitsAt_6 : decode cX1_bitsAt 6 = .ok (.getfield 30, 3) := by decide +kernel
theorem dX1_bitsAt_9 : decode cX1_bitsAt 9 = .ok (.if_icmp .ge 25, 3) := by decide +kernel
theorem dX1_bitsAt_12 : decode cX1_bitsAt 12 = .ok (.aload_n 0, 1) := by decide +kernel
theorem dX1_bitsAt_13 : decode cX1_bitsAt 13 = .ok (.getfield 15, 3) := by decide +kernel
theorem dX1_bitsAt_16 : decode cX1_bitsAt 16 = .ok (.iload_n 3, 1) := by decide +kernel
theorem dX1_bitsAt_17 : decode cX1_bitsAt 17 = .ok (.iaload, 1) := by decide +kernel
theorem dX1_bitsAt_18 : decode cX1_bitsAt 18 = .ok (.iload_n 1, 1) := by decide +kernel
theorem dX1_bitsAt_19 : decode cX1_bitsAt 19 = .ok (.if_icmp .ne 9, 3) := by decide +kernel
theorem dX1_bitsAt_22 : decode cX1_bitsAt 22 = .ok (.iload_n 2, 1) := by decide +kernel
theorem dX1_bitsAt_23 : decode cX1_bitsAt 23 = .ok (.iconst 1, 1) := by decide +kernel
theorem dX1_bitsAt_24 : decode cX1_bitsAt 24 = .ok (.iload_n 3, 1) := by decide +kernel
theorem dX1_bitsAt_25 : decode cX1_bitsAt 25 = .ok (.ishl, 1) := by decide +kernel
theorem dX1_bitsAt_26 : decode cX1_bitsAt 26 = .ok (.ior, 1) := by decide +kernel
theorem dX1_bitsAt_27 : decode cX1_bitsAt 27 = .ok (.istore_n 2, 1) := by decide +kernel
theorem dX1_bitsAt_28 : decode cX1_bitsAt 28 = .ok (.iinc 3 1, 3) := by decide +kernel
theorem dX1_bitsAt_31 : decode cX1_bitsAt 31 = .ok (.goto (-27), 3) := by decide +kernel
theorem dX1_bitsAt_34 : decode cX1_bitsAt 34 = .ok (.iload_n 2, 1) := by decide +kernel
theorem dX1_bitsAt_35 : decode cX1_bitsAt 35 = .ok (.ireturn, 1) := by decide +kernel
theorem dX1_bitsOnShelf_0 : decode cX1_bitsOnShelf 0 = .ok (.iconst 0, 1) := by decide +kernel
theorem dX1_bitsOnShelf_1 : decode cX1_bitsOnShelf 1 = .ok (.istore_n 1, 1) := by decide +kernel
theorem dX1_bitsOnShelf_2 : decode cX1_bitsOnShelf 2 = .ok (.iconst 0, 1) := by decide +kernel
theorem dX1_bitsOnShelf_3 : decode cX1_bitsOnShelf 3 = .ok (.istore_n 2, 1) := by decide +kernel
theorem dX1_bitsOnShelf_4 : decode cX1_bitsOnShelf 4 = .ok (.iload_n 2, 1) := by decide +kernel
theorem dX1_bitsOnShelf_5 : decode cX1_bitsOnShelf 5 = .ok (.aload_n 0, 1) := by decide +kernel
theorem dX1_bitsOnShelf_6 : decode cX1_bitsOnShelf 6 = .ok (.getfield 30, 3) := by decide +kernel
theorem dX1_bitsOnShelf_9 : decode cX1_bitsOnShelf 9 = .ok (.if_icmp .ge 23, 3) := by decide +kernel
theorem dX1_bitsOnShelf_12 : decode cX1_bitsOnShelf 12 = .ok (.aload_n 0, 1) := by decide +kernel
theorem dX1_bitsOnShelf_13 : decode cX1_bitsOnShelf 13 = .ok (.iload_n 2, 1) := by decide +kernel
theorem dX1_bitsOnShelf_14 : decode cX1_bitsOnShelf 14 = .ok (.invokevirtual 49, 3) := by decide +kernel
theorem dX1_bitsOnShelf_17 : decode cX1_bitsOnShelf 17 = .ok (.ifCond .eq 9, 3) := by decide +kernel
theorem dX1_bitsOnShelf_20 : decode cX1_bitsOnShelf 20 = .ok (.iload_n 1, 1) := by decide +kernel
theorem dX1_bitsOnShelf_21 : decode cX1_bitsOnShelf 21 = .ok (.iconst 1, 1) := by decide +kernel
theorem dX1_bitsOnShelf_22 : decode cX1_bitsOnShelf 22 = .ok (.iload_n 2, 1) := by decide +kernel
theorem dX1_bitsOnShelf_23 : decode cX1_bitsOnShelf 23 = .ok (.ishl, 1) := by decide +kernel
theorem dX1_bitsOnShelf_24 : decode cX1_bitsOnShelf 24 = .ok (.ior, 1) := by decide +kernel
theorem dX1_bitsOnShelf_25 : decode cX1_bitsOnShelf 25 = .ok (.istore_n 1, 1) := by decide +kernel
theorem dX1_bitsOnShelf_26 : decode cX1_bitsOnShelf 26 = .ok (.iinc 2 1, 3) := by decide +kernel
theorem dX1_bitsOnShelf_29 : decode cX1_bitsOnShelf 29 = .ok (.goto (-25), 3) := by decide +kernel
theorem dX1_bitsOnShelf_32 : decode cX1_bitsOnShelf 32 = .ok (.iload_n 1, 1) := by decide +kernel
theorem dX1_bitsOnShelf_33 : decode cX1_bitsOnShelf 33 = .ok (.ireturn, 1) := by decide +kernel
theorem dX1_worthAt_0 : decode cX1_worthAt 0 = .ok (.aload_n 0, 1) := by decide +kernel
theorem dX1_worthAt_1 : decode cX1_worthAt 1 = .ok (.aload_n 0, 1) := by decide +kernel
theorem dX1_worthAt_2 : decode cX1_worthAt 2 = .ok (.iload_n 1, 1) := by decide +kernel
theorem dX1_worthAt_3 : decode cX1_worthAt 3 = .ok (.invokevirtual 53, 3) := by decide +kernel
theorem dX1_worthAt_6 : decode cX1_worthAt 6 = .ok (.invokevirtual 57, 3) := by decide +kernel
theorem dX1_worthAt_9 : decode cX1_worthAt 9 = .ok (.ireturn, 1) := by decide +kernel
theorem dX1_worthOf_0 : decode cX1_worthOf 0 = .ok (.iconst 0, 1) := by decide +kernel
theorem dX1_worthOf_1 : decode cX1_worthOf 1 = .ok (.istore_n 2, 1) := by decide +kernel
theorem dX1_worthOf_2 : decode cX1_worthOf 2 = .ok (.iconst 0, 1) := by decide +kernel
theorem dX1_worthOf_3 : decode cX1_worthOf 3 = .ok (.istore_n 3, 1) := by decide +kernel
theorem dX1_worthOf_4 : decode cX1_worthOf 4 = .ok (.iload_n 3, 1) := by decide +kernel
theorem dX1_worthOf_5 : decode cX1_worthOf 5 = .ok (.aload_n 0, 1) := by decide +kernel
theorem dX1_worthOf_6 : decode cX1_worthOf 6 = .ok (.getfield 30, 3) := by decide +kernel
theorem dX1_worthOf_9 : decode cX1_worthOf 9 = .ok (.if_icmp .ge 31, 3) := by decide +kernel
theorem dX1_worthOf_12 : decode cX1_worthOf 12 = .ok (.iload_n 1, 1) := by decide +kernel
theorem dX1_worthOf_13 : decode cX1_worthOf 13 = .ok (.iload_n 3, 1) := by decide +kernel
theorem dX1_worthOf_14 : decode cX1_worthOf 14 = .ok (.iushr, 1) := by decide +kernel
theorem dX1_worthOf_15 : decode cX1_worthOf 15 = .ok (.iconst 1, 1) := by decide +kernel
theorem dX1_worthOf_16 : decode cX1_worthOf 16 = .ok (.iand, 1) := by decide +kernel
theorem dX1_worthOf_17 : decode cX1_worthOf 17 = .ok (.iconst 1, 1) := by decide +kernel
theorem dX1_worthOf_18 : decode cX1_worthOf 18 = .ok (.if_icmp .ne 16, 3) := by decide +kernel
theorem dX1_worthOf_21 : decode cX1_worthOf 21 = .ok (.iload_n 2, 1) := by decide +kernel
theorem dX1_worthOf_22 : decode cX1_worthOf 22 = .ok (.getstatic 60, 3) := by decide +kernel
theorem dX1_worthOf_25 : decode cX1_worthOf 25 = .ok (.aload_n 0, 1) := by decide +kernel
theorem dX1_worthOf_26 : decode cX1_worthOf 26 = .ok (.getfield 9, 3) := by decide +kernel
theorem dX1_worthOf_29 : decode cX1_worthOf 29 = .ok (.iload_n 3, 1) := by decide +kernel
theorem dX1_worthOf_30 : decode cX1_worthOf 30 = .ok (.iaload, 1) := by decide +kernel
theorem dX1_worthOf_31 : decode cX1_worthOf 31 = .ok (.iaload, 1) := by decide +kernel
theorem dX1_worthOf_32 : decode cX1_worthOf 32 = .ok (.iadd, 1) := by decide +kernel
theorem dX1_worthOf_33 : decode cX1_worthOf 33 = .ok (.istore_n 2, 1) := by decide +kernel
theorem dX1_worthOf_34 : decode cX1_worthOf 34 = .ok (.iinc 3 1, 3) := by decide +kernel
theorem dX1_worthOf_37 : decode cX1_worthOf 37 = .ok (.goto (-33), 3) := by decide +kernel
theorem dX1_worthOf_40 : decode cX1_worthOf 40 = .ok (.iload_n 2, 1) := by decide +kernel
theorem dX1_worthOf_41 : decode cX1_worthOf 41 = .ok (.ireturn, 1) := by decide +kernel
theorem dX1_goneOver_0 : decode cX1_goneOver 0 = .ok (.aload_n 0, 1) := by decide +kernel
theorem dX1_goneOver_1 : decode cX1_goneOver 1 = .ok (.bipush 101, 2) := by decide +kernel
theorem dX1_goneOver_3 : decode cX1_goneOver 3 = .ok (.invokevirtual 53, 3) := by decide +kernel
theorem dX1_goneOver_6 : decode cX1_goneOver 6 = .ok (.aload_n 0, 1) := by decide +kernel
theorem dX1_goneOver_7 : decode cX1_goneOver 7 = .ok (.bipush 102, 2) := by decide +kernel
theorem dX1_goneOver_9 : decode cX1_goneOver 9 = .ok (.invokevirtual 53, 3) := by decide +kernel
theorem dX1_goneOver_12 : decode cX1_goneOver 12 = .ok (.ior, 1) := by decide +kernel
theorem dX1_goneOver_13 : decode cX1_goneOver 13 = .ok (.invokestatic 63, 3) := by decide +kernel
theorem dX1_goneOver_16 : decode cX1_goneOver 16 = .ok (.ireturn, 1) := by decide +kernel
theorem dX1_leastInHand_0 : decode cX1_leastInHand 0 = .ok (.iconst 0, 1) := by decide +kernel
theorem dX1_leastInHand_1 : decode cX1_leastInHand 1 = .ok (.istore_n 1, 1) := by decide +kernel
theorem dX1_leastInHand_2 : decode cX1_leastInHand 2 = .ok (.iload_n 1, 1) := by decide +kernel
theorem dX1_leastInHand_3 : decode cX1_leastInHand 3 = .ok (.aload_n 0, 1) := by decide +kernel
theorem dX1_leastInHand_4 : decode cX1_leastInHand 4 = .ok (.getfield 30, 3) := by decide +kernel
theorem dX1_leastInHand_7 : decode cX1_leastInHand 7 = .ok (.if_icmp .ge 22, 3) := by decide +kernel
theorem dX1_leastInHand_10 : decode cX1_leastInHand 10 = .ok (.aload_n 0, 1) := by decide +kernel
theorem dX1_leastInHand_11 : decode cX1_leastInHand 11 = .ok (.getfield 15, 3) := by decide +kernel
theorem dX1_leastInHand_14 : decode cX1_leastInHand 14 = .ok (.iload_n 1, 1) := by decide +kernel
theorem dX1_leastInHand_15 : decode cX1_leastInHand 15 = .ok (.iaload, 1) := by decide +kernel
theorem dX1_leastInHand_16 : decode cX1_leastInHand 16 = .ok (.bipush 100, 2) := by decide +kernel
theorem dX1_leastInHand_18 : decode cX1_leastInHand 18 = .ok (.if_icmp .ne 5, 3) := by decide +kernel
theorem dX1_leastInHand_21 : decode cX1_leastInHand 21 = .ok (.iload_n 1, 1) := by decide +kernel
theorem dX1_leastInHand_22 : decode cX1_leastInHand 22 = .ok (.ireturn, 1) := by decide +kernel
theorem dX1_leastInHand_23 : decode cX1_leastInHand 23 = .ok (.iinc 1 1, 3) := by decide +kernel
theorem dX1_leastInHand_26 : decode cX1_leastInHand 26 = .ok (.goto (-24), 3) := by decide +kernel
theorem dX1_leastInHand_29 : decode cX1_leastInHand 29 = .ok (.iconst (-1), 1) := by decide +kernel
theorem dX1_leastInHand_30 : decode cX1_leastInHand 30 = .ok (.ireturn, 1) := by decide +kernel
theorem dX1_gain_0 : decode cX1_gain 0 = .ok (.aload_n 0, 1) := by decide +kernel
theorem dX1_gain_1 : decode cX1_gain 1 = .ok (.bipush 101, 2) := by decide +kernel
theorem dX1_gain_3 : decode cX1_gain 3 = .ok (.invokevirtual 68, 3) := by decide +kernel
theorem dX1_gain_6 : decode cX1_gain 6 = .ok (.aload_n 0, 1) := by decide +kernel
theorem dX1_gain_7 : decode cX1_gain 7 = .ok (.getfield 37, 3) := by decide +kernel
theorem dX1_gain_10 : decode cX1_gain 10 = .ok (.isub, 1) := by decide +kernel
theorem dX1_gain_11 : decode cX1_gain 11 = .ok (.ireturn, 1) := by decide +kernel
theorem dX1_manyStacks_0 : decode cX1_manyStacks 0 = .ok (.iconst 0, 1) := by decide +kernel
theorem dX1_manyStacks_1 : decode cX1_manyStacks 1 = .ok (.istore_n 1, 1) := by decide +kernel
theorem dX1_manyStacks_2 : decode cX1_manyStacks 2 = .ok (.iconst 0, 1) := by decide +kernel
theorem dX1_manyStacks_3 : decode cX1_manyStacks 3 = .ok (.istore_n 2, 1) := by decide +kernel
theorem dX1_manyStacks_4 : decode cX1_manyStacks 4 = .ok (.iload_n 2, 1) := by decide +kernel
theorem dX1_manyStacks_5 : decode cX1_manyStacks 5 = .ok (.bipush 42, 2) := by decide +kernel
theorem dX1_manyStacks_7 : decode cX1_manyStacks 7 = .ok (.if_icmp .ge 21, 3) := by decide +kernel
theorem dX1_manyStacks_10 : decode cX1_manyStacks 10 = .ok (.aload_n 0, 1) := by decide +kernel
theorem dX1_manyStacks_11 : decode cX1_manyStacks 11 = .ok (.getfield 18, 3) := by decide +kernel
theorem dX1_manyStacks_14 : decode cX1_manyStacks 14 = .ok (.iload_n 2, 1) := by decide +kernel
theorem dX1_manyStacks_15 : decode cX1_manyStacks 15 = .ok (.iaload, 1) := by decide +kernel
theorem dX1_manyStacks_16 : decode cX1_manyStacks 16 = .ok (.ifCond .le 6, 3) := by decide +kernel
theorem dX1_manyStacks_19 : decode cX1_manyStacks 19 = .ok (.iinc 1 1, 3) := by decide +kernel
theorem dX1_manyStacks_22 : decode cX1_manyStacks 22 = .ok (.iinc 2 1, 3) := by decide +kernel
theorem dX1_manyStacks_25 : decode cX1_manyStacks 25 = .ok (.goto (-21), 3) := by decide +kernel
theorem dX1_manyStacks_28 : decode cX1_manyStacks 28 = .ok (.iload_n 1, 1) := by decide +kernel
theorem dX1_manyStacks_29 : decode cX1_manyStacks 29 = .ok (.ireturn, 1) := by decide +kernel
theorem dX1_highest_0 : decode cX1_highest 0 = .ok (.iconst 0, 1) := by decide +kernel
theorem dX1_highest_1 : decode cX1_highest 1 = .ok (.istore_n 1, 1) := by decide +kernel
theorem dX1_highest_2 : decode cX1_highest 2 = .ok (.iconst 0, 1) := by decide +kernel
theorem dX1_highest_3 : decode cX1_highest 3 = .ok (.istore_n 2, 1) := by decide +kernel
theorem dX1_highest_4 : decode cX1_highest 4 = .ok (.iload_n 2, 1) := by decide +kernel
theorem dX1_highest_5 : decode cX1_highest 5 = .ok (.bipush 42, 2) := by decide +kernel
theorem dX1_highest_7 : decode cX1_highest 7 = .ok (.if_icmp .ge 20, 3) := by decide +kernel
theorem dX1_highest_10 : decode cX1_highest 10 = .ok (.iload_n 1, 1) := by decide +kernel
theorem dX1_highest_11 : decode cX1_highest 11 = .ok (.aload_n 0, 1) := by decide +kernel
theorem dX1_highest_12 : decode cX1_highest 12 = .ok (.getfield 18, 3) := by decide +kernel
theorem dX1_highest_15 : decode cX1_highest 15 = .ok (.iload_n 2, 1) := by decide +kernel
theorem dX1_highest_16 : decode cX1_highest 16 = .ok (.iaload, 1) := by decide +kernel
theorem dX1_highest_17 : decode cX1_highest 17 = .ok (.invokestatic 71, 3) := by decide +kernel
theorem dX1_highest_20 : decode cX1_highest 20 = .ok (.istore_n 1, 1) := by decide +kernel
theorem dX1_highest_21 : decode cX1_highest 21 = .ok (.iinc 2 1, 3) := by decide +kernel
theorem dX1_highest_24 : decode cX1_highest 24 = .ok (.goto (-20), 3) := by decide +kernel
theorem dX1_highest_27 : decode cX1_highest 27 = .ok (.iload_n 1, 1) := by decide +kernel
theorem dX1_highest_28 : decode cX1_highest 28 = .ok (.ireturn, 1) := by decide +kernel
theorem dX1_manySpotsHeld_0 : decode cX1_manySpotsHeld 0 = .ok (.iconst 0, 1) := by decide +kernel
theorem dX1_manySpotsHeld_1 : decode cX1_manySpotsHeld 1 = .ok (.istore_n 1, 1) := by decide +kernel
theorem dX1_manySpotsHeld_2 : decode cX1_manySpotsHeld 2 = .ok (.iconst 0, 1) := by decide +kernel
theorem dX1_manySpotsHeld_3 : decode cX1_manySpotsHeld 3 = .ok (.istore_n 2, 1) := by decide +kernel
theorem dX1_manySpotsHeld_4 : decode cX1_manySpotsHeld 4 = .ok (.iload_n 2, 1) := by decide +kernel
theorem dX1_manySpotsHeld_5 : decode cX1_manySpotsHeld 5 = .ok (.bipush 10, 2) := by decide +kernel
theorem dX1_manySpotsHeld_7 : decode cX1_manySpotsHeld 7 = .ok (.if_icmp .ge 21, 3) := by decide +kernel
theorem dX1_manySpotsHeld_10 : decode cX1_manySpotsHeld 10 = .ok (.aload_n 0, 1) := by decide +kernel
theorem dX1_manySpotsHeld_11 : decode cX1_manySpotsHeld 11 = .ok (.getfield 27, 3) := by decide +kernel
theorem dX1_manySpotsHeld_14 : decode cX1_manySpotsHeld 14 = .ok (.iload_n 2, 1) := by decide +kernel
theorem dX1_manySpotsHeld_15 : decode cX1_manySpotsHeld 15 = .ok (.iaload, 1) := by decide +kernel
theorem dX1_manySpotsHeld_16 : decode cX1_manySpotsHeld 16 = .ok (.ifCond .lt 6, 3) := by decide +kernel
theorem dX1_manySpotsHeld_19 : decode cX1_manySpotsHeld 19 = .ok (.iinc 1 1, 3) := by decide +kernel
theorem dX1_manySpotsHeld_22 : decode cX1_manySpotsHeld 22 = .ok (.iinc 2 1, 3) := by decide +kernel
theorem dX1_manySpotsHeld_25 : decode cX1_manySpotsHeld 25 = .ok (.goto (-21), 3) := by decide +kernel
theorem dX1_manySpotsHeld_28 : decode cX1_manySpotsHeld 28 = .ok (.iload_n 1, 1) := by decide +kernel
theorem dX1_manySpotsHeld_29 : decode cX1_manySpotsHeld 29 = .ok (.ireturn, 1) := by decide +kernel
theorem dX1_runRows_0 : decode cX1_runRows 0 = .ok (.iconst 0, 1) := by decide +kernel
theorem dX1_runRows_1 : decode cX1_runRows 1 = .ok (.istore_n 2, 1) := by decide +kernel
theorem dX1_runRows_2 : decode cX1_runRows 2 = .ok (.iload_n 2, 1) := by decide +kernel
theorem dX1_runRows_3 : decode cX1_runRows 3 = .ok (.bipush 6, 2) := by decide +kernel
theorem dX1_runRows_5 : decode cX1_runRows 5 = .ok (.if_icmp .ge 23, 3) := by decide +kernel
theorem dX1_runRows_8 : decode cX1_runRows 8 = .ok (.aload_n 0, 1) := by decide +kernel
theorem dX1_runRows_9 : decode cX1_runRows 9 = .ok (.getfield 18, 3) := by decide +kernel
theorem dX1_runRows_12 : decode cX1_runRows 12 = .ok (.iload_n 1, 1) := by decide +kernel
theorem dX1_runRows_13 : decode cX1_runRows 13 = .ok (.bipush 6, 2) := by decide +kernel
theorem dX1_runRows_15 : decode cX1_runRows 15 = .ok (.imul, 1) := by decide +kernel
theorem dX1_runRows_16 : decode cX1_runRows 16 = .ok (.iload_n 2, 1) := by decide +kernel
theorem dX1_runRows_17 : decode cX1_runRows 17 = .ok (.iadd, 1) := by decide +kernel
theorem dX1_runRows_18 : decode cX1_runRows 18 = .ok (.iaload, 1) := by decide +kernel
theorem dX1_runRows_19 : decode cX1_runRows 19 = .ok (.ifCond .le 9, 3) := by decide +kernel
theorem dX1_runRows_22 : decode cX1_runRows 22 = .ok (.iinc 2 1, 3) := by decide +kernel
theorem dX1_runRows_25 : decode cX1_runRows 25 = .ok (.goto (-23), 3) := by decide +kernel
theorem dX1_runRows_28 : decode cX1_runRows 28 = .ok (.iload_n 2, 1) := by decide +kernel
theorem dX1_runRows_29 : decode cX1_runRows 29 = .ok (.ireturn, 1) := by decide +kernel
theorem dX1_runWeight_0 : decode cX1_runWeight 0 = .ok (.iconst 0, 1) := by decide +kernel
theorem dX1_runWeight_1 : decode cX1_runWeight 1 = .ok (.istore_n 2, 1) := by decide +kernel
theorem dX1_runWeight_2 : decode cX1_runWeight 2 = .ok (.iconst 0, 1) := by decide +kernel
theorem dX1_runWeight_3 : decode cX1_runWeight 3 = .ok (.istore_n 3, 1) := by decide +kernel
theorem dX1_runWeight_4 : decode cX1_runWeight 4 = .ok (.iload_n 3, 1) := by decide +kernel
theorem dX1_runWeight_5 : decode cX1_runWeight 5 = .ok (.bipush 6, 2) := by decide +kernel
theorem dX1_runWeight_7 : decode cX1_runWeight 7 = .ok (.if_icmp .ge 75, 3) := by decide +kernel
theorem dX1_runWeight_10 : decode cX1_runWeight 10 = .ok (.iload_n 1, 1) := by decide +kernel
theorem dX1_runWeight_11 : decode cX1_runWeight 11 = .ok (.bipush 6, 2) := by decide +kernel
theorem dX1_runWeight_13 : decode cX1_runWeight 13 = .ok (.imul, 1) := by decide +kernel
theorem dX1_runWeight_14 : decode cX1_runWeight 14 = .ok (.iload_n 3, 1) := by decide +kernel
theorem dX1_runWeight_15 : decode cX1_runWeight 15 = .ok (.iadd, 1) := by decide +kernel
theorem dX1_runWeight_16 : decode cX1_runWeight 16 = .ok (.istore 4, 2) := by decide +kernel
theorem dX1_runWeight_18 : decode cX1_runWeight 18 = .ok (.aload_n 0, 1) := by decide +kernel
theorem dX1_runWeight_19 : decode cX1_runWeight 19 = .ok (.getfield 18, 3) := by decide +kernel
theorem dX1_runWeight_22 : decode cX1_runWeight 22 = .ok (.iload 4, 2) := by decide +kernel
theorem dX1_runWeight_24 : decode cX1_runWeight 24 = .ok (.iaload, 1) := by decide +kernel
theorem dX1_runWeight_25 : decode cX1_runWeight 25 = .ok (.ifCond .ne 6, 3) := by decide +kernel
theorem dX1_runWeight_28 : decode cX1_runWeight 28 = .ok (.goto 54, 3) := by decide +kernel
theorem dX1_runWeight_31 : decode cX1_runWeight 31 = .ok (.iconst 0, 1) := by decide +kernel
theorem dX1_runWeight_32 : decode cX1_runWeight 32 = .ok (.istore 5, 2) := by decide +kernel
theorem dX1_runWeight_34 : decode cX1_runWeight 34 = .ok (.iload 5, 2) := by decide +kernel
theorem dX1_runWeight_36 : decode cX1_runWeight 36 = .ok (.aload_n 0, 1) := by decide +kernel
theorem dX1_runWeight_37 : decode cX1_runWeight 37 = .ok (.getfield 18, 3) := by decide +kernel
theorem dX1_runWeight_40 : decode cX1_runWeight 40 = .ok (.iload 4, 2) := by decide +kernel
theorem dX1_runWeight_42 : decode cX1_runWeight 42 = .ok (.iaload, 1) := by decide +kernel
theorem dX1_runWeight_43 : decode cX1_runWeight 43 = .ok (.if_icmp .ge 33, 3) := by decide +kernel
theorem dX1_runWeight_46 : decode cX1_runWeight 46 = .ok (.iload_n 2, 1) := by decide +kernel
theorem dX1_runWeight_47 : decode cX1_runWeight 47 = .ok (.getstatic 77, 3) := by decide +kernel
theorem dX1_runWeight_50 : decode cX1_runWeight 50 = .ok (.aload_n 0, 1) := by decide +kernel
theorem dX1_runWeight_51 : decode cX1_runWeight 51 = .ok (.getfield 9, 3) := by decide +kernel
theorem dX1_runWeight_54 : decode cX1_runWeight 54 = .ok (.aload_n 0, 1) := by decide +kernel
theorem dX1_runWeight_55 : decode cX1_runWeight 55 = .ok (.getfield 21, 3) := by decide +kernel
theorem dX1_runWeight_58 : decode cX1_runWeight 58 = .ok (.iload 4, 2) := by decide +kernel
theorem dX1_runWeight_60 : decode cX1_runWeight 60 = .ok (.iconst 4, 1) := by decide +kernel
theorem dX1_runWeight_61 : decode cX1_runWeight 61 = .ok (.imul, 1) := by decide +kernel
theorem dX1_runWeight_62 : decode cX1_runWeight 62 = .ok (.iload 5, 2) := by decide +kernel
theorem dX1_runWeight_64 : decode cX1_runWeight 64 = .ok (.iadd, 1) := by decide +kernel
theorem dX1_runWeight_65 : decode cX1_runWeight 65 = .ok (.iaload, 1) := by decide +kernel
theorem dX1_runWeight_66 : decode cX1_runWeight 66 = .ok (.iaload, 1) := by decide +kernel
theorem dX1_runWeight_67 : decode cX1_runWeight 67 = .ok (.iaload, 1) := by decide +kernel
theorem dX1_runWeight_68 : decode cX1_runWeight 68 = .ok (.iadd, 1) := by decide +kernel
theorem dX1_runWeight_69 : decode cX1_runWeight 69 = .ok (.istore_n 2, 1) := by decide +kernel
theorem dX1_runWeight_70 : decode cX1_runWeight 70 = .ok (.iinc 5 1, 3) := by decide +kernel
theorem dX1_runWeight_73 : decode cX1_runWeight 73 = .ok (.goto (-39), 3) := by decide +kernel
theorem dX1_runWeight_76 : decode cX1_runWeight 76 = .ok (.iinc 3 1, 3) := by decide +kernel
theorem dX1_runWeight_79 : decode cX1_runWeight 79 = .ok (.goto (-75), 3) := by decide +kernel
theorem dX1_runWeight_82 : decode cX1_runWeight 82 = .ok (.iload_n 2, 1) := by decide +kernel
theorem dX1_runWeight_83 : decode cX1_runWeight 83 = .ok (.ireturn, 1) := by decide +kernel
theorem dX1_pushMoves_0 : decode cX1_pushMoves 0 = .ok (.aload_n 0, 1) := by decide +kernel
theorem dX1_pushMoves_1 : decode cX1_pushMoves 1 = .ok (.iload_n 1, 1) := by decide +kernel
theorem dX1_pushMoves_2 : decode cX1_pushMoves 2 = .ok (.invokevirtual 80, 3) := by decide +kernel
theorem dX1_pushMoves_5 : decode cX1_pushMoves 5 = .ok (.istore_n 2, 1) := by decide +kernel
theorem dX1_pushMoves_6 : decode cX1_pushMoves 6 = .ok (.iload_n 2, 1) := by decide +kernel
theorem dX1_pushMoves_7 : decode cX1_pushMoves 7 = .ok (.ifCond .le 17, 3) := by decide +kernel
theorem dX1_pushMoves_10 : decode cX1_pushMoves 10 = .ok (.iload_n 2, 1) := by decide +kernel
theorem dX1_pushMoves_11 : decode cX1_pushMoves 11 = .ok (.aload_n 0, 1) := by decide +kernel
theorem dX1_pushMoves_12 : decode cX1_pushMoves 12 = .ok (.getfield 24, 3) := by decide +kernel
theorem dX1_pushMoves_15 : decode cX1_pushMoves 15 = .ok (.iconst 0, 1) := by decide +kernel
theorem dX1_pushMoves_16 : decode cX1_pushMoves 16 = .ok (.iaload, 1) := by decide +kernel
theorem dX1_pushMoves_17 : decode cX1_pushMoves 17 = .ok (.if_icmp .gt 7, 3) := by decide +kernel
theorem dX1_pushMoves_20 : decode cX1_pushMoves 20 = .ok (.iconst 1, 1) := by decide +kernel
theorem dX1_pushMoves_21 : decode cX1_pushMoves 21 = .ok (.goto 4, 3) := by decide +kernel
theorem dX1_pushMoves_24 : decode cX1_pushMoves 24 = .ok (.iconst 0, 1) := by decide +kernel
theorem dX1_pushMoves_25 : decode cX1_pushMoves 25 = .ok (.ireturn, 1) := by decide +kernel
theorem dX1_leans_0 : decode cX1_leans 0 = .ok (.aload_n 0, 1) := by decide +kernel
theorem dX1_leans_1 : decode cX1_leans 1 = .ok (.getfield 18, 3) := by decide +kernel
theorem dX1_leans_4 : decode cX1_leans 4 = .ok (.iload_n 1, 1) := by decide +kernel
theorem dX1_leans_5 : decode cX1_leans 5 = .ok (.iaload, 1) := by decide +kernel
theorem dX1_leans_6 : decode cX1_leans 6 = .ok (.istore_n 2, 1) := by decide +kernel
theorem dX1_leans_7 : decode cX1_leans 7 = .ok (.iload_n 1, 1) := by decide +kernel
theorem dX1_leans_8 : decode cX1_leans 8 = .ok (.bipush 6, 2) := by decide +kernel
theorem dX1_leans_10 : decode cX1_leans 10 = .ok (.irem, 1) := by decide +kernel
theorem dX1_leans_11 : decode cX1_leans 11 = .ok (.iconst 5, 1) := by decide +kernel
theorem dX1_leans_12 : decode cX1_leans 12 = .ok (.if_icmp .ne 7, 3) := by decide +kernel
theorem dX1_leans_15 : decode cX1_leans 15 = .ok (.iconst 0, 1) := by decide +kernel
theorem dX1_leans_16 : decode cX1_leans 16 = .ok (.goto 11, 3) := by decide +kernel
theorem dX1_leans_19 : decode cX1_leans 19 = .ok (.aload_n 0, 1) := by decide +kernel
theorem dX1_leans_20 : decode cX1_leans 20 = .ok (.getfield 18, 3) := by decide +kernel
theorem dX1_leans_23 : decode cX1_leans 23 = .ok (.iload_n 1, 1) := by decide +kernel
theorem dX1_leans_24 : decode cX1_leans 24 = .ok (.iconst 1, 1) := by decide +kernel
theorem dX1_leans_25 : decode cX1_leans 25 = .ok (.iadd, 1) := by decide +kernel
theorem dX1_leans_26 : decode cX1_leans 26 = .ok (.iaload, 1) := by decide +kernel
theorem dX1_leans_27 : decode cX1_leans 27 = .ok (.istore_n 3, 1) := by decide +kernel
theorem dX1_leans_28 : decode cX1_leans 28 = .ok (.iload_n 2, 1) := by decide +kernel
theorem dX1_leans_29 : decode cX1_leans 29 = .ok (.iload_n 3, 1) := by decide +kernel
theorem dX1_leans_30 : decode cX1_leans 30 = .ok (.iconst 3, 1) := by decide +kernel
theorem dX1_leans_31 : decode cX1_leans 31 = .ok (.iadd, 1) := by decide +kernel
theorem dX1_leans_32 : decode cX1_leans 32 = .ok (.if_icmp .lt 15, 3) := by decide +kernel
theorem dX1_leans_35 : decode cX1_leans 35 = .ok (.aload_n 0, 1) := by decide +kernel
theorem dX1_leans_36 : decode cX1_leans 36 = .ok (.iload_n 1, 1) := by decide +kernel
theorem dX1_leans_37 : decode cX1_leans 37 = .ok (.invokevirtual 83, 3) := by decide +kernel
theorem dX1_leans_40 : decode cX1_leans 40 = .ok (.ifCond .eq 7, 3) := by decide +kernel
theorem dX1_leans_43 : decode cX1_leans 43 = .ok (.iconst 1, 1) := by decide +kernel
theorem dX1_leans_44 : decode cX1_leans 44 = .ok (.goto 4, 3) := by decide +kernel
theorem dX1_leans_47 : decode cX1_leans 47 = .ok (.iconst 0, 1) := by decide +kernel
theorem dX1_leans_48 : decode cX1_leans 48 = .ok (.ireturn, 1) := by decide +kernel
theorem dX1_topSlides_0 : decode cX1_topSlides 0 = .ok (.aload_n 0, 1) := by decide +kernel
theorem dX1_topSlides_1 : decode cX1_topSlides 1 = .ok (.getfield 18, 3) := by decide +kernel
theorem dX1_topSlides_4 : decode cX1_topSlides 4 = .ok (.iload_n 1, 1) := by decide +kernel
theorem dX1_topSlides_5 : decode cX1_topSlides 5 = .ok (.iaload, 1) := by decide +kernel
theorem dX1_topSlides_6 : decode cX1_topSlides 6 = .ok (.istore_n 2, 1) := by decide +kernel
theorem dX1_topSlides_7 : decode cX1_topSlides 7 = .ok (.iload_n 2, 1) := by decide +kernel
theorem dX1_topSlides_8 : decode cX1_topSlides 8 = .ok (.ifCond .le 32, 3) := by decide +kernel
theorem dX1_topSlides_11 : decode cX1_topSlides 11 = .ok (.getstatic 86, 3) := by decide +kernel
theorem dX1_topSlides_14 : decode cX1_topSlides 14 = .ok (.aload_n 0, 1) := by decide +kernel
theorem dX1_topSlides_15 : decode cX1_topSlides 15 = .ok (.getfield 9, 3) := by decide +kernel
theorem dX1_topSlides_18 : decode cX1_topSlides 18 = .ok (.aload_n 0, 1) := by decide +kernel
theorem dX1_topSlides_19 : decode cX1_topSlides 19 = .ok (.getfield 21, 3) := by decide +kernel
theorem dX1_topSlides_22 : decode cX1_topSlides 22 = .ok (.iload_n 1, 1) := by decide +kernel
theorem dX1_topSlides_23 : decode cX1_topSlides 23 = .ok (.iconst 4, 1) := by decide +kernel
theorem dX1_topSlides_24 : decode cX1_topSlides 24 = .ok (.imul, 1) := by decide +kernel
theorem dX1_topSlides_25 : decode cX1_topSlides 25 = .ok (.iload_n 2, 1) := by decide +kernel
theorem dX1_topSlides_26 : decode cX1_topSlides 26 = .ok (.iadd, 1) := by decide +kernel
theorem dX1_topSlides_27 : decode cX1_topSlides 27 = .ok (.iconst 1, 1) := by decide +kernel
theorem dX1_topSlides_28 : decode cX1_topSlides 28 = .ok (.isub, 1) := by decide +kernel
theorem dX1_topSlides_29 : decode cX1_topSlides 29 = .ok (.iaload, 1) := by decide +kernel
theorem dX1_topSlides_30 : decode cX1_topSlides 30 = .ok (.iaload, 1) := by decide +kernel
theorem dX1_topSlides_31 : decode cX1_topSlides 31 = .ok (.iaload, 1) := by decide +kernel
theorem dX1_topSlides_32 : decode cX1_topSlides 32 = .ok (.iconst 1, 1) := by decide +kernel
theorem dX1_topSlides_33 : decode cX1_topSlides 33 = .ok (.if_icmp .ne 7, 3) := by decide +kernel
theorem dX1_topSlides_36 : decode cX1_topSlides 36 = .ok (.iconst 1, 1) := by decide +kernel
theorem dX1_topSlides_37 : decode cX1_topSlides 37 = .ok (.goto 4, 3) := by decide +kernel
theorem dX1_topSlides_40 : decode cX1_topSlides 40 = .ok (.iconst 0, 1) := by decide +kernel
theorem dX1_topSlides_41 : decode cX1_topSlides 41 = .ok (.ireturn, 1) := by decide +kernel
theorem dX1_goOver_0 : decode cX1_goOver 0 = .ok (.iload_n 2, 1) := by decide +kernel
theorem dX1_goOver_1 : decode cX1_goOver 1 = .ok (.aload_n 0, 1) := by decide +kernel
theorem dX1_goOver_2 : decode cX1_goOver 2 = .ok (.getfield 24, 3) := by decide +kernel
theorem dX1_goOver_5 : decode cX1_goOver 5 = .ok (.iconst 2, 1) := by decide +kernel
theorem dX1_goOver_6 : decode cX1_goOver 6 = .ok (.iaload, 1) := by decide +kernel
theorem dX1_goOver_7 : decode cX1_goOver 7 = .ok (.if_icmp .lt 16, 3) := by decide +kernel
theorem dX1_goOver_10 : decode cX1_goOver 10 = .ok (.iload_n 2, 1) := by decide +kernel
theorem dX1_goOver_11 : decode cX1_goOver 11 = .ok (.bipush 7, 2) := by decide +kernel
theorem dX1_goOver_13 : decode cX1_goOver 13 = .ok (.aload_n 0, 1) := by decide +kernel
theorem dX1_goOver_14 : decode cX1_goOver 14 = .ok (.getfield 24, 3) := by decide +kernel
theorem dX1_goOver_17 : decode cX1_goOver 17 = .ok (.iconst 2, 1) := by decide +kernel
theorem dX1_goOver_18 : decode cX1_goOver 18 = .ok (.iaload, 1) := by decide +kernel
theorem dX1_goOver_19 : decode cX1_goOver 19 = .ok (.isub, 1) := by decide +kernel
theorem dX1_goOver_20 : decode cX1_goOver 20 = .ok (.if_icmp .lt 7, 3) := by decide +kernel
theorem dX1_goOver_23 : decode cX1_goOver 23 = .ok (.iconst 1, 1) := by decide +kernel
theorem dX1_goOver_24 : decode cX1_goOver 24 = .ok (.goto 4, 3) := by decide +kernel
theorem dX1_goOver_27 : decode cX1_goOver 27 = .ok (.iconst 0, 1) := by decide +kernel
theorem dX1_goOver_28 : decode cX1_goOver 28 = .ok (.istore_n 3, 1) := by decide +kernel
theorem dX1_goOver_29 : decode cX1_goOver 29 = .ok (.aload_n 0, 1) := by decide +kernel
theorem dX1_goOver_30 : decode cX1_goOver 30 = .ok (.getfield 15, 3) := by decide +kernel
theorem dX1_goOver_33 : decode cX1_goOver 33 = .ok (.iload_n 1, 1) := by decide +kernel
theorem dX1_goOver_34 : decode cX1_goOver 34 = .ok (.iload_n 3, 1) := by decide +kernel
theorem dX1_goOver_35 : decode cX1_goOver 35 = .ok (.ifCond .eq 8, 3) := by decide +kernel
theorem dX1_goOver_38 : decode cX1_goOver 38 = .ok (.bipush 102, 2) := by decide +kernel
theorem dX1_goOver_40 : decode cX1_goOver 40 = .ok (.goto 5, 3) := by decide +kernel
theorem dX1_goOver_43 : decode cX1_goOver 43 = .ok (.bipush 101, 2) := by decide +kernel
theorem dX1_goOver_45 : decode cX1_goOver 45 = .ok (.iastore, 1) := by decide +kernel
theorem dX1_goOver_46 : decode cX1_goOver 46 = .ok (.return_, 1) := by decide +kernel
theorem dX1_slideTop_0 : decode cX1_slideTop 0 = .ok (.aload_n 0, 1) := by decide +kernel
theorem dX1_slideTop_1 : decode cX1_slideTop 1 = .ok (.iload_n 1, 1) := by decide +kernel
theorem dX1_slideTop_2 : decode cX1_slideTop 2 = .ok (.invokevirtual 89, 3) := by decide +kernel
theorem dX1_slideTop_5 : decode cX1_slideTop 5 = .ok (.istore_n 2, 1) := by decide +kernel
theorem dX1_slideTop_6 : decode cX1_slideTop 6 = .ok (.iload_n 2, 1) := by decide +kernel
theorem dX1_slideTop_7 : decode cX1_slideTop 7 = .ok (.ifCond .ge 4, 3) := by decide +kernel
theorem dX1_slideTop_10 : decode cX1_slideTop 10 = .ok (.return_, 1) := by decide +kernel
theorem dX1_slideTop_11 : decode cX1_slideTop 11 = .ok (.iload_n 1, 1) := by decide +kernel
theorem dX1_slideTop_12 : decode cX1_slideTop 12 = .ok (.bipush 6, 2) := by decide +kernel
theorem dX1_slideTop_14 : decode cX1_slideTop 14 = .ok (.irem, 1) := by decide +kernel
theorem dX1_slideTop_15 : decode cX1_slideTop 15 = .ok (.iconst 5, 1) := by decide +kernel
theorem dX1_slideTop_16 : decode cX1_slideTop 16 = .ok (.if_icmp .ne 15, 3) := by decide +kernel
theorem dX1_slideTop_19 : decode cX1_slideTop 19 = .ok (.aload_n 0, 1) := by decide +kernel
theorem dX1_slideTop_20 : decode cX1_slideTop 20 = .ok (.iload_n 2, 1) := by decide +kernel
theorem dX1_slideTop_21 : decode cX1_slideTop 21 = .ok (.iload_n 1, 1) := by decide +kernel
theorem dX1_slideTop_22 : decode cX1_slideTop 22 = .ok (.bipush 6, 2) := by decide +kernel
theorem dX1_slideTop_24 : decode cX1_slideTop 24 = .ok (.idiv, 1) := by decide +kernel
theorem dX1_slideTop_25 : decode cX1_slideTop 25 = .ok (.invokevirtual 92, 3) := by decide +kernel
theorem dX1_slideTop_28 : decode cX1_slideTop 28 = .ok (.goto 11, 3) := by decide +kernel
theorem dX1_slideTop_31 : decode cX1_slideTop 31 = .ok (.aload_n 0, 1) := by decide +kernel
theorem dX1_slideTop_32 : decode cX1_slideTop 32 = .ok (.iload_n 2, 1) := by decide +kernel
theorem dX1_slideTop_33 : decode cX1_slideTop 33 = .ok (.iload_n 1, 1) := by decide +kernel
theorem dX1_slideTop_34 : decode cX1_slideTop 34 = .ok (.iconst 1, 1) := by decide +kernel
theorem dX1_slideTop_35 : decode cX1_slideTop 35 = .ok (.iadd, 1) := by decide +kernel
theorem dX1_slideTop_36 : decode cX1_slideTop 36 = .ok (.invokevirtual 96, 3) := by decide +kernel
theorem dX1_slideTop_39 : decode cX1_slideTop 39 = .ok (.return_, 1) := by decide +kernel
theorem dX1_pushRun_0 : decode cX1_pushRun 0 = .ok (.aload_n 0, 1) := by decide +kernel
theorem dX1_pushRun_1 : decode cX1_pushRun 1 = .ok (.iload_n 1, 1) := by decide +kernel
theorem dX1_pushRun_2 : decode cX1_pushRun 2 = .ok (.invokevirtual 99, 3) := by decide +kernel
theorem dX1_pushRun_5 : decode cX1_pushRun 5 = .ok (.iconst 1, 1) := by decide +kernel
theorem dX1_pushRun_6 : decode cX1_pushRun 6 = .ok (.isub, 1) := by decide +kernel
theorem dX1_pushRun_7 : decode cX1_pushRun 7 = .ok (.istore_n 2, 1) := by decide +kernel
theorem dX1_pushRun_8 : decode cX1_pushRun 8 = .ok (.iload_n 2, 1) := by decide +kernel
theorem dX1_pushRun_9 : decode cX1_pushRun 9 = .ok (.ifCond .lt 80, 3) := by decide +kernel
theorem dX1_pushRun_12 : decode cX1_pushRun 12 = .ok (.iload_n 1, 1) := by decide +kernel
theorem dX1_pushRun_13 : decode cX1_pushRun 13 = .ok (.bipush 6, 2) := by decide +kernel
theorem dX1_pushRun_15 : decode cX1_pushRun 15 = .ok (.imul, 1) := by decide +kernel
theorem dX1_pushRun_16 : decode cX1_pushRun 16 = .ok (.iload_n 2, 1) := by decide +kernel
theorem dX1_pushRun_17 : decode cX1_pushRun 17 = .ok (.iadd, 1) := by decide +kernel
theorem dX1_pushRun_18 : decode cX1_pushRun 18 = .ok (.istore_n 3, 1) := by decide +kernel
theorem dX1_pushRun_19 : decode cX1_pushRun 19 = .ok (.iconst 0, 1) := by decide +kernel
theorem dX1_pushRun_20 : decode cX1_pushRun 20 = .ok (.istore 4, 2) := by decide +kernel
theorem dX1_pushRun_22 : decode cX1_pushRun 22 = .ok (.iload 4, 2) := by decide +kernel
theorem dX1_pushRun_24 : decode cX1_pushRun 24 = .ok (.aload_n 0, 1) := by decide +kernel
theorem dX1_pushRun_25 : decode cX1_pushRun 25 = .ok (.getfield 18, 3) := by decide +kernel
theorem dX1_pushRun_28 : decode cX1_pushRun 28 = .ok (.iload_n 3, 1) := by decide +kernel
theorem dX1_pushRun_29 : decode cX1_pushRun 29 = .ok (.iaload, 1) := by decide +kernel
theorem dX1_pushRun_30 : decode cX1_pushRun 30 = .ok (.if_icmp .ge 46, 3) := by decide +kernel
theorem dX1_pushRun_33 : decode cX1_pushRun 33 = .ok (.aload_n 0, 1) := by decide +kernel
theorem dX1_pushRun_34 : decode cX1_pushRun 34 = .ok (.getfield 21, 3) := by decide +kernel
theorem dX1_pushRun_37 : decode cX1_pushRun 37 = .ok (.iload_n 3, 1) := by decide +kernel
theorem dX1_pushRun_38 : decode cX1_pushRun 38 = .ok (.iconst 4, 1) := by decide +kernel
theorem dX1_pushRun_39 : decode cX1_pushRun 39 = .ok (.imul, 1) := by decide +kernel
theorem dX1_pushRun_40 : decode cX1_pushRun 40 = .ok (.iload 4, 2) := by decide +kernel
theorem dX1_pushRun_42 : decode cX1_pushRun 42 = .ok (.iadd, 1) := by decide +kernel
theorem dX1_pushRun_43 : decode cX1_pushRun 43 = .ok (.iaload, 1) := by decide +kernel
theorem dX1_pushRun_44 : decode cX1_pushRun 44 = .ok (.istore 5, 2) := by decide +kernel
theorem dX1_pushRun_46 : decode cX1_pushRun 46 = .ok (.iload_n 2, 1) := by decide +kernel
theorem dX1_pushRun_47 : decode cX1_pushRun 47 = .ok (.iconst 5, 1) := by decide +kernel
theorem dX1_pushRun_48 : decode cX1_pushRun 48 = .ok (.if_icmp .ne 13, 3) := by decide +kernel
theorem dX1_pushRun_51 : decode cX1_pushRun 51 = .ok (.aload_n 0, 1) := by decide +kernel
theorem dX1_pushRun_52 : decode cX1_pushRun 52 = .ok (.iload 5, 2) := by decide +kernel
theorem dX1_pushRun_54 : decode cX1_pushRun 54 = .ok (.iload_n 1, 1) := by decide +kernel
theorem dX1_pushRun_55 : decode cX1_pushRun 55 = .ok (.invokevirtual 92, 3) := by decide +kernel
theorem dX1_pushRun_58 : decode cX1_pushRun 58 = .ok (.goto 12, 3) := by decide +kernel
theorem dX1_pushRun_61 : decode cX1_pushRun 61 = .ok (.aload_n 0, 1) := by decide +kernel
theorem dX1_pushRun_62 : decode cX1_pushRun 62 = .ok (.iload 5, 2) := by decide +kernel
theorem dX1_pushRun_64 : decode cX1_pushRun 64 = .ok (.iload_n 3, 1) := by decide +kernel
theorem dX1_pushRun_65 : decode cX1_pushRun 65 = .ok (.iconst 1, 1) := by decide +kernel
theorem dX1_pushRun_66 : decode cX1_pushRun 66 = .ok (.iadd, 1) := by decide +kernel
theorem dX1_pushRun_67 : decode cX1_pushRun 67 = .ok (.invokevirtual 96, 3) := by decide +kernel
theorem dX1_pushRun_70 : decode cX1_pushRun 70 = .ok (.iinc 4 1, 3) := by decide +kernel
theorem dX1_pushRun_73 : decode cX1_pushRun 73 = .ok (.goto (-51), 3) := by decide +kernel
theorem dX1_pushRun_76 : decode cX1_pushRun 76 = .ok (.aload_n 0, 1) := by decide +kernel
theorem dX1_pushRun_77 : decode cX1_pushRun 77 = .ok (.getfield 18, 3) := by decide +kernel
theorem dX1_pushRun_80 : decode cX1_pushRun 80 = .ok (.iload_n 3, 1) := by decide +kernel
theorem dX1_pushRun_81 : decode cX1_pushRun 81 = .ok (.iconst 0, 1) := by decide +kernel
theorem dX1_pushRun_82 : decode cX1_pushRun 82 = .ok (.iastore, 1) := by decide +kernel
theorem dX1_pushRun_83 : decode cX1_pushRun 83 = .ok (.iinc 2 (-1), 3) := by decide +kernel
theorem dX1_pushRun_86 : decode cX1_pushRun 86 = .ok (.goto (-78), 3) := by decide +kernel
theorem dX1_pushRun_89 : decode cX1_pushRun 89 = .ok (.return_, 1) := by decide +kernel
theorem dX1_pushAll_0 : decode cX1_pushAll 0 = .ok (.iconst 0, 1) := by decide +kernel
theorem dX1_pushAll_1 : decode cX1_pushAll 1 = .ok (.istore_n 1, 1) := by decide +kernel
theorem dX1_pushAll_2 : decode cX1_pushAll 2 = .ok (.iconst 0, 1) := by decide +kernel
theorem dX1_pushAll_3 : decode cX1_pushAll 3 = .ok (.istore_n 2, 1) := by decide +kernel
theorem dX1_pushAll_4 : decode cX1_pushAll 4 = .ok (.iload_n 2, 1) := by decide +kernel
theorem dX1_pushAll_5 : decode cX1_pushAll 5 = .ok (.bipush 7, 2) := by decide +kernel
theorem dX1_pushAll_7 : decode cX1_pushAll 7 = .ok (.if_icmp .ge 24, 3) := by decide +kernel
theorem dX1_pushAll_10 : decode cX1_pushAll 10 = .ok (.aload_n 0, 1) := by decide +kernel
theorem dX1_pushAll_11 : decode cX1_pushAll 11 = .ok (.iload_n 2, 1) := by decide +kernel
theorem dX1_pushAll_12 : decode cX1_pushAll 12 = .ok (.invokevirtual 102, 3) := by decide +kernel
theorem dX1_pushAll_15 : decode cX1_pushAll 15 = .ok (.ifCond .eq 10, 3) := by decide +kernel
theorem dX1_pushAll_18 : decode cX1_pushAll 18 = .ok (.aload_n 0, 1) := by decide +kernel
theorem dX1_pushAll_19 : decode cX1_pushAll 19 = .ok (.iload_n 2, 1) := by decide +kernel
theorem dX1_pushAll_20 : decode cX1_pushAll 20 = .ok (.invokevirtual 105, 3) := by decide +kernel
theorem dX1_pushAll_23 : decode cX1_pushAll 23 = .ok (.iconst 1, 1) := by decide +kernel
theorem dX1_pushAll_24 : decode cX1_pushAll 24 = .ok (.istore_n 1, 1) := by decide +kernel
theorem dX1_pushAll_25 : decode cX1_pushAll 25 = .ok (.iinc 2 1, 3) := by decide +kernel
theorem dX1_pushAll_28 : decode cX1_pushAll 28 = .ok (.goto (-24), 3) := by decide +kernel
theorem dX1_pushAll_31 : decode cX1_pushAll 31 = .ok (.iload_n 1, 1) := by decide +kernel
theorem dX1_pushAll_32 : decode cX1_pushAll 32 = .ok (.ireturn, 1) := by decide +kernel
theorem dX1_slideAll_0 : decode cX1_slideAll 0 = .ok (.iconst 0, 1) := by decide +kernel
theorem dX1_slideAll_1 : decode cX1_slideAll 1 = .ok (.istore_n 1, 1) := by decide +kernel
theorem dX1_slideAll_2 : decode cX1_slideAll 2 = .ok (.iconst 5, 1) := by decide +kernel
theorem dX1_slideAll_3 : decode cX1_slideAll 3 = .ok (.istore_n 2, 1) := by decide +kernel
theorem dX1_slideAll_4 : decode cX1_slideAll 4 = .ok (.iload_n 2, 1) := by decide +kernel
theorem dX1_slideAll_5 : decode cX1_slideAll 5 = .ok (.ifCond .lt 38, 3) := by decide +kernel
theorem dX1_slideAll_8 : decode cX1_slideAll 8 = .ok (.iload_n 2, 1) := by decide +kernel
theorem dX1_slideAll_9 : decode cX1_slideAll 9 = .ok (.istore_n 3, 1) := by decide +kernel
theorem dX1_slideAll_10 : decode cX1_slideAll 10 = .ok (.iload_n 3, 1) := by decide +kernel
theorem dX1_slideAll_11 : decode cX1_slideAll 11 = .ok (.bipush 42, 2) := by decide +kernel
theorem dX1_slideAll_13 : decode cX1_slideAll 13 = .ok (.if_icmp .ge 24, 3) := by decide +kernel
theorem dX1_slideAll_16 : decode cX1_slideAll 16 = .ok (.aload_n 0, 1) := by decide +kernel
theorem dX1_slideAll_17 : decode cX1_slideAll 17 = .ok (.iload_n 3, 1) := by decide +kernel
theorem dX1_slideAll_18 : decode cX1_slideAll 18 = .ok (.invokevirtual 109, 3) := by decide +kernel
theorem dX1_slideAll_21 : decode cX1_slideAll 21 = .ok (.ifCond .eq 10, 3) := by decide +kernel
theorem dX1_slideAll_24 : decode cX1_slideAll 24 = .ok (.aload_n 0, 1) := by decide +kernel
theorem dX1_slideAll_25 : decode cX1_slideAll 25 = .ok (.iload_n 3, 1) := by decide +kernel
theorem dX1_slideAll_26 : decode cX1_slideAll 26 = .ok (.invokevirtual 112, 3) := by decide +kernel
theorem dX1_slideAll_29 : decode cX1_slideAll 29 = .ok (.iconst 1, 1) := by decide +kernel
theorem dX1_slideAll_30 : decode cX1_slideAll 30 = .ok (.istore_n 1, 1) := by decide +kernel
theorem dX1_slideAll_31 : decode cX1_slideAll 31 = .ok (.iinc 3 6, 3) := by decide +kernel
theorem dX1_slideAll_34 : decode cX1_slideAll 34 = .ok (.goto (-24), 3) := by decide +kernel
theorem dX1_slideAll_37 : decode cX1_slideAll 37 = .ok (.iinc 2 (-1), 3) := by decide +kernel
theorem dX1_slideAll_40 : decode cX1_slideAll 40 = .ok (.goto (-36), 3) := by decide +kernel
theorem dX1_slideAll_43 : decode cX1_slideAll 43 = .ok (.iload_n 1, 1) := by decide +kernel
theorem dX1_slideAll_44 : decode cX1_slideAll 44 = .ok (.ireturn, 1) := by decide +kernel
theorem dX1_passBeat_0 : decode cX1_passBeat 0 = .ok (.aload_n 0, 1) := by decide +kernel
theorem dX1_passBeat_1 : decode cX1_passBeat 1 = .ok (.getfield 24, 3) := by decide +kernel
theorem dX1_passBeat_4 : decode cX1_passBeat 4 = .ok (.iconst 1, 1) := by decide +kernel
theorem dX1_passBeat_5 : decode cX1_passBeat 5 = .ok (.iaload, 1) := by decide +kernel
theorem dX1_passBeat_6 : decode cX1_passBeat 6 = .ok (.istore_n 1, 1) := by decide +kernel
theorem dX1_passBeat_7 : decode cX1_passBeat 7 = .ok (.iload_n 1, 1) := by decide +kernel
theorem dX1_passBeat_8 : decode cX1_passBeat 8 = .ok (.ifCond .le 23, 3) := by decide +kernel
theorem dX1_passBeat_11 : decode cX1_passBeat 11 = .ok (.aload_n 0, 1) := by decide +kernel
theorem dX1_passBeat_12 : decode cX1_passBeat 12 = .ok (.getfield 34, 3) := by decide +kernel
theorem dX1_passBeat_15 : decode cX1_passBeat 15 = .ok (.iload_n 1, 1) := by decide +kernel
theorem dX1_passBeat_16 : decode cX1_passBeat 16 = .ok (.irem, 1) := by decide +kernel
theorem dX1_passBeat_17 : decode cX1_passBeat 17 = .ok (.ifCond .ne 14, 3) := by decide +kernel
theorem dX1_passBeat_20 : decode cX1_passBeat 20 = .ok (.aload_n 0, 1) := by decide +kernel
theorem dX1_passBeat_21 : decode cX1_passBeat 21 = .ok (.invokevirtual 115, 3) := by decide +kernel
theorem dX1_passBeat_24 : decode cX1_passBeat 24 = .ok (.ifCond .eq 7, 3) := by decide +kernel
theorem dX1_passBeat_27 : decode cX1_passBeat 27 = .ok (.iconst 1, 1) := by decide +kernel
theorem dX1_passBeat_28 : decode cX1_passBeat 28 = .ok (.goto 4, 3) := by decide +kernel
theorem dX1_passBeat_31 : decode cX1_passBeat 31 = .ok (.iconst 0, 1) := by decide +kernel
theorem dX1_passBeat_32 : decode cX1_passBeat 32 = .ok (.istore_n 2, 1) := by decide +kernel
theorem dX1_passBeat_33 : decode cX1_passBeat 33 = .ok (.aload_n 0, 1) := by decide +kernel
theorem dX1_passBeat_34 : decode cX1_passBeat 34 = .ok (.invokevirtual 119, 3) := by decide +kernel
theorem dX1_passBeat_37 : decode cX1_passBeat 37 = .ok (.istore_n 3, 1) := by decide +kernel
theorem dX1_passBeat_38 : decode cX1_passBeat 38 = .ok (.aload_n 0, 1) := by decide +kernel
theorem dX1_passBeat_39 : decode cX1_passBeat 39 = .ok (.dup, 1) := by decide +kernel
theorem dX1_passBeat_40 : decode cX1_passBeat 40 = .ok (.getfield 34, 3) := by decide +kernel
theorem dX1_passBeat_43 : decode cX1_passBeat 43 = .ok (.iconst 1, 1) := by decide +kernel
theorem dX1_passBeat_44 : decode cX1_passBeat 44 = .ok (.iadd, 1) := by decide +kernel
theorem dX1_passBeat_45 : decode cX1_passBeat 45 = .ok (.putfield 34, 3) := by decide +kernel
theorem dX1_passBeat_48 : decode cX1_passBeat 48 = .ok (.iload_n 2, 1) := by decide +kernel
theorem dX1_passBeat_49 : decode cX1_passBeat 49 = .ok (.ifCond .ne 7, 3) := by decide +kernel
theorem dX1_passBeat_52 : decode cX1_passBeat 52 = .ok (.iload_n 3, 1) := by decide +kernel
theorem dX1_passBeat_53 : decode cX1_passBeat 53 = .ok (.ifCond .eq 7, 3) := by decide +kernel
theorem dX1_passBeat_56 : decode cX1_passBeat 56 = .ok (.iconst 1, 1) := by decide +kernel
theorem dX1_passBeat_57 : decode cX1_passBeat 57 = .ok (.goto 4, 3) := by decide +kernel
theorem dX1_passBeat_60 : decode cX1_passBeat 60 = .ok (.iconst 0, 1) := by decide +kernel
theorem dX1_passBeat_61 : decode cX1_passBeat 61 = .ok (.ireturn, 1) := by decide +kernel
theorem dX1_advance_0 : decode cX1_advance 0 = .ok (.iconst 0, 1) := by decide +kernel
theorem dX1_advance_1 : decode cX1_advance 1 = .ok (.istore_n 2, 1) := by decide +kernel
theorem dX1_advance_2 : decode cX1_advance 2 = .ok (.iconst 0, 1) := by decide +kernel
theorem dX1_advance_3 : decode cX1_advance 3 = .ok (.istore_n 3, 1) := by decide +kernel
theorem dX1_advance_4 : decode cX1_advance 4 = .ok (.iload_n 3, 1) := by decide +kernel
theorem dX1_advance_5 : decode cX1_advance 5 = .ok (.iload_n 1, 1) := by decide +kernel
theorem dX1_advance_6 : decode cX1_advance 6 = .ok (.if_icmp .ge 47, 3) := by decide +kernel
theorem dX1_advance_9 : decode cX1_advance 9 = .ok (.iload_n 2, 1) := by decide +kernel
theorem dX1_advance_10 : decode cX1_advance 10 = .ok (.aload_n 0, 1) := by decide +kernel
theorem dX1_advance_11 : decode cX1_advance 11 = .ok (.getfield 24, 3) := by decide +kernel
theorem dX1_advance_14 : decode cX1_advance 14 = .ok (.iconst 1, 1) := by decide +kernel
theorem dX1_advance_15 : decode cX1_advance 15 = .ok (.iaload, 1) := by decide +kernel
theorem dX1_advance_16 : decode cX1_advance 16 = .ok (.if_icmp .lt 16, 3) := by decide +kernel
theorem dX1_advance_19 : decode cX1_advance 19 = .ok (.aload_n 0, 1) := by decide +kernel
theorem dX1_advance_20 : decode cX1_advance 20 = .ok (.dup, 1) := by decide +kernel
theorem dX1_advance_21 : decode cX1_advance 21 = .ok (.getfield 34, 3) := by decide +kernel
theorem dX1_advance_24 : decode cX1_advance 24 = .ok (.iload_n 1, 1) := by decide +kernel
theorem dX1_advance_25 : decode cX1_advance 25 = .ok (.iload_n 3, 1) := by decide +kernel
theorem dX1_advance_26 : decode cX1_advance 26 = .ok (.isub, 1) := by decide +kernel
theorem dX1_advance_27 : decode cX1_advance 27 = .ok (.iadd, 1) := by decide +kernel
theorem dX1_advance_28 : decode cX1_advance 28 = .ok (.putfield 34, 3) := by decide +kernel
theorem dX1_advance_31 : decode cX1_advance 31 = .ok (.return_, 1) := by decide +kernel
theorem dX1_advance_32 : decode cX1_advance 32 = .ok (.aload_n 0, 1) := by decide +kernel
theorem dX1_advance_33 : decode cX1_advance 33 = .ok (.invokevirtual 122, 3) := by decide +kernel
theorem dX1_advance_36 : decode cX1_advance 36 = .ok (.ifCond .eq 7, 3) := by decide +kernel
theorem dX1_advance_39 : decode cX1_advance 39 = .ok (.iconst 0, 1) := by decide +kernel
theorem dX1_advance_40 : decode cX1_advance 40 = .ok (.goto 6, 3) := by decide +kernel
theorem dX1_advance_43 : decode cX1_advance 43 = .ok (.iload_n 2, 1) := by decide +kernel
theorem dX1_advance_44 : decode cX1_advance 44 = .ok (.iconst 1, 1) := by decide +kernel
theorem dX1_advance_45 : decode cX1_advance 45 = .ok (.iadd, 1) := by decide +kernel
theorem dX1_advance_46 : decode cX1_advance 46 = .ok (.istore_n 2, 1) := by decide +kernel
theorem dX1_advance_47 : decode cX1_advance 47 = .ok (.iinc 3 1, 3) := by decide +kernel
theorem dX1_advance_50 : decode cX1_advance 50 = .ok (.goto (-46), 3) := by decide +kernel
theorem dX1_advance_53 : decode cX1_advance 53 = .ok (.return_, 1) := by decide +kernel
theorem dX1_release_0 : decode cX1_release 0 = .ok (.iload_n 1, 1) := by decide +kernel
theorem dX1_release_1 : decode cX1_release 1 = .ok (.ifCond .ge 4, 3) := by decide +kernel
theorem dX1_release_4 : decode cX1_release 4 = .ok (.return_, 1) := by decide +kernel
theorem dX1_release_5 : decode cX1_release 5 = .ok (.iload_n 2, 1) := by decide +kernel
theorem dX1_release_6 : decode cX1_release 6 = .ok (.bipush 6, 2) := by decide +kernel
theorem dX1_release_8 : decode cX1_release 8 = .ok (.imul, 1) := by decide +kernel
theorem dX1_release_9 : decode cX1_release 9 = .ok (.aload_n 0, 1) := by decide +kernel
theorem dX1_release_10 : decode cX1_release 10 = .ok (.getfield 34, 3) := by decide +kernel
theorem dX1_release_13 : decode cX1_release 13 = .ok (.iconst 2, 1) := by decide +kernel
theorem dX1_release_14 : decode cX1_release 14 = .ok (.irem, 1) := by decide +kernel
theorem dX1_release_15 : decode cX1_release 15 = .ok (.iadd, 1) := by decide +kernel
theorem dX1_release_16 : decode cX1_release 16 = .ok (.istore_n 3, 1) := by decide +kernel
theorem dX1_release_17 : decode cX1_release 17 = .ok (.iload_n 3, 1) := by decide +kernel
theorem dX1_release_18 : decode cX1_release 18 = .ok (.bipush 42, 2) := by decide +kernel
theorem dX1_release_20 : decode cX1_release 20 = .ok (.if_icmp .ge 19, 3) := by decide +kernel
theorem dX1_release_23 : decode cX1_release 23 = .ok (.aload_n 0, 1) := by decide +kernel
theorem dX1_release_24 : decode cX1_release 24 = .ok (.getfield 18, 3) := by decide +kernel
theorem dX1_release_27 : decode cX1_release 27 = .ok (.iload_n 3, 1) := by decide +kernel
theorem dX1_release_28 : decode cX1_release 28 = .ok (.iaload, 1) := by decide +kernel
theorem dX1_release_29 : decode cX1_release 29 = .ok (.iconst 4, 1) := by decide +kernel
theorem dX1_release_30 : decode cX1_release 30 = .ok (.if_icmp .lt 9, 3) := by decide +kernel
theorem dX1_release_33 : decode cX1_release 33 = .ok (.iinc 3 6, 3) := by decide +kernel
theorem dX1_release_36 : decode cX1_release 36 = .ok (.goto (-19), 3) := by decide +kernel
theorem dX1_release_39 : decode cX1_release 39 = .ok (.iload_n 3, 1) := by decide +kernel
theorem dX1_release_40 : decode cX1_release 40 = .ok (.bipush 42, 2) := by decide +kernel
theorem dX1_release_42 : decode cX1_release 42 = .ok (.if_icmp .ge 12, 3) := by decide +kernel
theorem dX1_release_45 : decode cX1_release 45 = .ok (.aload_n 0, 1) := by decide +kernel
theorem dX1_release_46 : decode cX1_release 46 = .ok (.iload_n 1, 1) := by decide +kernel
theorem dX1_release_47 : decode cX1_release 47 = .ok (.iload_n 3, 1) := by decide +kernel
theorem dX1_release_48 : decode cX1_release 48 = .ok (.invokevirtual 96, 3) := by decide +kernel
theorem dX1_release_51 : decode cX1_release 51 = .ok (.goto 11, 3) := by decide +kernel
theorem dX1_release_54 : decode cX1_release 54 = .ok (.aload_n 0, 1) := by decide +kernel
theorem dX1_release_55 : decode cX1_release 55 = .ok (.getfield 15, 3) := by decide +kernel
theorem dX1_release_58 : decode cX1_release 58 = .ok (.iload_n 1, 1) := by decide +kernel
theorem dX1_release_59 : decode cX1_release 59 = .ok (.bipush 102, 2) := by decide +kernel
theorem dX1_release_61 : decode cX1_release 61 = .ok (.iastore, 1) := by decide +kernel
theorem dX1_release_62 : decode cX1_release 62 = .ok (.aload_n 0, 1) := by decide +kernel
theorem dX1_release_63 : decode cX1_release 63 = .ok (.dup, 1) := by decide +kernel
theorem dX1_release_64 : decode cX1_release 64 = .ok (.getfield 37, 3) := by decide +kernel
theorem dX1_release_67 : decode cX1_release 67 = .ok (.iconst 1, 1) := by decide +kernel
theorem dX1_release_68 : decode cX1_release 68 = .ok (.iadd, 1) := by decide +kernel
theorem dX1_release_69 : decode cX1_release 69 = .ok (.putfield 37, 3) := by decide +kernel
theorem dX1_release_72 : decode cX1_release 72 = .ok (.aload_n 0, 1) := by decide +kernel
theorem dX1_release_73 : decode cX1_release 73 = .ok (.invokevirtual 122, 3) := by decide +kernel
theorem dX1_release_76 : decode cX1_release 76 = .ok (.pop, 1) := by decide +kernel
theorem dX1_release_77 : decode cX1_release 77 = .ok (.return_, 1) := by decide +kernel
theorem dX1_shake_0 : decode cX1_shake 0 = .ok (.iconst 0, 1) := by decide +kernel
theorem dX1_shake_1 : decode cX1_shake 1 = .ok (.istore_n 1, 1) := by decide +kernel
theorem dX1_shake_2 : decode cX1_shake 2 = .ok (.iconst 5, 1) := by decide +kernel
theorem dX1_shake_3 : decode cX1_shake 3 = .ok (.istore_n 2, 1) := by decide +kernel
theorem dX1_shake_4 : decode cX1_shake 4 = .ok (.iload_n 2, 1) := by decide +kernel
theorem dX1_shake_5 : decode cX1_shake 5 = .ok (.ifCond .lt 76, 3) := by decide +kernel
theorem dX1_shake_8 : decode cX1_shake 8 = .ok (.iload_n 2, 1) := by decide +kernel
theorem dX1_shake_9 : decode cX1_shake 9 = .ok (.istore_n 3, 1) := by decide +kernel
theorem dX1_shake_10 : decode cX1_shake 10 = .ok (.iload_n 3, 1) := by decide +kernel
theorem dX1_shake_11 : decode cX1_shake 11 = .ok (.bipush 42, 2) := by decide +kernel
theorem dX1_shake_13 : decode cX1_shake 13 = .ok (.if_icmp .ge 62, 3) := by decide +kernel
theorem dX1_shake_16 : decode cX1_shake 16 = .ok (.iload_n 2, 1) := by decide +kernel
theorem dX1_shake_17 : decode cX1_shake 17 = .ok (.iconst 5, 1) := by decide +kernel
theorem dX1_shake_18 : decode cX1_shake 18 = .ok (.if_icmp .eq 13, 3) := by decide +kernel
theorem dX1_shake_21 : decode cX1_shake 21 = .ok (.aload_n 0, 1) := by decide +kernel
theorem dX1_shake_22 : decode cX1_shake 22 = .ok (.iload_n 3, 1) := by decide +kernel
theorem dX1_shake_23 : decode cX1_shake 23 = .ok (.iconst 1, 1) := by decide +kernel
theorem dX1_shake_24 : decode cX1_shake 24 = .ok (.iadd, 1) := by decide +kernel
theorem dX1_shake_25 : decode cX1_shake 25 = .ok (.invokevirtual 125, 3) := by decide +kernel
theorem dX1_shake_28 : decode cX1_shake 28 = .ok (.ifCond .eq 7, 3) := by decide +kernel
theorem dX1_shake_31 : decode cX1_shake 31 = .ok (.iconst 1, 1) := by decide +kernel
theorem dX1_shake_32 : decode cX1_shake 32 = .ok (.goto 4, 3) := by decide +kernel
theorem dX1_shake_35 : decode cX1_shake 35 = .ok (.iconst 0, 1) := by decide +kernel
theorem dX1_shake_36 : decode cX1_shake 36 = .ok (.istore 4, 2) := by decide +kernel
theorem dX1_shake_38 : decode cX1_shake 38 = .ok (.iload 4, 2) := by decide +kernel
theorem dX1_shake_40 : decode cX1_shake 40 = .ok (.ifCond .eq 29, 3) := by decide +kernel
theorem dX1_shake_43 : decode cX1_shake 43 = .ok (.aload_n 0, 1) := by decide +kernel
theorem dX1_shake_44 : decode cX1_shake 44 = .ok (.getfield 18, 3) := by decide +kernel
theorem dX1_shake_47 : decode cX1_shake 47 = .ok (.iload_n 3, 1) := by decide +kernel
theorem dX1_shake_48 : decode cX1_shake 48 = .ok (.iaload, 1) := by decide +kernel
theorem dX1_shake_49 : decode cX1_shake 49 = .ok (.iconst 2, 1) := by decide +kernel
theorem dX1_shake_50 : decode cX1_shake 50 = .ok (.if_icmp .lt 19, 3) := by decide +kernel
theorem dX1_shake_53 : decode cX1_shake 53 = .ok (.aload_n 0, 1) := by decide +kernel
theorem dX1_shake_54 : decode cX1_shake 54 = .ok (.iload_n 3, 1) := by decide +kernel
theorem dX1_shake_55 : decode cX1_shake 55 = .ok (.invokevirtual 83, 3) := by decide +kernel
theorem dX1_shake_58 : decode cX1_shake 58 = .ok (.ifCond .eq 11, 3) := by decide +kernel
theorem dX1_shake_61 : decode cX1_shake 61 = .ok (.aload_n 0, 1) := by decide +kernel
theorem dX1_shake_62 : decode cX1_shake 62 = .ok (.iload_n 3, 1) := by decide +kernel
theorem dX1_shake_63 : decode cX1_shake 63 = .ok (.invokevirtual 112, 3) := by decide +kernel
theorem dX1_shake_66 : decode cX1_shake 66 = .ok (.iinc 1 1, 3) := by decide +kernel
theorem dX1_shake_69 : decode cX1_shake 69 = .ok (.iinc 3 6, 3) := by decide +kernel
theorem dX1_shake_72 : decode cX1_shake 72 = .ok (.goto (-62), 3) := by decide +kernel
theorem dX1_shake_75 : decode cX1_shake 75 = .ok (.iinc 2 (-1), 3) := by decide +kernel
theorem dX1_shake_78 : decode cX1_shake 78 = .ok (.goto (-74), 3) := by decide +kernel
theorem dX1_shake_81 : decode cX1_shake 81 = .ok (.iload_n 1, 1) := by decide +kernel
theorem dX1_shake_82 : decode cX1_shake 82 = .ok (.ireturn, 1) := by decide +kernel
theorem dX1_draw_0 : decode cX1_draw 0 = .ok (.aload_n 0, 1) := by decide +kernel
theorem dX1_draw_1 : decode cX1_draw 1 = .ok (.aload_n 0, 1) := by decide +kernel
theorem dX1_draw_2 : decode cX1_draw 2 = .ok (.getfield 40, 3) := by decide +kernel
theorem dX1_draw_5 : decode cX1_draw 5 = .ok (.ldc 128, 2) := by decide +kernel
theorem dX1_draw_7 : decode cX1_draw 7 = .ok (.imul, 1) := by decide +kernel
theorem dX1_draw_8 : decode cX1_draw 8 = .ok (.sipush 12345, 3) := by decide +kernel
theorem dX1_draw_11 : decode cX1_draw 11 = .ok (.iadd, 1) := by decide +kernel
theorem dX1_draw_12 : decode cX1_draw 12 = .ok (.putfield 40, 3) := by decide +kernel
theorem dX1_draw_15 : decode cX1_draw 15 = .ok (.aload_n 0, 1) := by decide +kernel
theorem dX1_draw_16 : decode cX1_draw 16 = .ok (.getfield 40, 3) := by decide +kernel
theorem dX1_draw_19 : decode cX1_draw 19 = .ok (.bipush 8, 2) := by decide +kernel
theorem dX1_draw_21 : decode cX1_draw 21 = .ok (.iushr, 1) := by decide +kernel
theorem dX1_draw_22 : decode cX1_draw 22 = .ok (.ireturn, 1) := by decide +kernel
theorem dX2_init_0 : decode cX2_init 0 = .ok (.aload_n 0, 1) := by decide +kernel
theorem dX2_init_1 : decode cX2_init 1 = .ok (.invokespecial 3, 3) := by decide +kernel
theorem dX2_init_4 : decode cX2_init 4 = .ok (.aload_n 0, 1) := by decide +kernel
theorem dX2_init_5 : decode cX2_init 5 = .ok (.bipush 120, 2) := by decide +kernel
theorem dX2_init_7 : decode cX2_init 7 = .ok (.newarray .int, 2) := by decide +kernel
theorem dX2_init_9 : decode cX2_init 9 = .ok (.putfield 9, 3) := by decide +kernel
theorem dX2_init_12 : decode cX2_init 12 = .ok (.aload_n 0, 1) := by decide +kernel
theorem dX2_init_13 : decode cX2_init 13 = .ok (.iconst 0, 1) := by decide +kernel
theorem dX2_init_14 : decode cX2_init 14 = .ok (.putfield 15, 3) := by decide +kernel
theorem dX2_init_17 : decode cX2_init 17 = .ok (.aload_n 0, 1) := by decide +kernel
theorem dX2_init_18 : decode cX2_init 18 = .ok (.iconst 0, 1) := by decide +kernel
theorem dX2_init_19 : decode cX2_init 19 = .ok (.putfield 19, 3) := by decide +kernel
theorem dX2_init_22 : decode cX2_init 22 = .ok (.aload_n 0, 1) := by decide +kernel
theorem dX2_init_23 : decode cX2_init 23 = .ok (.iconst 0, 1) := by decide +kernel
theorem dX2_init_24 : decode cX2_init 24 = .ok (.putfield 22, 3) := by decide +kernel
theorem dX2_init_27 : decode cX2_init 27 = .ok (.aload_n 0, 1) := by decide +kernel
theorem dX2_init_28 : decode cX2_init 28 = .ok (.iconst 0, 1) := by decide +kernel
theorem dX2_init_29 : decode cX2_init 29 = .ok (.putfield 25, 3) := by decide +kernel
theorem dX2_init_32 : decode cX2_init 32 = .ok (.aload_n 0, 1) := by decide +kernel
theorem dX2_init_33 : decode cX2_init 33 = .ok (.iconst 0, 1) := by decide +kernel
theorem dX2_init_34 : decode cX2_init 34 = .ok (.putfield 28, 3) := by decide +kernel
theorem dX2_init_37 : decode cX2_init 37 = .ok (.return_, 1) := by decide +kernel
theorem dX2_append_0 : decode cX2_append 0 = .ok (.aload_n 0, 1) := by decide +kernel
theorem dX2_append_1 : decode cX2_append 1 = .ok (.getfield 15, 3) := by decide +kernel
theorem dX2_append_4 : decode cX2_append 4 = .ok (.bipush 120, 2) := by decide +kernel
theorem dX2_append_6 : decode cX2_append 6 = .ok (.if_icmp .ge 23, 3) := by decide +kernel
theorem dX2_append_9 : decode cX2_append 9 = .ok (.aload_n 0, 1) := by decide +kernel
theorem dX2_append_10 : decode cX2_append 10 = .ok (.getfield 9, 3) := by decide +kernel
theorem dX2_append_13 : decode cX2_append 13 = .ok (.aload_n 0, 1) := by decide +kernel
theorem dX2_append_14 : decode cX2_append 14 = .ok (.getfield 15, 3) := by decide +kernel
theorem dX2_append_17 : decode cX2_append 17 = .ok (.iload_n 1, 1) := by decide +kernel
theorem dX2_append_18 : decode cX2_append 18 = .ok (.iastore, 1) := by decide +kernel
theorem dX2_append_19 : decode cX2_append 19 = .ok (.aload_n 0, 1) := by decide +kernel
theorem dX2_append_20 : decode cX2_append 20 = .ok (.dup, 1) := by decide +kernel
theorem dX2_append_21 : decode cX2_append 21 = .ok (.getfield 15, 3) := by decide +kernel
theorem dX2_append_24 : decode cX2_append 24 = .ok (.iconst 1, 1) := by decide +kernel
theorem dX2_append_25 : decode cX2_append 25 = .ok (.iadd, 1) := by decide +kernel
theorem dX2_append_26 : decode cX2_append 26 = .ok (.putfield 15, 3) := by decide +kernel
theorem dX2_append_29 : decode cX2_append 29 = .ok (.return_, 1) := by decide +kernel
theorem dX2_rewind_0 : decode cX2_rewind 0 = .ok (.aload_n 0, 1) := by decide +kernel
theorem dX2_rewind_1 : decode cX2_rewind 1 = .ok (.iconst 0, 1) := by decide +kernel
theorem dX2_rewind_2 : decode cX2_rewind 2 = .ok (.putfield 25, 3) := by decide +kernel
theorem dX2_rewind_5 : decode cX2_rewind 5 = .ok (.return_, 1) := by decide +kernel
theorem dX2_isLetter_0 : decode cX2_isLetter 0 = .ok (.iload_n 0, 1) := by decide +kernel
theorem dX2_isLetter_1 : decode cX2_isLetter 1 = .ok (.bipush 97, 2) := by decide +kernel
theorem dX2_isLetter_3 : decode cX2_isLetter 3 = .ok (.if_icmp .lt 13, 3) := by decide +kernel
theorem dX2_isLetter_6 : decode cX2_isLetter 6 = .ok (.iload_n 0, 1) := by decide +kernel
theorem dX2_isLetter_7 : decode cX2_isLetter 7 = .ok (.bipush 122, 2) := by decide +kernel
theorem dX2_isLetter_9 : decode cX2_isLetter 9 = .ok (.if_icmp .gt 7, 3) := by decide +kernel
theorem dX2_isLetter_12 : decode cX2_isLetter 12 = .ok (.iconst 1, 1) := by decide +kernel
theorem dX2_isLetter_13 : decode cX2_isLetter 13 = .ok (.goto 4, 3) := by decide +kernel
theorem dX2_isLetter_16 : decode cX2_isLetter 16 = .ok (.iconst 0, 1) := by decide +kernel
theorem dX2_isLetter_17 : decode cX2_isLetter 17 = .ok (.ireturn, 1) := by decide +kernel
theorem dX2_isDigit_0 : decode cX2_isDigit 0 = .ok (.iload_n 0, 1) := by decide +kernel
theorem dX2_isDigit_1 : decode cX2_isDigit 1 = .ok (.bipush 48, 2) := by decide +kernel
theorem dX2_isDigit_3 : decode cX2_isDigit 3 = .ok (.if_icmp .lt 13, 3) := by decide +kernel
theorem dX2_isDigit_6 : decode cX2_isDigit 6 = .ok (.iload_n 0, 1) := by decide +kernel
theorem dX2_isDigit_7 : decode cX2_isDigit 7 = .ok (.bipush 57, 2) := by decide +kernel
theorem dX2_isDigit_9 : decode cX2_isDigit 9 = .ok (.if_icmp .gt 7, 3) := by decide +kernel
theorem dX2_isDigit_12 : decode cX2_isDigit 12 = .ok (.iconst 1, 1) := by decide +kernel
theorem dX2_isDigit_13 : decode cX2_isDigit 13 = .ok (.goto 4, 3) := by decide +kernel
theorem dX2_isDigit_16 : decode cX2_isDigit 16 = .ok (.iconst 0, 1) := by decide +kernel
theorem dX2_isDigit_17 : decode cX2_isDigit 17 = .ok (.ireturn, 1) := by decide +kernel
theorem dX2_next_0 : decode cX2_next 0 = .ok (.aload_n 0, 1) := by decide +kernel
theorem dX2_next_1 : decode cX2_next 1 = .ok (.getfield 25, 3) := by decide +kernel
theorem dX2_next_4 : decode cX2_next 4 = .ok (.aload_n 0, 1) := by decide +kernel
theorem dX2_next_5 : decode cX2_next 5 = .ok (.getfield 15, 3) := by decide +kernel
theorem dX2_next_8 : decode cX2_next 8 = .ok (.if_icmp .ge 30, 3) := by decide +kernel
theorem dX2_next_11 : decode cX2_next 11 = .ok (.aload_n 0, 1) := by decide +kernel
theorem dX2_next_12 : decode cX2_next 12 = .ok (.getfield 9, 3) := by decide +kernel
theorem dX2_next_15 : decode cX2_next 15 = .ok (.aload_n 0, 1) := by decide +kernel
theorem dX2_next_16 : decode cX2_next 16 = .ok (.getfield 25, 3) := by decide +kernel
theorem dX2_next_19 : decode cX2_next 19 = .ok (.iaload, 1) := by decide +kernel
theorem dX2_next_20 : decode cX2_next 20 = .ok (.bipush 32, 2) := by decide +kernel
theorem dX2_next_22 : decode cX2_next 22 = .ok (.if_icmp .ne 16, 3) := by decide +kernel
theorem dX2_next_25 : decode cX2_next 25 = .ok (.aload_n 0, 1) := by decide +kernel
theorem dX2_next_26 : decode cX2_next 26 = .ok (.dup, 1) := by decide +kernel
theorem dX2_next_27 : decode cX2_next 27 = .ok (.getfield 25, 3) := by decide +kernel
theorem dX2_next_30 : decode cX2_next 30 = .ok (.iconst 1, 1) := by decide +kernel
theorem dX2_next_31 : decode cX2_next 31 = .ok (.iadd, 1) := by decide +kernel
theorem dX2_next_32 : decode cX2_next 32 = .ok (.putfield 25, 3) := by decide +kernel
theorem dX2_next_35 : decode cX2_next 35 = .ok (.goto (-35), 3) := by decide +kernel
theorem dX2_next_38 : decode cX2_next 38 = .ok (.aload_n 0, 1) := by decide +kernel
theorem dX2_next_39 : decode cX2_next 39 = .ok (.aload_n 0, 1) := by decide +kernel
theorem dX2_next_40 : decode cX2_next 40 = .ok (.getfield 25, 3) := by decide +kernel
theorem dX2_next_43 : decode cX2_next 43 = .ok (.putfield 22, 3) := by decide +kernel
theorem dX2_next_46 : decode cX2_next 46 = .ok (.aload_n 0, 1) := by decide +kernel
theorem dX2_next_47 : decode cX2_next 47 = .ok (.getfield 22, 3) := by decide +kernel
theorem dX2_next_50 : decode cX2_next 50 = .ok (.aload_n 0, 1) := by decide +kernel
theorem dX2_next_51 : decode cX2_next 51 = .ok (.getfield 15, 3) := by decide +kernel
theorem dX2_next_54 : decode cX2_next 54 = .ok (.if_icmp .lt 11, 3) := by decide +kernel
theorem dX2_next_57 : decode cX2_next 57 = .ok (.aload_n 0, 1) := by decide +kernel
theorem dX2_next_58 : decode cX2_next 58 = .ok (.iconst 0, 1) := by decide +kernel
theorem dX2_next_59 : decode cX2_next 59 = .ok (.putfield 19, 3) := by decide +kernel
theorem dX2_next_62 : decode cX2_next 62 = .ok (.goto 80, 3) := by decide +kernel
theorem dX2_next_65 : decode cX2_next 65 = .ok (.aload_n 0, 1) := by decide +kernel
theorem dX2_next_66 : decode cX2_next 66 = .ok (.getfield 9, 3) := by decide +kernel
theorem dX2_next_69 : decode cX2_next 69 = .ok (.aload_n 0, 1) := by decide +kernel
theorem dX2_next_70 : decode cX2_next 70 = .ok (.getfield 22, 3) := by decide +kernel
theorem dX2_next_73 : decode cX2_next 73 = .ok (.iaload, 1) := by decide +kernel
theorem dX2_next_74 : decode cX2_next 74 = .ok (.invokestatic 31, 3) := by decide +kernel
theorem dX2_next_77 : decode cX2_next 77 = .ok (.ifCond .eq 10, 3) := by decide +kernel
theorem dX2_next_80 : decode cX2_next 80 = .ok (.aload_n 0, 1) := by decide +kernel
theorem dX2_next_81 : decode cX2_next 81 = .ok (.invokevirtual 35, 3) := by decide +kernel
theorem dX2_next_84 : decode cX2_next 84 = .ok (.goto 58, 3) := by decide +kernel
theorem dX2_next_87 : decode cX2_next 87 = .ok (.aload_n 0, 1) := by decide +kernel
theorem dX2_next_88 : decode cX2_next 88 = .ok (.getfield 9, 3) := by decide +kernel
theorem dX2_next_91 : decode cX2_next 91 = .ok (.aload_n 0, 1) := by decide +kernel
theorem dX2_next_92 : decode cX2_next 92 = .ok (.getfield 22, 3) := by decide +kernel
theorem dX2_next_95 : decode cX2_next 95 = .ok (.iaload, 1) := by decide +kernel
theorem dX2_next_96 : decode cX2_next 96 = .ok (.invokestatic 38, 3) := by decide +kernel
theorem dX2_next_99 : decode cX2_next 99 = .ok (.ifCond .eq 10, 3) := by decide +kernel
theorem dX2_next_102 : decode cX2_next 102 = .ok (.aload_n 0, 1) := by decide +kernel
theorem dX2_next_103 : decode cX2_next 103 = .ok (.invokevirtual 41, 3) := by decide +kernel
theorem dX2_next_106 : decode cX2_next 106 = .ok (.goto 36, 3) := by decide +kernel
theorem dX2_next_109 : decode cX2_next 109 = .ok (.aload_n 0, 1) := by decide +kernel
theorem dX2_next_110 : decode cX2_next 110 = .ok (.aload_n 0, 1) := by decide +kernel
theorem dX2_next_111 : decode cX2_next 111 = .ok (.getfield 9, 3) := by decide +kernel
theorem dX2_next_114 : decode cX2_next 114 = .ok (.aload_n 0, 1) := by decide +kernel
theorem dX2_next_115 : decode cX2_next 115 = .ok (.getfield 22, 3) := by decide +kernel
theorem dX2_next_118 : decode cX2_next 118 = .ok (.iaload, 1) := by decide +kernel
theorem dX2_next_119 : decode cX2_next 119 = .ok (.bipush 59, 2) := by decide +kernel
theorem dX2_next_121 : decode cX2_next 121 = .ok (.if_icmp .ne 7, 3) := by decide +kernel
theorem dX2_next_124 : decode cX2_next 124 = .ok (.iconst 3, 1) := by decide +kernel
theorem dX2_next_125 : decode cX2_next 125 = .ok (.goto 4, 3) := by decide +kernel
theorem dX2_next_128 : decode cX2_next 128 = .ok (.iconst 4, 1) := by decide +kernel
theorem dX2_next_129 : decode cX2_next 129 = .ok (.putfield 19, 3) := by decide +kernel
theorem dX2_next_132 : decode cX2_next 132 = .ok (.aload_n 0, 1) := by decide +kernel
theorem dX2_next_133 : decode cX2_next 133 = .ok (.dup, 1) := by decide +kernel
theorem dX2_next_134 : decode cX2_next 134 = .ok (.getfield 25, 3) := by decide +kernel
theorem dX2_next_137 : decode cX2_next 137 = .ok (.iconst 1, 1) := by decide +kernel
theorem dX2_next_138 : decode cX2_next 138 = .ok (.iadd, 1) := by decide +kernel
theorem dX2_next_139 : decode cX2_next 139 = .ok (.putfield 25, 3) := by decide +kernel
theorem dX2_next_142 : decode cX2_next 142 = .ok (.return_, 1) := by decide +kernel
theorem dX2_readWord_0 : decode cX2_readWord 0 = .ok (.aload_n 0, 1) := by decide +kernel
theorem dX2_readWord_1 : decode cX2_readWord 1 = .ok (.iconst 1, 1) := by decide +kernel
theorem dX2_readWord_2 : decode cX2_readWord 2 = .ok (.putfield 19, 3) := by decide +kernel
theorem dX2_readWord_5 : decode cX2_readWord 5 = .ok (.aload_n 0, 1) := by decide +kernel
theorem dX2_readWord_6 : decode cX2_readWord 6 = .ok (.getfield 25, 3) := by decide +kernel
theorem dX2_readWord_9 : decode cX2_readWord 9 = .ok (.aload_n 0, 1) := by decide +kernel
theorem dX2_readWord_10 : decode cX2_readWord 10 = .ok (.getfield 15, 3) := by decide +kernel
theorem dX2_readWord_13 : decode cX2_readWord 13 = .ok (.if_icmp .ge 31, 3) := by decide +kernel
theorem dX2_readWord_16 : decode cX2_readWord 16 = .ok (.aload_n 0, 1) := by decide +kernel
theorem dX2_readWord_17 : decode cX2_readWord 17 = .ok (.getfield 9, 3) := by decide +kernel
theorem dX2_readWord_20 : decode cX2_readWord 20 = .ok (.aload_n 0, 1) := by decide +kernel
theorem dX2_readWord_21 : decode cX2_readWord 21 = .ok (.getfield 25, 3) := by decide +kernel
theorem dX2_readWord_24 : decode cX2_readWord 24 = .ok (.iaload, 1) := by decide +kernel
theorem dX2_readWord_25 : decode cX2_readWord 25 = .ok (.invokestatic 31, 3) := by decide +kernel
theorem dX2_readWord_28 : decode cX2_readWord 28 = .ok (.ifCond .eq 16, 3) := by decide +kernel
theorem dX2_readWord_31 : decode cX2_readWord 31 = .ok (.aload_n 0, 1) := by decide +kernel
theorem dX2_readWord_32 : decode cX2_readWord 32 = .ok (.dup, 1) := by decide +kernel
theorem dX2_readWord_33 : decode cX2_readWord 33 = .ok (.getfield 25, 3) := by decide +kernel
theorem dX2_readWord_36 : decode cX2_readWord 36 = .ok (.iconst 1, 1) := by decide +kernel
theorem dX2_readWord_37 : decode cX2_readWord 37 = .ok (.iadd, 1) := by decide +kernel
theorem dX2_readWord_38 : decode cX2_readWord 38 = .ok (.putfield 25, 3) := by decide +kernel
theorem dX2_readWord_41 : decode cX2_readWord 41 = .ok (.goto (-36), 3) := by decide +kernel
theorem dX2_readWord_44 : decode cX2_readWord 44 = .ok (.return_, 1) := by decide +kernel
theorem dX2_readNumber_0 : decode cX2_readNumber 0 = .ok (.aload_n 0, 1) := by decide +kernel
theorem dX2_readNumber_1 : decode cX2_readNumber 1 = .ok (.iconst 2, 1) := by decide +kernel
theorem dX2_readNumber_2 : decode cX2_readNumber 2 = .ok (.putfield 19, 3) := by decide +kernel
theorem dX2_readNumber_5 : decode cX2_readNumber 5 = .ok (.aload_n 0, 1) := by decide +kernel
theorem dX2_readNumber_6 : decode cX2_readNumber 6 = .ok (.iconst 0, 1) := by decide +kernel
theorem dX2_readNumber_7 : decode cX2_readNumber 7 = .ok (.putfield 28, 3) := by decide +kernel
theorem dX2_readNumber_10 : decode cX2_readNumber 10 = .ok (.aload_n 0, 1) := by decide +kernel
theorem dX2_readNumber_11 : decode cX2_readNumber 11 = .ok (.getfield 25, 3) := by decide +kernel
theorem dX2_readNumber_14 : decode cX2_readNumber 14 = .ok (.aload_n 0, 1) := by decide +kernel
theorem dX2_readNumber_15 : decode cX2_readNumber 15 = .ok (.getfield 15, 3) := by decide +kernel
theorem dX2_readNumber_18 : decode cX2_readNumber 18 = .ok (.if_icmp .ge 61, 3) := by decide +kernel
theorem dX2_readNumber_21 : decode cX2_readNumber 21 = .ok (.aload_n 0, 1) := by decide +kernel
theorem dX2_readNumber_22 : decode cX2_readNumber 22 = .ok (.getfield 9, 3) := by decide +kernel
theorem dX2_readNumber_25 : decode cX2_readNumber 25 = .ok (.aload_n 0, 1) := by decide +kernel
theorem dX2_readNumber_26 : decode cX2_readNumber 26 = .ok (.getfield 25, 3) := by decide +kernel
theorem dX2_readNumber_29 : decode cX2_readNumber 29 = .ok (.iaload, 1) := by decide +kernel
theorem dX2_readNumber_30 : decode cX2_readNumber 30 = .ok (.invokestatic 38, 3) := by decide +kernel
theorem dX2_readNumber_33 : decode cX2_readNumber 33 = .ok (.ifCond .eq 46, 3) := by decide +kernel
theorem dX2_readNumber_36 : decode cX2_readNumber 36 = .ok (.aload_n 0, 1) := by decide +kernel
theorem dX2_readNumber_37 : decode cX2_readNumber 37 = .ok (.aload_n 0, 1) := by decide +kernel
theorem dX2_readNumber_38 : decode cX2_readNumber 38 = .ok (.getfield 28, 3) := by decide +kernel
theorem dX2_readNumber_41 : decode cX2_readNumber 41 = .ok (.bipush 10, 2) := by decide +kernel
theorem dX2_readNumber_43 : decode cX2_readNumber 43 = .ok (.imul, 1) := by decide +kernel
theorem dX2_readNumber_44 : decode cX2_readNumber 44 = .ok (.aload_n 0, 1) := by decide +kernel
theorem dX2_readNumber_45 : decode cX2_readNumber 45 = .ok (.getfield 9, 3) := by decide +kernel
theorem dX2_readNumber_48 : decode cX2_readNumber 48 = .ok (.aload_n 0, 1) := by decide +kernel
theorem dX2_readNumber_49 : decode cX2_readNumber 49 = .ok (.getfield 25, 3) := by decide +kernel
theorem dX2_readNumber_52 : decode cX2_readNumber 52 = .ok (.iaload, 1) := by decide +kernel
theorem dX2_readNumber_53 : decode cX2_readNumber 53 = .ok (.iadd, 1) := by decide +kernel
theorem dX2_readNumber_54 : decode cX2_readNumber 54 = .ok (.bipush 48, 2) := by decide +kernel
theorem dX2_readNumber_56 : decode cX2_readNumber 56 = .ok (.isub, 1) := by decide +kernel
theorem dX2_readNumber_57 : decode cX2_readNumber 57 = .ok (.sipush 10000, 3) := by decide +kernel
theorem dX2_readNumber_60 : decode cX2_readNumber 60 = .ok (.invokestatic 44, 3) := by decide +kernel
theorem dX2_readNumber_63 : decode cX2_readNumber 63 = .ok (.putfield 28, 3) := by decide +kernel
theorem dX2_readNumber_66 : decode cX2_readNumber 66 = .ok (.aload_n 0, 1) := by decide +kernel
theorem dX2_readNumber_67 : decode cX2_readNumber 67 = .ok (.dup, 1) := by decide +kernel
theorem dX2_readNumber_68 : decode cX2_readNumber 68 = .ok (.getfield 25, 3) := by decide +kernel
theorem dX2_readNumber_71 : decode cX2_readNumber 71 = .ok (.iconst 1, 1) := by decide +kernel
theorem dX2_readNumber_72 : decode cX2_readNumber 72 = .ok (.iadd, 1) := by decide +kernel
theorem dX2_readNumber_73 : decode cX2_readNumber 73 = .ok (.putfield 25, 3) := by decide +kernel
theorem dX2_readNumber_76 : decode cX2_readNumber 76 = .ok (.goto (-66), 3) := by decide +kernel
theorem dX2_readNumber_79 : decode cX2_readNumber 79 = .ok (.return_, 1) := by decide +kernel
theorem dX2_isWord_0 : decode cX2_isWord 0 = .ok (.aload_n 0, 1) := by decide +kernel
theorem dX2_isWord_1 : decode cX2_isWord 1 = .ok (.getfield 19, 3) := by decide +kernel
theorem dX2_isWord_4 : decode cX2_isWord 4 = .ok (.iconst 1, 1) := by decide +kernel
theorem dX2_isWord_5 : decode cX2_isWord 5 = .ok (.if_icmp .ne 19, 3) := by decide +kernel
theorem dX2_isWord_8 : decode cX2_isWord 8 = .ok (.aload_n 0, 1) := by decide +kernel
theorem dX2_isWord_9 : decode cX2_isWord 9 = .ok (.getfield 25, 3) := by decide +kernel
theorem dX2_isWord_12 : decode cX2_isWord 12 = .ok (.aload_n 0, 1) := by decide +kernel
theorem dX2_isWord_13 : decode cX2_isWord 13 = .ok (.getfield 22, 3) := by decide +kernel
theorem dX2_isWord_16 : decode cX2_isWord 16 = .ok (.isub, 1) := by decide +kernel
theorem dX2_isWord_17 : decode cX2_isWord 17 = .ok (.aload_n 1, 1) := by decide +kernel
theorem dX2_isWord_18 : decode cX2_isWord 18 = .ok (.invokevirtual 50, 3) := by decide +kernel
theorem dX2_isWord_21 : decode cX2_isWord 21 = .ok (.if_icmp .eq 5, 3) := by decide +kernel
theorem dX2_isWord_24 : decode cX2_isWord 24 = .ok (.iconst 0, 1) := by decide +kernel
theorem dX2_isWord_25 : decode cX2_isWord 25 = .ok (.ireturn, 1) := by decide +kernel
theorem dX2_isWord_26 : decode cX2_isWord 26 = .ok (.iconst 0, 1) := by decide +kernel
theorem dX2_isWord_27 : decode cX2_isWord 27 = .ok (.istore_n 2, 1) := by decide +kernel
theorem dX2_isWord_28 : decode cX2_isWord 28 = .ok (.iload_n 2, 1) := by decide +kernel
theorem dX2_isWord_29 : decode cX2_isWord 29 = .ok (.aload_n 1, 1) := by decide +kernel
theorem dX2_isWord_30 : decode cX2_isWord 30 = .ok (.invokevirtual 50, 3) := by decide +kernel
theorem dX2_isWord_33 : decode cX2_isWord 33 = .ok (.if_icmp .ge 30, 3) := by decide +kernel
theorem dX2_isWord_36 : decode cX2_isWord 36 = .ok (.aload_n 0, 1) := by decide +kernel
theorem dX2_isWord_37 : decode cX2_isWord 37 = .ok (.getfield 9, 3) := by decide +kernel
theorem dX2_isWord_40 : decode cX2_isWord 40 = .ok (.aload_n 0, 1) := by decide +kernel
theorem dX2_isWord_41 : decode cX2_isWord 41 = .ok (.getfield 22, 3) := by decide +kernel
theorem dX2_isWord_44 : decode cX2_isWord 44 = .ok (.iload_n 2, 1) := by decide +kernel
theorem dX2_isWord_45 : decode cX2_isWord 45 = .ok (.iadd, 1) := by decide +kernel
theorem dX2_isWord_46 : decode cX2_isWord 46 = .ok (.iaload, 1) := by decide +kernel
theorem dX2_isWord_47 : decode cX2_isWord 47 = .ok (.aload_n 1, 1) := by decide +kernel
theorem dX2_isWord_48 : decode cX2_isWord 48 = .ok (.iload_n 2, 1) := by decide +kernel
theorem dX2_isWord_49 : decode cX2_isWord 49 = .ok (.invokevirtual 55, 3) := by decide +kernel
theorem dX2_isWord_52 : decode cX2_isWord 52 = .ok (.if_icmp .eq 5, 3) := by decide +kernel
theorem dX2_isWord_55 : decode cX2_isWord 55 = .ok (.iconst 0, 1) := by decide +kernel
theorem dX2_isWord_56 : decode cX2_isWord 56 = .ok (.ireturn, 1) := by decide +kernel
theorem dX2_isWord_57 : decode cX2_isWord 57 = .ok (.iinc 2 1, 3) := by decide +kernel
theorem dX2_isWord_60 : decode cX2_isWord 60 = .ok (.goto (-32), 3) := by decide +kernel
theorem dX2_isWord_63 : decode cX2_isWord 63 = .ok (.iconst 1, 1) := by decide +kernel
theorem dX2_isWord_64 : decode cX2_isWord 64 = .ok (.ireturn, 1) := by decide +kernel
theorem dX3_init_0 : decode cX3_init 0 = .ok (.aload_n 0, 1) := by decide +kernel
theorem dX3_init_1 : decode cX3_init 1 = .ok (.invokespecial 3, 3) := by decide +kernel
theorem dX3_init_4 : decode cX3_init 4 = .ok (.aload_n 0, 1) := by decide +kernel
theorem dX3_init_5 : decode cX3_init 5 = .ok (.new 9, 3) := by decide +kernel
theorem dX3_init_8 : decode cX3_init 8 = .ok (.dup, 1) := by decide +kernel
theorem dX3_init_9 : decode cX3_init 9 = .ok (.invokespecial 11, 3) := by decide +kernel
theorem dX3_init_12 : decode cX3_init 12 = .ok (.putfield 12, 3) := by decide +kernel
theorem dX3_init_15 : decode cX3_init 15 = .ok (.aload_n 0, 1) := by decide +kernel
theorem dX3_init_16 : decode cX3_init 16 = .ok (.new 9, 3) := by decide +kernel
theorem dX3_init_19 : decode cX3_init 19 = .ok (.dup, 1) := by decide +kernel
theorem dX3_init_20 : decode cX3_init 20 = .ok (.invokespecial 11, 3) := by decide +kernel
theorem dX3_init_23 : decode cX3_init 23 = .ok (.putfield 16, 3) := by decide +kernel
theorem dX3_init_26 : decode cX3_init 26 = .ok (.aload_n 0, 1) := by decide +kernel
theorem dX3_init_27 : decode cX3_init 27 = .ok (.iconst 0, 1) := by decide +kernel
theorem dX3_init_28 : decode cX3_init 28 = .ok (.putfield 19, 3) := by decide +kernel
theorem dX3_init_31 : decode cX3_init 31 = .ok (.aload_n 0, 1) := by decide +kernel
theorem dX3_init_32 : decode cX3_init 32 = .ok (.new 9, 3) := by decide +kernel
theorem dX3_init_35 : decode cX3_init 35 = .ok (.dup, 1) := by decide +kernel
theorem dX3_init_36 : decode cX3_init 36 = .ok (.invokespecial 11, 3) := by decide +kernel
theorem dX3_init_39 : decode cX3_init 39 = .ok (.putfield 23, 3) := by decide +kernel
theorem dX3_init_42 : decode cX3_init 42 = .ok (.aload_n 0, 1) := by decide +kernel
theorem dX3_init_43 : decode cX3_init 43 = .ok (.iconst 4, 1) := by decide +kernel
theorem dX3_init_44 : decode cX3_init 44 = .ok (.anewarray 9, 3) := by decide +kernel
theorem dX3_init_47 : decode cX3_init 47 = .ok (.putfield 26, 3) := by decide +kernel
theorem dX3_init_50 : decode cX3_init 50 = .ok (.aload_n 0, 1) := by decide +kernel
theorem dX3_init_51 : decode cX3_init 51 = .ok (.new 30, 3) := by decide +kernel
theorem dX3_init_54 : decode cX3_init 54 = .ok (.dup, 1) := by decide +kernel
theorem dX3_init_55 : decode cX3_init 55 = .ok (.invokespecial 32, 3) := by decide +kernel
theorem dX3_init_58 : decode cX3_init 58 = .ok (.putfield 33, 3) := by decide +kernel
theorem dX3_init_61 : decode cX3_init 61 = .ok (.aload_n 0, 1) := by decide +kernel
theorem dX3_init_62 : decode cX3_init 62 = .ok (.iconst 4, 1) := by decide +kernel
theorem dX3_init_63 : decode cX3_init 63 = .ok (.anewarray 37, 3) := by decide +kernel
theorem dX3_init_66 : decode cX3_init 66 = .ok (.putfield 39, 3) := by decide +kernel
theorem dX3_init_69 : decode cX3_init 69 = .ok (.aload_n 0, 1) := by decide +kernel
theorem dX3_init_70 : decode cX3_init 70 = .ok (.bipush 7, 2) := by decide +kernel
theorem dX3_init_72 : decode cX3_init 72 = .ok (.newarray .int, 2) := by decide +kernel
theorem dX3_init_74 : decode cX3_init 74 = .ok (.putfield 43, 3) := by decide +kernel
theorem dX3_init_77 : decode cX3_init 77 = .ok (.aload_n 0, 1) := by decide +kernel
theorem dX3_init_78 : decode cX3_init 78 = .ok (.getfield 26, 3) := by decide +kernel
theorem dX3_init_81 : decode cX3_init 81 = .ok (.iconst 0, 1) := by decide +kernel
theorem dX3_init_82 : decode cX3_init 82 = .ok (.aload_n 0, 1) := by decide +kernel
theorem dX3_init_83 : decode cX3_init 83 = .ok (.getfield 12, 3) := by decide +kernel
theorem dX3_init_86 : decode cX3_init 86 = .ok (.aastore, 1) := by decide +kernel
theorem dX3_init_87 : decode cX3_init 87 = .ok (.iconst 1, 1) := by decide +kernel
theorem dX3_init_88 : decode cX3_init 88 = .ok (.istore_n 1, 1) := by decide +kernel
theorem dX3_init_89 : decode cX3_init 89 = .ok (.iload_n 1, 1) := by decide +kernel
theorem dX3_init_90 : decode cX3_init 90 = .ok (.iconst 3, 1) := by decide +kernel
theorem dX3_init_91 : decode cX3_init 91 = .ok (.if_icmp .gt 22, 3) := by decide +kernel
theorem dX3_init_94 : decode cX3_init 94 = .ok (.aload_n 0, 1) := by decide +kernel
theorem dX3_init_95 : decode cX3_init 95 = .ok (.getfield 26, 3) := by decide +kernel
theorem dX3_init_98 : decode cX3_init 98 = .ok (.iload_n 1, 1) := by decide +kernel
theorem dX3_init_99 : decode cX3_init 99 = .ok (.new 9, 3) := by decide +kernel
theorem dX3_init_102 : decode cX3_init 102 = .ok (.dup, 1) := by decide +kernel
theorem dX3_init_103 : decode cX3_init 103 = .ok (.invokespecial 11, 3) := by decide +kernel
theorem dX3_init_106 : decode cX3_init 106 = .ok (.aastore, 1) := by decide +kernel
theorem dX3_init_107 : decode cX3_init 107 = .ok (.iinc 1 1, 3) := by decide +kernel
theorem dX3_init_110 : decode cX3_init 110 = .ok (.goto (-21), 3) := by decide +kernel
theorem dX3_init_113 : decode cX3_init 113 = .ok (.iconst 0, 1) := by decide +kernel
theorem dX3_init_114 : decode cX3_init 114 = .ok (.istore_n 1, 1) := by decide +kernel
theorem dX3_init_115 : decode cX3_init 115 = .ok (.iload_n 1, 1) := by decide +kernel
theorem dX3_init_116 : decode cX3_init 116 = .ok (.iconst 4, 1) := by decide +kernel
theorem dX3_init_117 : decode cX3_init 117 = .ok (.if_icmp .ge 22, 3) := by decide +kernel
theorem dX3_init_120 : decode cX3_init 120 = .ok (.aload_n 0, 1) := by decide +kernel
theorem dX3_init_121 : decode cX3_init 121 = .ok (.getfield 39, 3) := by decide +kernel
theorem dX3_init_124 : decode cX3_init 124 = .ok (.iload_n 1, 1) := by decide +kernel
theorem dX3_init_125 : decode cX3_init 125 = .ok (.new 37, 3) := by decide +kernel
theorem dX3_init_128 : decode cX3_init 128 = .ok (.dup, 1) := by decide +kernel
theorem dX3_init_129 : decode cX3_init 129 = .ok (.invokespecial 47, 3) := by decide +kernel
theorem dX3_init_132 : decode cX3_init 132 = .ok (.aastore, 1) := by decide +kernel
theorem dX3_init_133 : decode cX3_init 133 = .ok (.iinc 1 1, 3) := by decide +kernel
theorem dX3_init_136 : decode cX3_init 136 = .ok (.goto (-21), 3) := by decide +kernel
theorem dX3_init_139 : decode cX3_init 139 = .ok (.return_, 1) := by decide +kernel
theorem dX3_coin_0 : decode cX3_coin 0 = .ok (.iload_n 1, 1) := by decide +kernel
theorem dX3_coin_1 : decode cX3_coin 1 = .ok (.invokestatic 48, 3) := by decide +kernel
theorem dX3_coin_4 : decode cX3_coin 4 = .ok (.ifCond .ne 9, 3) := by decide +kernel
theorem dX3_coin_7 : decode cX3_coin 7 = .ok (.aload_n 0, 1) := by decide +kernel
theorem dX3_coin_8 : decode cX3_coin 8 = .ok (.iconst 0, 1) := by decide +kernel
theorem dX3_coin_9 : decode cX3_coin 9 = .ok (.invokevirtual 52, 3) := by decide +kernel
theorem dX3_coin_12 : decode cX3_coin 12 = .ok (.ireturn, 1) := by decide +kernel
theorem dX3_coin_13 : decode cX3_coin 13 = .ok (.aload_n 0, 1) := by decide +kernel
theorem dX3_coin_14 : decode cX3_coin 14 = .ok (.getfield 12, 3) := by decide +kernel
theorem dX3_coin_17 : decode cX3_coin 17 = .ok (.getfield 56, 3) := by decide +kernel
theorem dX3_coin_20 : decode cX3_coin 20 = .ok (.bipush 24, 2) := by decide +kernel
theorem dX3_coin_22 : decode cX3_coin 22 = .ok (.if_icmp .lt 9, 3) := by decide +kernel
theorem dX3_coin_25 : decode cX3_coin 25 = .ok (.aload_n 0, 1) := by decide +kernel
theorem dX3_coin_26 : decode cX3_coin 26 = .ok (.iconst 1, 1) := by decide +kernel
theorem dX3_coin_27 : decode cX3_coin 27 = .ok (.invokevirtual 52, 3) := by decide +kernel
theorem dX3_coin_30 : decode cX3_coin 30 = .ok (.ireturn, 1) := by decide +kernel
theorem dX3_coin_31 : decode cX3_coin 31 = .ok (.aload_n 0, 1) := by decide +kernel
theorem dX3_coin_32 : decode cX3_coin 32 = .ok (.getfield 12, 3) := by decide +kernel
theorem dX3_coin_35 : decode cX3_coin 35 = .ok (.iload_n 1, 1) := by decide +kernel
theorem dX3_coin_36 : decode cX3_coin 36 = .ok (.invokevirtual 60, 3) := by decide +kernel
theorem dX3_coin_39 : decode cX3_coin 39 = .ok (.ireturn, 1) := by decide +kernel
theorem dX3_of_0 : decode cX3_of 0 = .ok (.aload_n 0, 1) := by decide +kernel
theorem dX3_of_1 : decode cX3_of 1 = .ok (.iload_n 1, 1) := by decide +kernel
theorem dX3_of_2 : decode cX3_of 2 = .ok (.invokevirtual 63, 3) := by decide +kernel
theorem dX3_of_5 : decode cX3_of 5 = .ok (.ifCond .eq 12, 3) := by decide +kernel
theorem dX3_of_8 : decode cX3_of 8 = .ok (.iload_n 2, 1) := by decide +kernel
theorem dX3_of_9 : decode cX3_of 9 = .ok (.iconst 0, 1) := by decide +kernel
theorem dX3_of_10 : decode cX3_of 10 = .ok (.iconst 5, 1) := by decide +kernel
theorem dX3_of_11 : decode cX3_of 11 = .ok (.invokestatic 66, 3) := by decide +kernel
theorem dX3_of_14 : decode cX3_of 14 = .ok (.ifCond .ne 9, 3) := by decide +kernel
theorem dX3_of_17 : decode cX3_of 17 = .ok (.aload_n 0, 1) := by decide +kernel
theorem dX3_of_18 : decode cX3_of 18 = .ok (.iconst 0, 1) := by decide +kernel
theorem dX3_of_19 : decode cX3_of 19 = .ok (.invokevirtual 52, 3) := by decide +kernel
theorem dX3_of_22 : decode cX3_of 22 = .ok (.ireturn, 1) := by decide +kernel
theorem dX3_of_23 : decode cX3_of 23 = .ok (.aload_n 0, 1) := by decide +kernel
theorem dX3_of_24 : decode cX3_of 24 = .ok (.getfield 12, 3) := by decide +kernel
theorem dX3_of_27 : decode cX3_of 27 = .ok (.getfield 70, 3) := by decide +kernel
theorem dX3_of_30 : decode cX3_of 30 = .ok (.iload_n 1, 1) := by decide +kernel
theorem dX3_of_31 : decode cX3_of 31 = .ok (.iaload, 1) := by decide +kernel
theorem dX3_of_32 : decode cX3_of 32 = .ok (.istore_n 3, 1) := by decide +kernel
theorem dX3_of_33 : decode cX3_of 33 = .ok (.iload_n 2, 1) := by decide +kernel
theorem dX3_of_34 : decode cX3_of 34 = .ok (.tableswitch 66 0 4 #[34, 36, 45, 54, 60], 34) := by decide +kernel
theorem dX3_of_68 : decode cX3_of 68 = .ok (.iload_n 3, 1) := by decide +kernel
theorem dX3_of_69 : decode cX3_of 69 = .ok (.ireturn, 1) := by decide +kernel
theorem dX3_of_70 : decode cX3_of 70 = .ok (.aload_n 0, 1) := by decide +kernel
theorem dX3_of_71 : decode cX3_of 71 = .ok (.getfield 12, 3) := by decide +kernel
theorem dX3_of_74 : decode cX3_of 74 = .ok (.iload_n 1, 1) := by decide +kernel
theorem dX3_of_75 : decode cX3_of 75 = .ok (.invokevirtual 73, 3) := by decide +kernel
theorem dX3_of_78 : decode cX3_of 78 = .ok (.ireturn, 1) := by decide +kernel
theorem dX3_of_79 : decode cX3_of 79 = .ok (.aload_n 0, 1) := by decide +kernel
theorem dX3_of_80 : decode cX3_of 80 = .ok (.getfield 12, 3) := by decide +kernel
theorem dX3_of_83 : decode cX3_of 83 = .ok (.iload_n 1, 1) := by decide +kernel
theorem dX3_of_84 : decode cX3_of 84 = .ok (.invokevirtual 76, 3) := by decide +kernel
theorem dX3_of_87 : decode cX3_of 87 = .ok (.ireturn, 1) := by decide +kernel
theorem dX3_of_88 : decode cX3_of 88 = .ok (.getstatic 79, 3) := by decide +kernel
theorem dX3_of_91 : decode cX3_of 91 = .ok (.iload_n 3, 1) := by decide +kernel
theorem dX3_of_92 : decode cX3_of 92 = .ok (.iaload, 1) := by decide +kernel
theorem dX3_of_93 : decode cX3_of 93 = .ok (.ireturn, 1) := by decide +kernel
theorem dX3_of_94 : decode cX3_of 94 = .ok (.getstatic 82, 3) := by decide +kernel
theorem dX3_of_97 : decode cX3_of 97 = .ok (.iload_n 3, 1) := by decide +kernel
theorem dX3_of_98 : decode cX3_of 98 = .ok (.iaload, 1) := by decide +kernel
theorem dX3_of_99 : decode cX3_of 99 = .ok (.ireturn, 1) := by decide +kernel
theorem dX3_of_100 : decode cX3_of 100 = .ok (.getstatic 85, 3) := by decide +kernel
theorem dX3_of_103 : decode cX3_of 103 = .ok (.iload_n 3, 1) := by decide +kernel
theorem dX3_of_104 : decode cX3_of 104 = .ok (.iaload, 1) := by decide +kernel
theorem dX3_of_105 : decode cX3_of 105 = .ok (.ireturn, 1) := by decide +kernel
theorem dX3_change_0 : decode cX3_change 0 = .ok (.aload_n 0, 1) := by decide +kernel
theorem dX3_change_1 : decode cX3_change 1 = .ok (.iload_n 1, 1) := by decide +kernel
theorem dX3_change_2 : decode cX3_change 2 = .ok (.invokevirtual 63, 3) := by decide +kernel
theorem dX3_change_5 : decode cX3_change 5 = .ok (.ifCond .eq 10, 3) := by decide +kernel
theorem dX3_change_8 : decode cX3_change 8 = .ok (.iload_n 2, 1) := by decide +kernel
theorem dX3_change_9 : decode cX3_change 9 = .ok (.invokestatic 48, 3) := by decide +kernel
theorem dX3_change_12 : decode cX3_change 12 = .ok (.ifCond .ne 9, 3) := by decide +kernel
theorem dX3_change_15 : decode cX3_change 15 = .ok (.aload_n 0, 1) := by decide +kernel
theorem dX3_change_16 : decode cX3_change 16 = .ok (.iconst 0, 1) := by decide +kernel
theorem dX3_change_17 : decode cX3_change 17 = .ok (.invokevirtual 52, 3) := by decide +kernel
theorem dX3_change_20 : decode cX3_change 20 = .ok (.ireturn, 1) := by decide +kernel
theorem dX3_change_21 : decode cX3_change 21 = .ok (.aload_n 0, 1) := by decide +kernel
theorem dX3_change_22 : decode cX3_change 22 = .ok (.getfield 12, 3) := by decide +kernel
theorem dX3_change_25 : decode cX3_change 25 = .ok (.getfield 70, 3) := by decide +kernel
theorem dX3_change_28 : decode cX3_change 28 = .ok (.iload_n 1, 1) := by decide +kernel
theorem dX3_change_29 : decode cX3_change 29 = .ok (.iaload, 1) := by decide +kernel
theorem dX3_change_30 : decode cX3_change 30 = .ok (.istore_n 3, 1) := by decide +kernel
theorem dX3_change_31 : decode cX3_change 31 = .ok (.aload_n 0, 1) := by decide +kernel
theorem dX3_change_32 : decode cX3_change 32 = .ok (.getfield 12, 3) := by decide +kernel
theorem dX3_change_35 : decode cX3_change 35 = .ok (.getfield 70, 3) := by decide +kernel
theorem dX3_change_38 : decode cX3_change 38 = .ok (.iload_n 1, 1) := by decide +kernel
theorem dX3_change_39 : decode cX3_change 39 = .ok (.iload_n 2, 1) := by decide +kernel
theorem dX3_change_40 : decode cX3_change 40 = .ok (.iastore, 1) := by decide +kernel
theorem dX3_change_41 : decode cX3_change 41 = .ok (.iload_n 3, 1) := by decide +kernel
theorem dX3_change_42 : decode cX3_change 42 = .ok (.ireturn, 1) := by decide +kernel
theorem dX3_lay_0 : decode cX3_lay 0 = .ok (.aload_n 0, 1) := by decide +kernel
theorem dX3_lay_1 : decode cX3_lay 1 = .ok (.iload_n 1, 1) := by decide +kernel
theorem dX3_lay_2 : decode cX3_lay 2 = .ok (.invokevirtual 63, 3) := by decide +kernel
theorem dX3_lay_5 : decode cX3_lay 5 = .ok (.ifCond .eq 11, 3) := by decide +kernel
theorem dX3_lay_8 : decode cX3_lay 8 = .ok (.iload_n 2, 1) := by decide +kernel
theorem dX3_lay_9 : decode cX3_lay 9 = .ok (.iload_n 3, 1) := by decide +kernel
theorem dX3_lay_10 : decode cX3_lay 10 = .ok (.invokestatic 88, 3) := by decide +kernel
theorem dX3_lay_13 : decode cX3_lay 13 = .ok (.ifCond .ne 9, 3) := by decide +kernel
theorem dX3_lay_16 : decode cX3_lay 16 = .ok (.aload_n 0, 1) := by decide +kernel
theorem dX3_lay_17 : decode cX3_lay 17 = .ok (.iconst 0, 1) := by decide +kernel
theorem dX3_lay_18 : decode cX3_lay 18 = .ok (.invokevirtual 52, 3) := by decide +kernel
theorem dX3_lay_21 : decode cX3_lay 21 = .ok (.ireturn, 1) := by decide +kernel
theorem dX3_lay_22 : decode cX3_lay 22 = .ok (.aload_n 0, 1) := by decide +kernel
theorem dX3_lay_23 : decode cX3_lay 23 = .ok (.getfield 12, 3) := by decide +kernel
theorem dX3_lay_26 : decode cX3_lay 26 = .ok (.getfield 92, 3) := by decide +kernel
theorem dX3_lay_29 : decode cX3_lay 29 = .ok (.iload_n 1, 1) := by decide +kernel
theorem dX3_lay_30 : decode cX3_lay 30 = .ok (.iaload, 1) := by decide +kernel
theorem dX3_lay_31 : decode cX3_lay 31 = .ok (.bipush 100, 2) := by decide +kernel
theorem dX3_lay_33 : decode cX3_lay 33 = .ok (.if_icmp .eq 9, 3) := by decide +kernel
theorem dX3_lay_36 : decode cX3_lay 36 = .ok (.aload_n 0, 1) := by decide +kernel
theorem dX3_lay_37 : decode cX3_lay 37 = .ok (.iconst 4, 1) := by decide +kernel
theorem dX3_lay_38 : decode cX3_lay 38 = .ok (.invokevirtual 52, 3) := by decide +kernel
theorem dX3_lay_41 : decode cX3_lay 41 = .ok (.ireturn, 1) := by decide +kernel
theorem dX3_lay_42 : decode cX3_lay 42 = .ok (.iload_n 2, 1) := by decide +kernel
theorem dX3_lay_43 : decode cX3_lay 43 = .ok (.iload_n 3, 1) := by decide +kernel
theorem dX3_lay_44 : decode cX3_lay 44 = .ok (.invokestatic 95, 3) := by decide +kernel
theorem dX3_lay_47 : decode cX3_lay 47 = .ok (.istore 4, 2) := by decide +kernel
theorem dX3_lay_49 : decode cX3_lay 49 = .ok (.aload_n 0, 1) := by decide +kernel
theorem dX3_lay_50 : decode cX3_lay 50 = .ok (.getfield 12, 3) := by decide +kernel
theorem dX3_lay_53 : decode cX3_lay 53 = .ok (.iload 4, 2) := by decide +kernel
theorem dX3_lay_55 : decode cX3_lay 55 = .ok (.invokevirtual 99, 3) := by decide +kernel
theorem dX3_lay_58 : decode cX3_lay 58 = .ok (.ifCond .ne 9, 3) := by decide +kernel
theorem dX3_lay_61 : decode cX3_lay 61 = .ok (.aload_n 0, 1) := by decide +kernel
theorem dX3_lay_62 : decode cX3_lay 62 = .ok (.iconst 1, 1) := by decide +kernel
theorem dX3_lay_63 : decode cX3_lay 63 = .ok (.invokevirtual 52, 3) := by decide +kernel
theorem dX3_lay_66 : decode cX3_lay 66 = .ok (.ireturn, 1) := by decide +kernel
theorem dX3_lay_67 : decode cX3_lay 67 = .ok (.aload_n 0, 1) := by decide +kernel
theorem dX3_lay_68 : decode cX3_lay 68 = .ok (.getfield 12, 3) := by decide +kernel
theorem dX3_lay_71 : decode cX3_lay 71 = .ok (.iload_n 1, 1) := by decide +kernel
theorem dX3_lay_72 : decode cX3_lay 72 = .ok (.iload 4, 2) := by decide +kernel
theorem dX3_lay_74 : decode cX3_lay 74 = .ok (.invokevirtual 102, 3) := by decide +kernel
theorem dX3_lay_77 : decode cX3_lay 77 = .ok (.aload_n 0, 1) := by decide +kernel
theorem dX3_lay_78 : decode cX3_lay 78 = .ok (.getfield 12, 3) := by decide +kernel
theorem dX3_lay_81 : decode cX3_lay 81 = .ok (.getfield 106, 3) := by decide +kernel
theorem dX3_lay_84 : decode cX3_lay 84 = .ok (.iload 4, 2) := by decide +kernel
theorem dX3_lay_86 : decode cX3_lay 86 = .ok (.iaload, 1) := by decide +kernel
theorem dX3_lay_87 : decode cX3_lay 87 = .ok (.ireturn, 1) := by decide +kernel
theorem dX3_lift_0 : decode cX3_lift 0 = .ok (.iload_n 1, 1) := by decide +kernel
theorem dX3_lift_1 : decode cX3_lift 1 = .ok (.iload_n 2, 1) := by decide +kernel
theorem dX3_lift_2 : decode cX3_lift 2 = .ok (.invokestatic 88, 3) := by decide +kernel
theorem dX3_lift_5 : decode cX3_lift 5 = .ok (.ifCond .ne 9, 3) := by decide +kernel
theorem dX3_lift_8 : decode cX3_lift 8 = .ok (.aload_n 0, 1) := by decide +kernel
theorem dX3_lift_9 : decode cX3_lift 9 = .ok (.iconst 0, 1) := by decide +kernel
theorem dX3_lift_10 : decode cX3_lift 10 = .ok (.invokevirtual 52, 3) := by decide +kernel
theorem dX3_lift_13 : decode cX3_lift 13 = .ok (.ireturn, 1) := by decide +kernel
theorem dX3_lift_14 : decode cX3_lift 14 = .ok (.iload_n 1, 1) := by decide +kernel
theorem dX3_lift_15 : decode cX3_lift 15 = .ok (.iload_n 2, 1) := by decide +kernel
theorem dX3_lift_16 : decode cX3_lift 16 = .ok (.invokestatic 95, 3) := by decide +kernel
theorem dX3_lift_19 : decode cX3_lift 19 = .ok (.istore_n 3, 1) := by decide +kernel
theorem dX3_lift_20 : decode cX3_lift 20 = .ok (.aload_n 0, 1) := by decide +kernel
theorem dX3_lift_21 : decode cX3_lift 21 = .ok (.getfield 12, 3) := by decide +kernel
theorem dX3_lift_24 : decode cX3_lift 24 = .ok (.getfield 106, 3) := by decide +kernel
theorem dX3_lift_27 : decode cX3_lift 27 = .ok (.iload_n 3, 1) := by decide +kernel
theorem dX3_lift_28 : decode cX3_lift 28 = .ok (.iaload, 1) := by decide +kernel
theorem dX3_lift_29 : decode cX3_lift 29 = .ok (.ifCond .le 14, 3) := by decide +kernel
theorem dX3_lift_32 : decode cX3_lift 32 = .ok (.aload_n 0, 1) := by decide +kernel
theorem dX3_lift_33 : decode cX3_lift 33 = .ok (.getfield 12, 3) := by decide +kernel
theorem dX3_lift_36 : decode cX3_lift 36 = .ok (.iload_n 3, 1) := by decide +kernel
theorem dX3_lift_37 : decode cX3_lift 37 = .ok (.invokevirtual 109, 3) := by decide +kernel
theorem dX3_lift_40 : decode cX3_lift 40 = .ok (.goto 8, 3) := by decide +kernel
theorem dX3_lift_43 : decode cX3_lift 43 = .ok (.aload_n 0, 1) := by decide +kernel
theorem dX3_lift_44 : decode cX3_lift 44 = .ok (.iconst 3, 1) := by decide +kernel
theorem dX3_lift_45 : decode cX3_lift 45 = .ok (.invokevirtual 52, 3) := by decide +kernel
theorem dX3_lift_48 : decode cX3_lift 48 = .ok (.ireturn, 1) := by decide +kernel
theorem dX3_height_0 : decode cX3_height 0 = .ok (.iload_n 1, 1) := by decide +kernel
theorem dX3_height_1 : decode cX3_height 1 = .ok (.iload_n 2, 1) := by decide +kernel
theorem dX3_height_2 : decode cX3_height 2 = .ok (.invokestatic 88, 3) := by decide +kernel
theorem dX3_height_5 : decode cX3_height 5 = .ok (.ifCond .eq 19, 3) := by decide +kernel
theorem dX3_height_8 : decode cX3_height 8 = .ok (.aload_n 0, 1) := by decide +kernel
theorem dX3_height_9 : decode cX3_height 9 = .ok (.getfield 12, 3) := by decide +kernel
theorem dX3_height_12 : decode cX3_height 12 = .ok (.getfield 106, 3) := by decide +kernel
theorem dX3_height_15 : decode cX3_height 15 = .ok (.iload_n 1, 1) := by decide +kernel
theorem dX3_height_16 : decode cX3_height 16 = .ok (.iload_n 2, 1) := by decide +kernel
theorem dX3_height_17 : decode cX3_height 17 = .ok (.invokestatic 95, 3) := by decide +kernel
theorem dX3_height_20 : decode cX3_height 20 = .ok (.iaload, 1) := by decide +kernel
theorem dX3_height_21 : decode cX3_height 21 = .ok (.goto 8, 3) := by decide +kernel
theorem dX3_height_24 : decode cX3_height 24 = .ok (.aload_n 0, 1) := by decide +kernel
theorem dX3_height_25 : decode cX3_height 25 = .ok (.iconst 0, 1) := by decide +kernel
theorem dX3_height_26 : decode cX3_height 26 = .ok (.invokevirtual 52, 3) := by decide +kernel
theorem dX3_height_29 : decode cX3_height 29 = .ok (.ireturn, 1) := by decide +kernel
theorem dX3_seen_0 : decode cX3_seen 0 = .ok (.iload_n 1, 1) := by decide +kernel
theorem dX3_seen_1 : decode cX3_seen 1 = .ok (.iload_n 2, 1) := by decide +kernel
theorem dX3_seen_2 : decode cX3_seen 2 = .ok (.invokestatic 88, 3) := by decide +kernel
theorem dX3_seen_5 : decode cX3_seen 5 = .ok (.ifCond .eq 12, 3) := by decide +kernel
theorem dX3_seen_8 : decode cX3_seen 8 = .ok (.iload_n 3, 1) := by decide +kernel
theorem dX3_seen_9 : decode cX3_seen 9 = .ok (.iconst 0, 1) := by decide +kernel
theorem dX3_seen_10 : decode cX3_seen 10 = .ok (.iconst 3, 1) := by decide +kernel
theorem dX3_seen_11 : decode cX3_seen 11 = .ok (.invokestatic 66, 3) := by decide +kernel
theorem dX3_seen_14 : decode cX3_seen 14 = .ok (.ifCond .ne 9, 3) := by decide +kernel
theorem dX3_seen_17 : decode cX3_seen 17 = .ok (.aload_n 0, 1) := by decide +kernel
theorem dX3_seen_18 : decode cX3_seen 18 = .ok (.iconst 0, 1) := by decide +kernel
theorem dX3_seen_19 : decode cX3_seen 19 = .ok (.invokevirtual 52, 3) := by decide +kernel
theorem dX3_seen_22 : decode cX3_seen 22 = .ok (.ireturn, 1) := by decide +kernel
theorem dX3_seen_23 : decode cX3_seen 23 = .ok (.iload_n 1, 1) := by decide +kernel
theorem dX3_seen_24 : decode cX3_seen 24 = .ok (.iload_n 2, 1) := by decide +kernel
theorem dX3_seen_25 : decode cX3_seen 25 = .ok (.invokestatic 95, 3) := by decide +kernel
theorem dX3_seen_28 : decode cX3_seen 28 = .ok (.istore 4, 2) := by decide +kernel
theorem dX3_seen_30 : decode cX3_seen 30 = .ok (.iload_n 3, 1) := by decide +kernel
theorem dX3_seen_31 : decode cX3_seen 31 = .ok (.aload_n 0, 1) := by decide +kernel
theorem dX3_seen_32 : decode cX3_seen 32 = .ok (.getfield 12, 3) := by decide +kernel
theorem dX3_seen_35 : decode cX3_seen 35 = .ok (.getfield 106, 3) := by decide +kernel
theorem dX3_seen_38 : decode cX3_seen 38 = .ok (.iload 4, 2) := by decide +kernel
theorem dX3_seen_40 : decode cX3_seen 40 = .ok (.iaload, 1) := by decide +kernel
theorem dX3_seen_41 : decode cX3_seen 41 = .ok (.if_icmp .ge 20, 3) := by decide +kernel
theorem dX3_seen_44 : decode cX3_seen 44 = .ok (.aload_n 0, 1) := by decide +kernel
theorem dX3_seen_45 : decode cX3_seen 45 = .ok (.getfield 12, 3) := by decide +kernel
theorem dX3_seen_48 : decode cX3_seen 48 = .ok (.getfield 112, 3) := by decide +kernel
theorem dX3_seen_51 : decode cX3_seen 51 = .ok (.iload 4, 2) := by decide +kernel
theorem dX3_seen_53 : decode cX3_seen 53 = .ok (.iconst 4, 1) := by decide +kernel
theorem dX3_seen_54 : decode cX3_seen 54 = .ok (.imul, 1) := by decide +kernel
theorem dX3_seen_55 : decode cX3_seen 55 = .ok (.iload_n 3, 1) := by decide +kernel
theorem dX3_seen_56 : decode cX3_seen 56 = .ok (.iadd, 1) := by decide +kernel
theorem dX3_seen_57 : decode cX3_seen 57 = .ok (.iaload, 1) := by decide +kernel
theorem dX3_seen_58 : decode cX3_seen 58 = .ok (.goto 8, 3) := by decide +kernel
theorem dX3_seen_61 : decode cX3_seen 61 = .ok (.aload_n 0, 1) := by decide +kernel
theorem dX3_seen_62 : decode cX3_seen 62 = .ok (.iconst 3, 1) := by decide +kernel
theorem dX3_seen_63 : decode cX3_seen 63 = .ok (.invokevirtual 52, 3) := by decide +kernel
theorem dX3_seen_66 : decode cX3_seen 66 = .ok (.ireturn, 1) := by decide +kernel
theorem dX3_set_0 : decode cX3_set 0 = .ok (.iload_n 1, 1) := by decide +kernel
theorem dX3_set_1 : decode cX3_set 1 = .ok (.iconst 0, 1) := by decide +kernel
theorem dX3_set_2 : decode cX3_set 2 = .ok (.iconst 2, 1) := by decide +kernel
theorem dX3_set_3 : decode cX3_set 3 = .ok (.invokestatic 66, 3) := by decide +kernel
theorem dX3_set_6 : decode cX3_set 6 = .ok (.ifCond .eq 11, 3) := by decide +kernel
theorem dX3_set_9 : decode cX3_set 9 = .ok (.iload_n 1, 1) := by decide +kernel
theorem dX3_set_10 : decode cX3_set 10 = .ok (.iload_n 2, 1) := by decide +kernel
theorem dX3_set_11 : decode cX3_set 11 = .ok (.invokestatic 115, 3) := by decide +kernel
theorem dX3_set_14 : decode cX3_set 14 = .ok (.ifCond .ne 9, 3) := by decide +kernel
theorem dX3_set_17 : decode cX3_set 17 = .ok (.aload_n 0, 1) := by decide +kernel
theorem dX3_set_18 : decode cX3_set 18 = .ok (.iconst 0, 1) := by decide +kernel
theorem dX3_set_19 : decode cX3_set 19 = .ok (.invokevirtual 52, 3) := by decide +kernel
theorem dX3_set_22 : decode cX3_set 22 = .ok (.ireturn, 1) := by decide +kernel
theorem dX3_set_23 : decode cX3_set 23 = .ok (.aload_n 0, 1) := by decide +kernel
theorem dX3_set_24 : decode cX3_set 24 = .ok (.getfield 12, 3) := by decide +kernel
theorem dX3_set_27 : decode cX3_set 27 = .ok (.getfield 118, 3) := by decide +kernel
theorem dX3_set_30 : decode cX3_set 30 = .ok (.iload_n 1, 1) := by decide +kernel
theorem dX3_set_31 : decode cX3_set 31 = .ok (.iaload, 1) := by decide +kernel
theorem dX3_set_32 : decode cX3_set 32 = .ok (.istore_n 3, 1) := by decide +kernel
theorem dX3_set_33 : decode cX3_set 33 = .ok (.aload_n 0, 1) := by decide +kernel
theorem dX3_set_34 : decode cX3_set 34 = .ok (.getfield 12, 3) := by decide +kernel
theorem dX3_set_37 : decode cX3_set 37 = .ok (.getfield 118, 3) := by decide +kernel
theorem dX3_set_40 : decode cX3_set 40 = .ok (.iload_n 1, 1) := by decide +kernel
theorem dX3_set_41 : decode cX3_set 41 = .ok (.iload_n 2, 1) := by decide +kernel
theorem dX3_set_42 : decode cX3_set 42 = .ok (.iastore, 1) := by decide +kernel
theorem dX3_set_43 : decode cX3_set 43 = .ok (.iload_n 3, 1) := by decide +kernel
theorem dX3_set_44 : decode cX3_set 44 = .ok (.ireturn, 1) := by decide +kernel
theorem dX3_drop_0 : decode cX3_drop 0 = .ok (.aload_n 0, 1) := by decide +kernel
theorem dX3_drop_1 : decode cX3_drop 1 = .ok (.iload_n 1, 1) := by decide +kernel
theorem dX3_drop_2 : decode cX3_drop 2 = .ok (.invokevirtual 63, 3) := by decide +kernel
theorem dX3_drop_5 : decode cX3_drop 5 = .ok (.ifCond .eq 10, 3) := by decide +kernel
theorem dX3_drop_8 : decode cX3_drop 8 = .ok (.iload_n 2, 1) := by decide +kernel
theorem dX3_drop_9 : decode cX3_drop 9 = .ok (.invokestatic 121, 3) := by decide +kernel
theorem dX3_drop_12 : decode cX3_drop 12 = .ok (.ifCond .ne 9, 3) := by decide +kernel
theorem dX3_drop_15 : decode cX3_drop 15 = .ok (.aload_n 0, 1) := by decide +kernel
theorem dX3_drop_16 : decode cX3_drop 16 = .ok (.iconst 0, 1) := by decide +kernel
theorem dX3_drop_17 : decode cX3_drop 17 = .ok (.invokevirtual 52, 3) := by decide +kernel
theorem dX3_drop_20 : decode cX3_drop 20 = .ok (.ireturn, 1) := by decide +kernel
theorem dX3_drop_21 : decode cX3_drop 21 = .ok (.aload_n 0, 1) := by decide +kernel
theorem dX3_drop_22 : decode cX3_drop 22 = .ok (.getfield 12, 3) := by decide +kernel
theorem dX3_drop_25 : decode cX3_drop 25 = .ok (.getfield 92, 3) := by decide +kernel
theorem dX3_drop_28 : decode cX3_drop 28 = .ok (.iload_n 1, 1) := by decide +kernel
theorem dX3_drop_29 : decode cX3_drop 29 = .ok (.iaload, 1) := by decide +kernel
theorem dX3_drop_30 : decode cX3_drop 30 = .ok (.bipush 100, 2) := by decide +kernel
theorem dX3_drop_32 : decode cX3_drop 32 = .ok (.if_icmp .ne 11, 3) := by decide +kernel
theorem dX3_drop_35 : decode cX3_drop 35 = .ok (.aload_n 0, 1) := by decide +kernel
theorem dX3_drop_36 : decode cX3_drop 36 = .ok (.iconst 1, 1) := by decide +kernel
theorem dX3_drop_37 : decode cX3_drop 37 = .ok (.invokevirtual 124, 3) := by decide +kernel
theorem dX3_drop_40 : decode cX3_drop 40 = .ok (.ifCond .eq 9, 3) := by decide +kernel
theorem dX3_drop_43 : decode cX3_drop 43 = .ok (.aload_n 0, 1) := by decide +kernel
theorem dX3_drop_44 : decode cX3_drop 44 = .ok (.iconst 4, 1) := by decide +kernel
theorem dX3_drop_45 : decode cX3_drop 45 = .ok (.invokevirtual 52, 3) := by decide +kernel
theorem dX3_drop_48 : decode cX3_drop 48 = .ok (.ireturn, 1) := by decide +kernel
theorem dX3_drop_49 : decode cX3_drop 49 = .ok (.aload_n 0, 1) := by decide +kernel
theorem dX3_drop_50 : decode cX3_drop 50 = .ok (.getfield 12, 3) := by decide +kernel
theorem dX3_drop_53 : decode cX3_drop 53 = .ok (.invokevirtual 127, 3) := by decide +kernel
theorem dX3_drop_56 : decode cX3_drop 56 = .ok (.istore_n 3, 1) := by decide +kernel
theorem dX3_drop_57 : decode cX3_drop 57 = .ok (.aload_n 0, 1) := by decide +kernel
theorem dX3_drop_58 : decode cX3_drop 58 = .ok (.getfield 12, 3) := by decide +kernel
theorem dX3_drop_61 : decode cX3_drop 61 = .ok (.iload_n 1, 1) := by decide +kernel
theorem dX3_drop_62 : decode cX3_drop 62 = .ok (.iload_n 2, 1) := by decide +kernel
theorem dX3_drop_63 : decode cX3_drop 63 = .ok (.invokevirtual 131, 3) := by decide +kernel
theorem dX3_drop_66 : decode cX3_drop 66 = .ok (.aload_n 0, 1) := by decide +kernel
theorem dX3_drop_67 : decode cX3_drop 67 = .ok (.getfield 12, 3) := by decide +kernel
theorem dX3_drop_70 : decode cX3_drop 70 = .ok (.invokevirtual 127, 3) := by decide +kernel
theorem dX3_drop_73 : decode cX3_drop 73 = .ok (.iload_n 3, 1) := by decide +kernel
theorem dX3_drop_74 : decode cX3_drop 74 = .ok (.isub, 1) := by decide +kernel
theorem dX3_drop_75 : decode cX3_drop 75 = .ok (.ireturn, 1) := by decide +kernel
theorem dX3_beats_0 : decode cX3_beats 0 = .ok (.iload_n 1, 1) := by decide +kernel
theorem dX3_beats_1 : decode cX3_beats 1 = .ok (.iconst 1, 1) := by decide +kernel
theorem dX3_beats_2 : decode cX3_beats 2 = .ok (.bipush 60, 2) := by decide +kernel
theorem dX3_beats_4 : decode cX3_beats 4 = .ok (.invokestatic 66, 3) := by decide +kernel
theorem dX3_beats_7 : decode cX3_beats 7 = .ok (.ifCond .ne 9, 3) := by decide +kernel
theorem dX3_beats_10 : decode cX3_beats 10 = .ok (.aload_n 0, 1) := by decide +kernel
theorem dX3_beats_11 : decode cX3_beats 11 = .ok (.iconst 0, 1) := by decide +kernel
theorem dX3_beats_12 : decode cX3_beats 12 = .ok (.invokevirtual 52, 3) := by decide +kernel
theorem dX3_beats_15 : decode cX3_beats 15 = .ok (.ireturn, 1) := by decide +kernel
theorem dX3_beats_16 : decode cX3_beats 16 = .ok (.aload_n 0, 1) := by decide +kernel
theorem dX3_beats_17 : decode cX3_beats 17 = .ok (.iload_n 1, 1) := by decide +kernel
theorem dX3_beats_18 : decode cX3_beats 18 = .ok (.invokevirtual 124, 3) := by decide +kernel
theorem dX3_beats_21 : decode cX3_beats 21 = .ok (.ifCond .eq 9, 3) := by decide +kernel
theorem dX3_beats_24 : decode cX3_beats 24 = .ok (.aload_n 0, 1) := by decide +kernel
theorem dX3_beats_25 : decode cX3_beats 25 = .ok (.iconst 4, 1) := by decide +kernel
theorem dX3_beats_26 : decode cX3_beats 26 = .ok (.invokevirtual 52, 3) := by decide +kernel
theorem dX3_beats_29 : decode cX3_beats 29 = .ok (.ireturn, 1) := by decide +kernel
theorem dX3_beats_30 : decode cX3_beats 30 = .ok (.aload_n 0, 1) := by decide +kernel
theorem dX3_beats_31 : decode cX3_beats 31 = .ok (.getfield 12, 3) := by decide +kernel
theorem dX3_beats_34 : decode cX3_beats 34 = .ok (.invokevirtual 134, 3) := by decide +kernel
theorem dX3_beats_37 : decode cX3_beats 37 = .ok (.istore_n 2, 1) := by decide +kernel
theorem dX3_beats_38 : decode cX3_beats 38 = .ok (.aload_n 0, 1) := by decide +kernel
theorem dX3_beats_39 : decode cX3_beats 39 = .ok (.getfield 12, 3) := by decide +kernel
theorem dX3_beats_42 : decode cX3_beats 42 = .ok (.iload_n 1, 1) := by decide +kernel
theorem dX3_beats_43 : decode cX3_beats 43 = .ok (.invokevirtual 137, 3) := by decide +kernel
theorem dX3_beats_46 : decode cX3_beats 46 = .ok (.aload_n 0, 1) := by decide +kernel
theorem dX3_beats_47 : decode cX3_beats 47 = .ok (.getfield 12, 3) := by decide +kernel
theorem dX3_beats_50 : decode cX3_beats 50 = .ok (.invokevirtual 134, 3) := by decide +kernel
theorem dX3_beats_53 : decode cX3_beats 53 = .ok (.iload_n 2, 1) := by decide +kernel
theorem dX3_beats_54 : decode cX3_beats 54 = .ok (.isub, 1) := by decide +kernel
theorem dX3_beats_55 : decode cX3_beats 55 = .ok (.ireturn, 1) := by decide +kernel
theorem dX3_now_0 : decode cX3_now 0 = .ok (.iload_n 1, 1) := by decide +kernel
theorem dX3_now_1 : decode cX3_now 1 = .ok (.tableswitch 107 0 6 #[43, 51, 59, 69, 79, 89, 97], 43) := by decide +kernel
theorem dX3_now_44 : decode cX3_now 44 = .ok (.aload_n 0, 1) := by decide +kernel
theorem dX3_now_45 : decode cX3_now 45 = .ok (.getfield 12, 3) := by decide +kernel
theorem dX3_now_48 : decode cX3_now 48 = .ok (.getfield 141, 3) := by decide +kernel
theorem dX3_now_51 : decode cX3_now 51 = .ok (.ireturn, 1) := by decide +kernel
theorem dX3_now_52 : decode cX3_now 52 = .ok (.aload_n 0, 1) := by decide +kernel
theorem dX3_now_53 : decode cX3_now 53 = .ok (.getfield 12, 3) := by decide +kernel
theorem dX3_now_56 : decode cX3_now 56 = .ok (.invokevirtual 127, 3) := by decide +kernel
theorem dX3_now_59 : decode cX3_now 59 = .ok (.ireturn, 1) := by decide +kernel
theorem dX3_now_60 : decode cX3_now 60 = .ok (.aload_n 0, 1) := by decide +kernel
theorem dX3_now_61 : decode cX3_now 61 = .ok (.getfield 12, 3) := by decide +kernel
theorem dX3_now_64 : decode cX3_now 64 = .ok (.bipush 101, 2) := by decide +kernel
theorem dX3_now_66 : decode cX3_now 66 = .ok (.invokevirtual 144, 3) := by decide +kernel
theorem dX3_now_69 : decode cX3_now 69 = .ok (.ireturn, 1) := by decide +kernel
theorem dX3_now_70 : decode cX3_now 70 = .ok (.aload_n 0, 1) := by decide +kernel
theorem dX3_now_71 : decode cX3_now 71 = .ok (.getfield 12, 3) := by decide +kernel
theorem dX3_now_74 : decode cX3_now 74 = .ok (.bipush 102, 2) := by decide +kernel
theorem dX3_now_76 : decode cX3_now 76 = .ok (.invokevirtual 144, 3) := by decide +kernel
theorem dX3_now_79 : decode cX3_now 79 = .ok (.ireturn, 1) := by decide +kernel
theorem dX3_now_80 : decode cX3_now 80 = .ok (.aload_n 0, 1) := by decide +kernel
theorem dX3_now_81 : decode cX3_now 81 = .ok (.getfield 12, 3) := by decide +kernel
theorem dX3_now_84 : decode cX3_now 84 = .ok (.bipush 100, 2) := by decide +kernel
theorem dX3_now_86 : decode cX3_now 86 = .ok (.invokevirtual 144, 3) := by decide +kernel
theorem dX3_now_89 : decode cX3_now 89 = .ok (.ireturn, 1) := by decide +kernel
theorem dX3_now_90 : decode cX3_now 90 = .ok (.aload_n 0, 1) := by decide +kernel
theorem dX3_now_91 : decode cX3_now 91 = .ok (.getfield 12, 3) := by decide +kernel
theorem dX3_now_94 : decode cX3_now 94 = .ok (.getfield 147, 3) := by decide +kernel
theorem dX3_now_97 : decode cX3_now 97 = .ok (.ireturn, 1) := by decide +kernel
theorem dX3_now_98 : decode cX3_now 98 = .ok (.aload_n 0, 1) := by decide +kernel
theorem dX3_now_99 : decode cX3_now 99 = .ok (.getfield 12, 3) := by decide +kernel
theorem dX3_now_102 : decode cX3_now 102 = .ok (.bipush 102, 2) := by decide +kernel
theorem dX3_now_104 : decode cX3_now 104 = .ok (.invokevirtual 150, 3) := by decide +kernel
theorem dX3_now_107 : decode cX3_now 107 = .ok (.ireturn, 1) := by decide +kernel
theorem dX3_now_108 : decode cX3_now 108 = .ok (.aload_n 0, 1) := by decide +kernel
theorem dX3_now_109 : decode cX3_now 109 = .ok (.iconst 0, 1) := by decide +kernel
theorem dX3_now_110 : decode cX3_now 110 = .ok (.invokevirtual 52, 3) := by decide +kernel
theorem dX3_now_113 : decode cX3_now 113 = .ok (.ireturn, 1) := by decide +kernel
theorem dX3_run_0 : decode cX3_run 0 = .ok (.iload_n 1, 1) := by decide +kernel
theorem dX3_run_1 : decode cX3_run 1 = .ok (.invokestatic 121, 3) := by decide +kernel
theorem dX3_run_4 : decode cX3_run 4 = .ok (.ifCond .eq 14, 3) := by decide +kernel
theorem dX3_run_7 : decode cX3_run 7 = .ok (.aload_n 0, 1) := by decide +kernel
theorem dX3_run_8 : decode cX3_run 8 = .ok (.getfield 12, 3) := by decide +kernel
theorem dX3_run_11 : decode cX3_run 11 = .ok (.iload_n 1, 1) := by decide +kernel
theorem dX3_run_12 : decode cX3_run 12 = .ok (.invokevirtual 153, 3) := by decide +kernel
theorem dX3_run_15 : decode cX3_run 15 = .ok (.goto 8, 3) := by decide +kernel
theorem dX3_run_18 : decode cX3_run 18 = .ok (.aload_n 0, 1) := by decide +kernel
theorem dX3_run_19 : decode cX3_run 19 = .ok (.iconst 0, 1) := by decide +kernel
theorem dX3_run_20 : decode cX3_run 20 = .ok (.invokevirtual 52, 3) := by decide +kernel
theorem dX3_run_23 : decode cX3_run 23 = .ok (.ireturn, 1) := by decide +kernel
theorem dX3_weight_0 : decode cX3_weight 0 = .ok (.iload_n 1, 1) := by decide +kernel
theorem dX3_weight_1 : decode cX3_weight 1 = .ok (.invokestatic 121, 3) := by decide +kernel
theorem dX3_weight_4 : decode cX3_weight 4 = .ok (.ifCond .eq 14, 3) := by decide +kernel
theorem dX3_weight_7 : decode cX3_weight 7 = .ok (.aload_n 0, 1) := by decide +kernel
theorem dX3_weight_8 : decode cX3_weight 8 = .ok (.getfield 12, 3) := by decide +kernel
theorem dX3_weight_11 : decode cX3_weight 11 = .ok (.iload_n 1, 1) := by decide +kernel
theorem dX3_weight_12 : decode cX3_weight 12 = .ok (.invokevirtual 156, 3) := by decide +kernel
theorem dX3_weight_15 : decode cX3_weight 15 = .ok (.goto 8, 3) := by decide +kernel
theorem dX3_weight_18 : decode cX3_weight 18 = .ok (.aload_n 0, 1) := by decide +kernel
theorem dX3_weight_19 : decode cX3_weight 19 = .ok (.iconst 0, 1) := by decide +kernel
theorem dX3_weight_20 : decode cX3_weight 20 = .ok (.invokevirtual 52, 3) := by decide +kernel
theorem dX3_weight_23 : decode cX3_weight 23 = .ok (.ireturn, 1) := by decide +kernel
theorem dX3_moved_0 : decode cX3_moved 0 = .ok (.iconst 0, 1) := by decide +kernel
theorem dX3_moved_1 : decode cX3_moved 1 = .ok (.istore_n 1, 1) := by decide +kernel
theorem dX3_moved_2 : decode cX3_moved 2 = .ok (.iconst 0, 1) := by decide +kernel
theorem dX3_moved_3 : decode cX3_moved 3 = .ok (.istore_n 2, 1) := by decide +kernel
theorem dX3_moved_4 : decode cX3_moved 4 = .ok (.iload_n 2, 1) := by decide +kernel
theorem dX3_moved_5 : decode cX3_moved 5 = .ok (.bipush 7, 2) := by decide +kernel
theorem dX3_moved_7 : decode cX3_moved 7 = .ok (.if_icmp .ge 26, 3) := by decide +kernel
theorem dX3_moved_10 : decode cX3_moved 10 = .ok (.aload_n 0, 1) := by decide +kernel
theorem dX3_moved_11 : decode cX3_moved 11 = .ok (.getfield 12, 3) := by decide +kernel
theorem dX3_moved_14 : decode cX3_moved 14 = .ok (.iload_n 2, 1) := by decide +kernel
theorem dX3_moved_15 : decode cX3_moved 15 = .ok (.invokevirtual 159, 3) := by decide +kernel
theorem dX3_moved_18 : decode cX3_moved 18 = .ok (.ifCond .eq 9, 3) := by decide +kernel
theorem dX3_moved_21 : decode cX3_moved 21 = .ok (.iload_n 1, 1) := by decide +kernel
theorem dX3_moved_22 : decode cX3_moved 22 = .ok (.iconst 1, 1) := by decide +kernel
theorem dX3_moved_23 : decode cX3_moved 23 = .ok (.iload_n 2, 1) := by decide +kernel
theorem dX3_moved_24 : decode cX3_moved 24 = .ok (.ishl, 1) := by decide +kernel
theorem dX3_moved_25 : decode cX3_moved 25 = .ok (.ior, 1) := by decide +kernel
theorem dX3_moved_26 : decode cX3_moved 26 = .ok (.istore_n 1, 1) := by decide +kernel
theorem dX3_moved_27 : decode cX3_moved 27 = .ok (.iinc 2 1, 3) := by decide +kernel
theorem dX3_moved_30 : decode cX3_moved 30 = .ok (.goto (-26), 3) := by decide +kernel
theorem dX3_moved_33 : decode cX3_moved 33 = .ok (.iload_n 1, 1) := by decide +kernel
theorem dX3_moved_34 : decode cX3_moved 34 = .ok (.ireturn, 1) := by decide +kernel
theorem dX3_leaning_0 : decode cX3_leaning 0 = .ok (.iconst 0, 1) := by decide +kernel
theorem dX3_leaning_1 : decode cX3_leaning 1 = .ok (.istore_n 1, 1) := by decide +kernel
theorem dX3_leaning_2 : decode cX3_leaning 2 = .ok (.iconst 0, 1) := by decide +kernel
theorem dX3_leaning_3 : decode cX3_leaning 3 = .ok (.istore_n 2, 1) := by decide +kernel
theorem dX3_leaning_4 : decode cX3_leaning 4 = .ok (.iload_n 2, 1) := by decide +kernel
theorem dX3_leaning_5 : decode cX3_leaning 5 = .ok (.bipush 42, 2) := by decide +kernel
theorem dX3_leaning_7 : decode cX3_leaning 7 = .ok (.if_icmp .ge 23, 3) := by decide +kernel
theorem dX3_leaning_10 : decode cX3_leaning 10 = .ok (.aload_n 0, 1) := by decide +kernel
theorem dX3_leaning_11 : decode cX3_leaning 11 = .ok (.getfield 12, 3) := by decide +kernel
theorem dX3_leaning_14 : decode cX3_leaning 14 = .ok (.iload_n 2, 1) := by decide +kernel
theorem dX3_leaning_15 : decode cX3_leaning 15 = .ok (.invokevirtual 162, 3) := by decide +kernel
theorem dX3_leaning_18 : decode cX3_leaning 18 = .ok (.ifCond .eq 6, 3) := by decide +kernel
theorem dX3_leaning_21 : decode cX3_leaning 21 = .ok (.iinc 1 1, 3) := by decide +kernel
theorem dX3_leaning_24 : decode cX3_leaning 24 = .ok (.iinc 2 1, 3) := by decide +kernel
theorem dX3_leaning_27 : decode cX3_leaning 27 = .ok (.goto (-23), 3) := by decide +kernel
theorem dX3_leaning_30 : decode cX3_leaning 30 = .ok (.iload_n 1, 1) := by decide +kernel
theorem dX3_leaning_31 : decode cX3_leaning 31 = .ok (.ireturn, 1) := by decide +kernel
theorem dX3_ahead_0 : decode cX3_ahead 0 = .ok (.iload_n 1, 1) := by decide +kernel
theorem dX3_ahead_1 : decode cX3_ahead 1 = .ok (.iconst 0, 1) := by decide +kernel
theorem dX3_ahead_2 : decode cX3_ahead 2 = .ok (.bipush 60, 2) := by decide +kernel
theorem dX3_ahead_4 : decode cX3_ahead 4 = .ok (.invokestatic 66, 3) := by decide +kernel
theorem dX3_ahead_7 : decode cX3_ahead 7 = .ok (.ifCond .eq 12, 3) := by decide +kernel
theorem dX3_ahead_10 : decode cX3_ahead 10 = .ok (.iload_n 2, 1) := by decide +kernel
theorem dX3_ahead_11 : decode cX3_ahead 11 = .ok (.iconst 0, 1) := by decide +kernel
theorem dX3_ahead_12 : decode cX3_ahead 12 = .ok (.iconst 3, 1) := by decide +kernel
theorem dX3_ahead_13 : decode cX3_ahead 13 = .ok (.invokestatic 66, 3) := by decide +kernel
theorem dX3_ahead_16 : decode cX3_ahead 16 = .ok (.ifCond .ne 9, 3) := by decide +kernel
theorem dX3_ahead_19 : decode cX3_ahead 19 = .ok (.aload_n 0, 1) := by decide +kernel
theorem dX3_ahead_20 : decode cX3_ahead 20 = .ok (.iconst 0, 1) := by decide +kernel
theorem dX3_ahead_21 : decode cX3_ahead 21 = .ok (.invokevirtual 52, 3) := by decide +kernel
theorem dX3_ahead_24 : decode cX3_ahead 24 = .ok (.ireturn, 1) := by decide +kernel
theorem dX3_ahead_25 : decode cX3_ahead 25 = .ok (.aload_n 0, 1) := by decide +kernel
theorem dX3_ahead_26 : decode cX3_ahead 26 = .ok (.iload_n 1, 1) := by decide +kernel
theorem dX3_ahead_27 : decode cX3_ahead 27 = .ok (.invokevirtual 124, 3) := by decide +kernel
theorem dX3_ahead_30 : decode cX3_ahead 30 = .ok (.ifCond .eq 9, 3) := by decide +kernel
theorem dX3_ahead_33 : decode cX3_ahead 33 = .ok (.aload_n 0, 1) := by decide +kernel
theorem dX3_ahead_34 : decode cX3_ahead 34 = .ok (.iconst 4, 1) := by decide +kernel
theorem dX3_ahead_35 : decode cX3_ahead 35 = .ok (.invokevirtual 52, 3) := by decide +kernel
theorem dX3_ahead_38 : decode cX3_ahead 38 = .ok (.ireturn, 1) := by decide +kernel
theorem dX3_ahead_39 : decode cX3_ahead 39 = .ok (.aload_n 0, 1) := by decide +kernel
theorem dX3_ahead_40 : decode cX3_ahead 40 = .ok (.getfield 23, 3) := by decide +kernel
theorem dX3_ahead_43 : decode cX3_ahead 43 = .ok (.aload_n 0, 1) := by decide +kernel
theorem dX3_ahead_44 : decode cX3_ahead 44 = .ok (.getfield 12, 3) := by decide +kernel
theorem dX3_ahead_47 : decode cX3_ahead 47 = .ok (.invokevirtual 165, 3) := by decide +kernel
theorem dX3_ahead_50 : decode cX3_ahead 50 = .ok (.aload_n 0, 1) := by decide +kernel
theorem dX3_ahead_51 : decode cX3_ahead 51 = .ok (.getfield 23, 3) := by decide +kernel
theorem dX3_ahead_54 : decode cX3_ahead 54 = .ok (.iload_n 1, 1) := by decide +kernel
theorem dX3_ahead_55 : decode cX3_ahead 55 = .ok (.invokevirtual 137, 3) := by decide +kernel
theorem dX3_ahead_58 : decode cX3_ahead 58 = .ok (.iload_n 2, 1) := by decide +kernel
theorem dX3_ahead_59 : decode cX3_ahead 59 = .ok (.tableswitch 69 0 2 #[25, 45, 61], 25) := by decide +kernel
theorem dX3_ahead_84 : decode cX3_ahead 84 = .ok (.aload_n 0, 1) := by decide +kernel
theorem dX3_ahead_85 : decode cX3_ahead 85 = .ok (.getfield 23, 3) := by decide +kernel
theorem dX3_ahead_88 : decode cX3_ahead 88 = .ok (.bipush 101, 2) := by decide +kernel
theorem dX3_ahead_90 : decode cX3_ahead 90 = .ok (.invokevirtual 150, 3) := by decide +kernel
theorem dX3_ahead_93 : decode cX3_ahead 93 = .ok (.aload_n 0, 1) := by decide +kernel
theorem dX3_ahead_94 : decode cX3_ahead 94 = .ok (.getfield 12, 3) := by decide +kernel
theorem dX3_ahead_97 : decode cX3_ahead 97 = .ok (.bipush 101, 2) := by decide +kernel
theorem dX3_ahead_99 : decode cX3_ahead 99 = .ok (.invokevirtual 150, 3) := by decide +kernel
theorem dX3_ahead_102 : decode cX3_ahead 102 = .ok (.isub, 1) := by decide +kernel
theorem dX3_ahead_103 : decode cX3_ahead 103 = .ok (.ireturn, 1) := by decide +kernel
theorem dX3_ahead_104 : decode cX3_ahead 104 = .ok (.aload_n 0, 1) := by decide +kernel
theorem dX3_ahead_105 : decode cX3_ahead 105 = .ok (.getfield 23, 3) := by decide +kernel
theorem dX3_ahead_108 : decode cX3_ahead 108 = .ok (.invokevirtual 134, 3) := by decide +kernel
theorem dX3_ahead_111 : decode cX3_ahead 111 = .ok (.aload_n 0, 1) := by decide +kernel
theorem dX3_ahead_112 : decode cX3_ahead 112 = .ok (.getfield 12, 3) := by decide +kernel
theorem dX3_ahead_115 : decode cX3_ahead 115 = .ok (.invokevirtual 134, 3) := by decide +kernel
theorem dX3_ahead_118 : decode cX3_ahead 118 = .ok (.isub, 1) := by decide +kernel
theorem dX3_ahead_119 : decode cX3_ahead 119 = .ok (.ireturn, 1) := by decide +kernel
theorem dX3_ahead_120 : decode cX3_ahead 120 = .ok (.aload_n 0, 1) := by decide +kernel
theorem dX3_ahead_121 : decode cX3_ahead 121 = .ok (.getfield 23, 3) := by decide +kernel
theorem dX3_ahead_124 : decode cX3_ahead 124 = .ok (.invokevirtual 169, 3) := by decide +kernel
theorem dX3_ahead_127 : decode cX3_ahead 127 = .ok (.ireturn, 1) := by decide +kernel
theorem dX3_ahead_128 : decode cX3_ahead 128 = .ok (.aload_n 0, 1) := by decide +kernel
theorem dX3_ahead_129 : decode cX3_ahead 129 = .ok (.getfield 23, 3) := by decide +kernel
theorem dX3_ahead_132 : decode cX3_ahead 132 = .ok (.invokevirtual 172, 3) := by decide +kernel
theorem dX3_ahead_135 : decode cX3_ahead 135 = .ok (.ireturn, 1) := by decide +kernel
theorem dX3_falls_0 : decode cX3_falls 0 = .ok (.aload_n 0, 1) := by decide +kernel
theorem dX3_falls_1 : decode cX3_falls 1 = .ok (.iload_n 1, 1) := by decide +kernel
theorem dX3_falls_2 : decode cX3_falls 2 = .ok (.invokevirtual 63, 3) := by decide +kernel
theorem dX3_falls_5 : decode cX3_falls 5 = .ok (.ifCond .ne 9, 3) := by decide +kernel
theorem dX3_falls_8 : decode cX3_falls 8 = .ok (.aload_n 0, 1) := by decide +kernel
theorem dX3_falls_9 : decode cX3_falls 9 = .ok (.iconst 0, 1) := by decide +kernel
theorem dX3_falls_10 : decode cX3_falls 10 = .ok (.invokevirtual 52, 3) := by decide +kernel
theorem dX3_falls_13 : decode cX3_falls 13 = .ok (.ireturn, 1) := by decide +kernel
theorem dX3_falls_14 : decode cX3_falls 14 = .ok (.aload_n 0, 1) := by decide +kernel
theorem dX3_falls_15 : decode cX3_falls 15 = .ok (.getfield 12, 3) := by decide +kernel
theorem dX3_falls_18 : decode cX3_falls 18 = .ok (.iload_n 1, 1) := by decide +kernel
theorem dX3_falls_19 : decode cX3_falls 19 = .ok (.invokevirtual 175, 3) := by decide +kernel
theorem dX3_falls_22 : decode cX3_falls 22 = .ok (.ifCond .eq 16, 3) := by decide +kernel
theorem dX3_falls_25 : decode cX3_falls 25 = .ok (.aload_n 0, 1) := by decide +kernel
theorem dX3_falls_26 : decode cX3_falls 26 = .ok (.getfield 12, 3) := by decide +kernel
theorem dX3_falls_29 : decode cX3_falls 29 = .ok (.getfield 141, 3) := by decide +kernel
theorem dX3_falls_32 : decode cX3_falls 32 = .ok (.sipush 9939, 3) := by decide +kernel
theorem dX3_falls_35 : decode cX3_falls 35 = .ok (.if_icmp .le 9, 3) := by decide +kernel
theorem dX3_falls_38 : decode cX3_falls 38 = .ok (.aload_n 0, 1) := by decide +kernel
theorem dX3_falls_39 : decode cX3_falls 39 = .ok (.iconst 4, 1) := by decide +kernel
theorem dX3_falls_40 : decode cX3_falls 40 = .ok (.invokevirtual 52, 3) := by decide +kernel
theorem dX3_falls_43 : decode cX3_falls 43 = .ok (.ireturn, 1) := by decide +kernel
theorem dX3_falls_44 : decode cX3_falls 44 = .ok (.aload_n 0, 1) := by decide +kernel
theorem dX3_falls_45 : decode cX3_falls 45 = .ok (.getfield 23, 3) := by decide +kernel
theorem dX3_falls_48 : decode cX3_falls 48 = .ok (.aload_n 0, 1) := by decide +kernel
theorem dX3_falls_49 : decode cX3_falls 49 = .ok (.getfield 12, 3) := by decide +kernel
theorem dX3_falls_52 : decode cX3_falls 52 = .ok (.invokevirtual 165, 3) := by decide +kernel
theorem dX3_falls_55 : decode cX3_falls 55 = .ok (.iconst 1, 1) := by decide +kernel
theorem dX3_falls_56 : decode cX3_falls 56 = .ok (.istore_n 2, 1) := by decide +kernel
theorem dX3_falls_57 : decode cX3_falls 57 = .ok (.iload_n 2, 1) := by decide +kernel
theorem dX3_falls_58 : decode cX3_falls 58 = .ok (.bipush 60, 2) := by decide +kernel
theorem dX3_falls_60 : decode cX3_falls 60 = .ok (.if_icmp .gt 30, 3) := by decide +kernel
theorem dX3_falls_63 : decode cX3_falls 63 = .ok (.aload_n 0, 1) := by decide +kernel
theorem dX3_falls_64 : decode cX3_falls 64 = .ok (.getfield 23, 3) := by decide +kernel
theorem dX3_falls_67 : decode cX3_falls 67 = .ok (.iconst 1, 1) := by decide +kernel
theorem dX3_falls_68 : decode cX3_falls 68 = .ok (.invokevirtual 137, 3) := by decide +kernel
theorem dX3_falls_71 : decode cX3_falls 71 = .ok (.aload_n 0, 1) := by decide +kernel
theorem dX3_falls_72 : decode cX3_falls 72 = .ok (.getfield 23, 3) := by decide +kernel
theorem dX3_falls_75 : decode cX3_falls 75 = .ok (.iload_n 1, 1) := by decide +kernel
theorem dX3_falls_76 : decode cX3_falls 76 = .ok (.invokevirtual 175, 3) := by decide +kernel
theorem dX3_falls_79 : decode cX3_falls 79 = .ok (.ifCond .ne 5, 3) := by decide +kernel
theorem dX3_falls_82 : decode cX3_falls 82 = .ok (.iload_n 2, 1) := by decide +kernel
theorem dX3_falls_83 : decode cX3_falls 83 = .ok (.ireturn, 1) := by decide +kernel
theorem dX3_falls_84 : decode cX3_falls 84 = .ok (.iinc 2 1, 3) := by decide +kernel
theorem dX3_falls_87 : decode cX3_falls 87 = .ok (.goto (-30), 3) := by decide +kernel
theorem dX3_falls_90 : decode cX3_falls 90 = .ok (.aload_n 0, 1) := by decide +kernel
theorem dX3_falls_91 : decode cX3_falls 91 = .ok (.iconst 3, 1) := by decide +kernel
theorem dX3_falls_92 : decode cX3_falls 92 = .ok (.invokevirtual 52, 3) := by decide +kernel
theorem dX3_falls_95 : decode cX3_falls 95 = .ok (.ireturn, 1) := by decide +kernel
theorem dX3_rest_0 : decode cX3_rest 0 = .ok (.aload_n 0, 1) := by decide +kernel
theorem dX3_rest_1 : decode cX3_rest 1 = .ok (.getfield 12, 3) := by decide +kernel
theorem dX3_rest_4 : decode cX3_rest 4 = .ok (.getfield 141, 3) := by decide +kernel
theorem dX3_rest_7 : decode cX3_rest 7 = .ok (.sipush 9930, 3) := by decide +kernel
theorem dX3_rest_10 : decode cX3_rest 10 = .ok (.if_icmp .le 9, 3) := by decide +kernel
theorem dX3_rest_13 : decode cX3_rest 13 = .ok (.aload_n 0, 1) := by decide +kernel
theorem dX3_rest_14 : decode cX3_rest 14 = .ok (.iconst 4, 1) := by decide +kernel
theorem dX3_rest_15 : decode cX3_rest 15 = .ok (.invokevirtual 52, 3) := by decide +kernel
theorem dX3_rest_18 : decode cX3_rest 18 = .ok (.ireturn, 1) := by decide +kernel
theorem dX3_rest_19 : decode cX3_rest 19 = .ok (.aload_n 0, 1) := by decide +kernel
theorem dX3_rest_20 : decode cX3_rest 20 = .ok (.getfield 12, 3) := by decide +kernel
theorem dX3_rest_23 : decode cX3_rest 23 = .ok (.getfield 118, 3) := by decide +kernel
theorem dX3_rest_26 : decode cX3_rest 26 = .ok (.iconst 1, 1) := by decide +kernel
theorem dX3_rest_27 : decode cX3_rest 27 = .ok (.iaload, 1) := by decide +kernel
theorem dX3_rest_28 : decode cX3_rest 28 = .ok (.istore_n 1, 1) := by decide +kernel
theorem dX3_rest_29 : decode cX3_rest 29 = .ok (.aload_n 0, 1) := by decide +kernel
theorem dX3_rest_30 : decode cX3_rest 30 = .ok (.getfield 23, 3) := by decide +kernel
theorem dX3_rest_33 : decode cX3_rest 33 = .ok (.aload_n 0, 1) := by decide +kernel
theorem dX3_rest_34 : decode cX3_rest 34 = .ok (.getfield 12, 3) := by decide +kernel
theorem dX3_rest_37 : decode cX3_rest 37 = .ok (.invokevirtual 165, 3) := by decide +kernel
theorem dX3_rest_40 : decode cX3_rest 40 = .ok (.iconst 0, 1) := by decide +kernel
theorem dX3_rest_41 : decode cX3_rest 41 = .ok (.istore_n 2, 1) := by decide +kernel
theorem dX3_rest_42 : decode cX3_rest 42 = .ok (.iconst 1, 1) := by decide +kernel
theorem dX3_rest_43 : decode cX3_rest 43 = .ok (.istore_n 3, 1) := by decide +kernel
theorem dX3_rest_44 : decode cX3_rest 44 = .ok (.iload_n 3, 1) := by decide +kernel
theorem dX3_rest_45 : decode cX3_rest 45 = .ok (.bipush 60, 2) := by decide +kernel
theorem dX3_rest_47 : decode cX3_rest 47 = .ok (.iload_n 1, 1) := by decide +kernel
theorem dX3_rest_48 : decode cX3_rest 48 = .ok (.iadd, 1) := by decide +kernel
theorem dX3_rest_49 : decode cX3_rest 49 = .ok (.if_icmp .gt 36, 3) := by decide +kernel
theorem dX3_rest_52 : decode cX3_rest 52 = .ok (.aload_n 0, 1) := by decide +kernel
theorem dX3_rest_53 : decode cX3_rest 53 = .ok (.getfield 23, 3) := by decide +kernel
theorem dX3_rest_56 : decode cX3_rest 56 = .ok (.invokevirtual 178, 3) := by decide +kernel
theorem dX3_rest_59 : decode cX3_rest 59 = .ok (.ifCond .eq 7, 3) := by decide +kernel
theorem dX3_rest_62 : decode cX3_rest 62 = .ok (.iconst 0, 1) := by decide +kernel
theorem dX3_rest_63 : decode cX3_rest 63 = .ok (.goto 6, 3) := by decide +kernel
theorem dX3_rest_66 : decode cX3_rest 66 = .ok (.iload_n 2, 1) := by decide +kernel
theorem dX3_rest_67 : decode cX3_rest 67 = .ok (.iconst 1, 1) := by decide +kernel
theorem dX3_rest_68 : decode cX3_rest 68 = .ok (.iadd, 1) := by decide +kernel
theorem dX3_rest_69 : decode cX3_rest 69 = .ok (.istore_n 2, 1) := by decide +kernel
theorem dX3_rest_70 : decode cX3_rest 70 = .ok (.iload_n 2, 1) := by decide +kernel
theorem dX3_rest_71 : decode cX3_rest 71 = .ok (.iload_n 1, 1) := by decide +kernel
theorem dX3_rest_72 : decode cX3_rest 72 = .ok (.if_icmp .lt 7, 3) := by decide +kernel
theorem dX3_rest_75 : decode cX3_rest 75 = .ok (.iload_n 3, 1) := by decide +kernel
theorem dX3_rest_76 : decode cX3_rest 76 = .ok (.iload_n 1, 1) := by decide +kernel
theorem dX3_rest_77 : decode cX3_rest 77 = .ok (.isub, 1) := by decide +kernel
theorem dX3_rest_78 : decode cX3_rest 78 = .ok (.ireturn, 1) := by decide +kernel
theorem dX3_rest_79 : decode cX3_rest 79 = .ok (.iinc 3 1, 3) := by decide +kernel
theorem dX3_rest_82 : decode cX3_rest 82 = .ok (.goto (-38), 3) := by decide +kernel
theorem dX3_rest_85 : decode cX3_rest 85 = .ok (.aload_n 0, 1) := by decide +kernel
theorem dX3_rest_86 : decode cX3_rest 86 = .ok (.iconst 3, 1) := by decide +kernel
theorem dX3_rest_87 : decode cX3_rest 87 = .ok (.invokevirtual 52, 3) := by decide +kernel
theorem dX3_rest_90 : decode cX3_rest 90 = .ok (.ireturn, 1) := by decide +kernel
theorem dX3_brings_0 : decode cX3_brings 0 = .ok (.aload_n 0, 1) := by decide +kernel
theorem dX3_brings_1 : decode cX3_brings 1 = .ok (.iload_n 1, 1) := by decide +kernel
theorem dX3_brings_2 : decode cX3_brings 2 = .ok (.invokevirtual 63, 3) := by decide +kernel
theorem dX3_brings_5 : decode cX3_brings 5 = .ok (.ifCond .eq 20, 3) := by decide +kernel
theorem dX3_brings_8 : decode cX3_brings 8 = .ok (.iload_n 2, 1) := by decide +kernel
theorem dX3_brings_9 : decode cX3_brings 9 = .ok (.invokestatic 121, 3) := by decide +kernel
theorem dX3_brings_12 : decode cX3_brings 12 = .ok (.ifCond .eq 13, 3) := by decide +kernel
theorem dX3_brings_15 : decode cX3_brings 15 = .ok (.iload_n 3, 1) := by decide +kernel
theorem dX3_brings_16 : decode cX3_brings 16 = .ok (.iconst 0, 1) := by decide +kernel
theorem dX3_brings_17 : decode cX3_brings 17 = .ok (.bipush 20, 2) := by decide +kernel
theorem dX3_brings_19 : decode cX3_brings 19 = .ok (.invokestatic 66, 3) := by decide +kernel
theorem dX3_brings_22 : decode cX3_brings 22 = .ok (.ifCond .ne 9, 3) := by decide +kernel
theorem dX3_brings_25 : decode cX3_brings 25 = .ok (.aload_n 0, 1) := by decide +kernel
theorem dX3_brings_26 : decode cX3_brings 26 = .ok (.iconst 0, 1) := by decide +kernel
theorem dX3_brings_27 : decode cX3_brings 27 = .ok (.invokevirtual 52, 3) := by decide +kernel
theorem dX3_brings_30 : decode cX3_brings 30 = .ok (.ireturn, 1) := by decide +kernel
theorem dX3_brings_31 : decode cX3_brings 31 = .ok (.aload_n 0, 1) := by decide +kernel
theorem dX3_brings_32 : decode cX3_brings 32 = .ok (.iload_n 1, 1) := by decide +kernel
theorem dX3_brings_33 : decode cX3_brings 33 = .ok (.invokevirtual 182, 3) := by decide +kernel
theorem dX3_brings_36 : decode cX3_brings 36 = .ok (.ifCond .ne 9, 3) := by decide +kernel
theorem dX3_brings_39 : decode cX3_brings 39 = .ok (.aload_n 0, 1) := by decide +kernel
theorem dX3_brings_40 : decode cX3_brings 40 = .ok (.iconst 4, 1) := by decide +kernel
theorem dX3_brings_41 : decode cX3_brings 41 = .ok (.invokevirtual 52, 3) := by decide +kernel
theorem dX3_brings_44 : decode cX3_brings 44 = .ok (.ireturn, 1) := by decide +kernel
theorem dX3_brings_45 : decode cX3_brings 45 = .ok (.aload_n 0, 1) := by decide +kernel
theorem dX3_brings_46 : decode cX3_brings 46 = .ok (.aload_n 0, 1) := by decide +kernel
theorem dX3_brings_47 : decode cX3_brings 47 = .ok (.getfield 12, 3) := by decide +kernel
theorem dX3_brings_50 : decode cX3_brings 50 = .ok (.iload_n 1, 1) := by decide +kernel
theorem dX3_brings_51 : decode cX3_brings 51 = .ok (.iload_n 2, 1) := by decide +kernel
theorem dX3_brings_52 : decode cX3_brings 52 = .ok (.iload_n 3, 1) := by decide +kernel
theorem dX3_brings_53 : decode cX3_brings 53 = .ok (.invokevirtual 185, 3) := by decide +kernel
theorem dX3_brings_56 : decode cX3_brings 56 = .ok (.aload_n 0, 1) := by decide +kernel
theorem dX3_brings_57 : decode cX3_brings 57 = .ok (.getfield 12, 3) := by decide +kernel
theorem dX3_brings_60 : decode cX3_brings 60 = .ok (.invokevirtual 127, 3) := by decide +kernel
theorem dX3_brings_63 : decode cX3_brings 63 = .ok (.isub, 1) := by decide +kernel
theorem dX3_brings_64 : decode cX3_brings 64 = .ok (.ireturn, 1) := by decide +kernel
theorem dX3_best_0 : decode cX3_best 0 = .ok (.aload_n 0, 1) := by decide +kernel
theorem dX3_best_1 : decode cX3_best 1 = .ok (.iload_n 1, 1) := by decide +kernel
theorem dX3_best_2 : decode cX3_best 2 = .ok (.invokevirtual 63, 3) := by decide +kernel
theorem dX3_best_5 : decode cX3_best 5 = .ok (.ifCond .eq 13, 3) := by decide +kernel
theorem dX3_best_8 : decode cX3_best 8 = .ok (.iload_n 2, 1) := by decide +kernel
theorem dX3_best_9 : decode cX3_best 9 = .ok (.iconst 0, 1) := by decide +kernel
theorem dX3_best_10 : decode cX3_best 10 = .ok (.bipush 20, 2) := by decide +kernel
theorem dX3_best_12 : decode cX3_best 12 = .ok (.invokestatic 66, 3) := by decide +kernel
theorem dX3_best_15 : decode cX3_best 15 = .ok (.ifCond .ne 9, 3) := by decide +kernel
theorem dX3_best_18 : decode cX3_best 18 = .ok (.aload_n 0, 1) := by decide +kernel
theorem dX3_best_19 : decode cX3_best 19 = .ok (.iconst 0, 1) := by decide +kernel
theorem dX3_best_20 : decode cX3_best 20 = .ok (.invokevirtual 52, 3) := by decide +kernel
theorem dX3_best_23 : decode cX3_best 23 = .ok (.ireturn, 1) := by decide +kernel
theorem dX3_best_24 : decode cX3_best 24 = .ok (.aload_n 0, 1) := by decide +kernel
theorem dX3_best_25 : decode cX3_best 25 = .ok (.iload_n 1, 1) := by decide +kernel
theorem dX3_best_26 : decode cX3_best 26 = .ok (.invokevirtual 182, 3) := by decide +kernel
theorem dX3_best_29 : decode cX3_best 29 = .ok (.ifCond .ne 9, 3) := by decide +kernel
theorem dX3_best_32 : decode cX3_best 32 = .ok (.aload_n 0, 1) := by decide +kernel
theorem dX3_best_33 : decode cX3_best 33 = .ok (.iconst 4, 1) := by decide +kernel
theorem dX3_best_34 : decode cX3_best 34 = .ok (.invokevirtual 52, 3) := by decide +kernel
theorem dX3_best_37 : decode cX3_best 37 = .ok (.ireturn, 1) := by decide +kernel
theorem dX3_best_38 : decode cX3_best 38 = .ok (.iconst 0, 1) := by decide +kernel
theorem dX3_best_39 : decode cX3_best 39 = .ok (.istore_n 3, 1) := by decide +kernel
theorem dX3_best_40 : decode cX3_best 40 = .ok (.aload_n 0, 1) := by decide +kernel
theorem dX3_best_41 : decode cX3_best 41 = .ok (.aload_n 0, 1) := by decide +kernel
theorem dX3_best_42 : decode cX3_best 42 = .ok (.getfield 12, 3) := by decide +kernel
theorem dX3_best_45 : decode cX3_best 45 = .ok (.iload_n 1, 1) := by decide +kernel
theorem dX3_best_46 : decode cX3_best 46 = .ok (.iconst 0, 1) := by decide +kernel
theorem dX3_best_47 : decode cX3_best 47 = .ok (.iload_n 2, 1) := by decide +kernel
theorem dX3_best_48 : decode cX3_best 48 = .ok (.invokevirtual 185, 3) := by decide +kernel
theorem dX3_best_51 : decode cX3_best 51 = .ok (.istore 4, 2) := by decide +kernel
theorem dX3_best_53 : decode cX3_best 53 = .ok (.iconst 1, 1) := by decide +kernel
theorem dX3_best_54 : decode cX3_best 54 = .ok (.istore 5, 2) := by decide +kernel
theorem dX3_best_56 : decode cX3_best 56 = .ok (.iload 5, 2) := by decide +kernel
theorem dX3_best_58 : decode cX3_best 58 = .ok (.bipush 7, 2) := by decide +kernel
theorem dX3_best_60 : decode cX3_best 60 = .ok (.if_icmp .ge 37, 3) := by decide +kernel
theorem dX3_best_63 : decode cX3_best 63 = .ok (.aload_n 0, 1) := by decide +kernel
theorem dX3_best_64 : decode cX3_best 64 = .ok (.aload_n 0, 1) := by decide +kernel
theorem dX3_best_65 : decode cX3_best 65 = .ok (.getfield 12, 3) := by decide +kernel
theorem dX3_best_68 : decode cX3_best 68 = .ok (.iload_n 1, 1) := by decide +kernel
theorem dX3_best_69 : decode cX3_best 69 = .ok (.iload 5, 2) := by decide +kernel
theorem dX3_best_71 : decode cX3_best 71 = .ok (.iload_n 2, 1) := by decide +kernel
theorem dX3_best_72 : decode cX3_best 72 = .ok (.invokevirtual 185, 3) := by decide +kernel
theorem dX3_best_75 : decode cX3_best 75 = .ok (.istore 6, 2) := by decide +kernel
theorem dX3_best_77 : decode cX3_best 77 = .ok (.iload 6, 2) := by decide +kernel
theorem dX3_best_79 : decode cX3_best 79 = .ok (.iload 4, 2) := by decide +kernel
theorem dX3_best_81 : decode cX3_best 81 = .ok (.if_icmp .le 10, 3) := by decide +kernel
theorem dX3_best_84 : decode cX3_best 84 = .ok (.iload 6, 2) := by decide +kernel
theorem dX3_best_86 : decode cX3_best 86 = .ok (.istore 4, 2) := by decide +kernel
theorem dX3_best_88 : decode cX3_best 88 = .ok (.iload 5, 2) := by decide +kernel
theorem dX3_best_90 : decode cX3_best 90 = .ok (.istore_n 3, 1) := by decide +kernel
theorem dX3_best_91 : decode cX3_best 91 = .ok (.iinc 5 1, 3) := by decide +kernel
theorem dX3_best_94 : decode cX3_best 94 = .ok (.goto (-38), 3) := by decide +kernel
theorem dX3_best_97 : decode cX3_best 97 = .ok (.iload_n 3, 1) := by decide +kernel
theorem dX3_best_98 : decode cX3_best 98 = .ok (.ireturn, 1) := by decide +kernel
theorem dX3_wait_0 : decode cX3_wait 0 = .ok (.aload_n 0, 1) := by decide +kernel
theorem dX3_wait_1 : decode cX3_wait 1 = .ok (.iload_n 1, 1) := by decide +kernel
theorem dX3_wait_2 : decode cX3_wait 2 = .ok (.invokevirtual 63, 3) := by decide +kernel
theorem dX3_wait_5 : decode cX3_wait 5 = .ok (.ifCond .eq 13, 3) := by decide +kernel
theorem dX3_wait_8 : decode cX3_wait 8 = .ok (.iload_n 2, 1) := by decide +kernel
theorem dX3_wait_9 : decode cX3_wait 9 = .ok (.iconst 0, 1) := by decide +kernel
theorem dX3_wait_10 : decode cX3_wait 10 = .ok (.bipush 20, 2) := by decide +kernel
theorem dX3_wait_12 : decode cX3_wait 12 = .ok (.invokestatic 66, 3) := by decide +kernel
theorem dX3_wait_15 : decode cX3_wait 15 = .ok (.ifCond .ne 9, 3) := by decide +kernel
theorem dX3_wait_18 : decode cX3_wait 18 = .ok (.aload_n 0, 1) := by decide +kernel
theorem dX3_wait_19 : decode cX3_wait 19 = .ok (.iconst 0, 1) := by decide +kernel
theorem dX3_wait_20 : decode cX3_wait 20 = .ok (.invokevirtual 52, 3) := by decide +kernel
theorem dX3_wait_23 : decode cX3_wait 23 = .ok (.ireturn, 1) := by decide +kernel
theorem dX3_wait_24 : decode cX3_wait 24 = .ok (.aload_n 0, 1) := by decide +kernel
theorem dX3_wait_25 : decode cX3_wait 25 = .ok (.iload_n 1, 1) := by decide +kernel
theorem dX3_wait_26 : decode cX3_wait 26 = .ok (.invokevirtual 182, 3) := by decide +kernel
theorem dX3_wait_29 : decode cX3_wait 29 = .ok (.ifCond .ne 9, 3) := by decide +kernel
theorem dX3_wait_32 : decode cX3_wait 32 = .ok (.aload_n 0, 1) := by decide +kernel
theorem dX3_wait_33 : decode cX3_wait 33 = .ok (.iconst 4, 1) := by decide +kernel
theorem dX3_wait_34 : decode cX3_wait 34 = .ok (.invokevirtual 52, 3) := by decide +kernel
theorem dX3_wait_37 : decode cX3_wait 37 = .ok (.ireturn, 1) := by decide +kernel
theorem dX3_wait_38 : decode cX3_wait 38 = .ok (.aload_n 0, 1) := by decide +kernel
theorem dX3_wait_39 : decode cX3_wait 39 = .ok (.getfield 26, 3) := by decide +kernel
theorem dX3_wait_42 : decode cX3_wait 42 = .ok (.iconst 1, 1) := by decide +kernel
theorem dX3_wait_43 : decode cX3_wait 43 = .ok (.aaload, 1) := by decide +kernel
theorem dX3_wait_44 : decode cX3_wait 44 = .ok (.astore_n 3, 1) := by decide +kernel
theorem dX3_wait_45 : decode cX3_wait 45 = .ok (.aload_n 3, 1) := by decide +kernel
theorem dX3_wait_46 : decode cX3_wait 46 = .ok (.aload_n 0, 1) := by decide +kernel
theorem dX3_wait_47 : decode cX3_wait 47 = .ok (.getfield 12, 3) := by decide +kernel
theorem dX3_wait_50 : decode cX3_wait 50 = .ok (.invokevirtual 165, 3) := by decide +kernel
theorem dX3_wait_53 : decode cX3_wait 53 = .ok (.iconst 0, 1) := by decide +kernel
theorem dX3_wait_54 : decode cX3_wait 54 = .ok (.istore 4, 2) := by decide +kernel
theorem dX3_wait_56 : decode cX3_wait 56 = .ok (.aload_n 0, 1) := by decide +kernel
theorem dX3_wait_57 : decode cX3_wait 57 = .ok (.aload_n 0, 1) := by decide +kernel
theorem dX3_wait_58 : decode cX3_wait 58 = .ok (.getfield 12, 3) := by decide +kernel
theorem dX3_wait_61 : decode cX3_wait 61 = .ok (.iload_n 1, 1) := by decide +kernel
theorem dX3_wait_62 : decode cX3_wait 62 = .ok (.iconst 0, 1) := by decide +kernel
theorem dX3_wait_63 : decode cX3_wait 63 = .ok (.iload_n 2, 1) := by decide +kernel
theorem dX3_wait_64 : decode cX3_wait 64 = .ok (.invokevirtual 185, 3) := by decide +kernel
theorem dX3_wait_67 : decode cX3_wait 67 = .ok (.istore 5, 2) := by decide +kernel
theorem dX3_wait_69 : decode cX3_wait 69 = .ok (.iconst 0, 1) := by decide +kernel
theorem dX3_wait_70 : decode cX3_wait 70 = .ok (.istore 6, 2) := by decide +kernel
theorem dX3_wait_72 : decode cX3_wait 72 = .ok (.iload 6, 2) := by decide +kernel
theorem dX3_wait_74 : decode cX3_wait 74 = .ok (.bipush 11, 2) := by decide +kernel
theorem dX3_wait_76 : decode cX3_wait 76 = .ok (.if_icmp .gt 62, 3) := by decide +kernel
theorem dX3_wait_79 : decode cX3_wait 79 = .ok (.iconst 0, 1) := by decide +kernel
theorem dX3_wait_80 : decode cX3_wait 80 = .ok (.istore 7, 2) := by decide +kernel
theorem dX3_wait_82 : decode cX3_wait 82 = .ok (.iload 7, 2) := by decide +kernel
theorem dX3_wait_84 : decode cX3_wait 84 = .ok (.bipush 7, 2) := by decide +kernel
theorem dX3_wait_86 : decode cX3_wait 86 = .ok (.if_icmp .ge 41, 3) := by decide +kernel
theorem dX3_wait_89 : decode cX3_wait 89 = .ok (.aload_n 0, 1) := by decide +kernel
theorem dX3_wait_90 : decode cX3_wait 90 = .ok (.aload_n 3, 1) := by decide +kernel
theorem dX3_wait_91 : decode cX3_wait 91 = .ok (.iload_n 1, 1) := by decide +kernel
theorem dX3_wait_92 : decode cX3_wait 92 = .ok (.iload 7, 2) := by decide +kernel
theorem dX3_wait_94 : decode cX3_wait 94 = .ok (.iload_n 2, 1) := by decide +kernel
theorem dX3_wait_95 : decode cX3_wait 95 = .ok (.invokevirtual 185, 3) := by decide +kernel
theorem dX3_wait_98 : decode cX3_wait 98 = .ok (.istore 8, 2) := by decide +kernel
theorem dX3_wait_100 : decode cX3_wait 100 = .ok (.iload 8, 2) := by decide +kernel
theorem dX3_wait_102 : decode cX3_wait 102 = .ok (.iload 5, 2) := by decide +kernel
theorem dX3_wait_104 : decode cX3_wait 104 = .ok (.if_icmp .le 17, 3) := by decide +kernel
theorem dX3_wait_107 : decode cX3_wait 107 = .ok (.iload 8, 2) := by decide +kernel
theorem dX3_wait_109 : decode cX3_wait 109 = .ok (.istore 5, 2) := by decide +kernel
theorem dX3_wait_111 : decode cX3_wait 111 = .ok (.bipush 10, 2) := by decide +kernel
theorem dX3_wait_113 : decode cX3_wait 113 = .ok (.iload 6, 2) := by decide +kernel
theorem dX3_wait_115 : decode cX3_wait 115 = .ok (.imul, 1) := by decide +kernel
theorem dX3_wait_116 : decode cX3_wait 116 = .ok (.iload 7, 2) := by decide +kernel
theorem dX3_wait_118 : decode cX3_wait 118 = .ok (.iadd, 1) := by decide +kernel
theorem dX3_wait_119 : decode cX3_wait 119 = .ok (.istore 4, 2) := by decide +kernel
theorem dX3_wait_121 : decode cX3_wait 121 = .ok (.iinc 7 1, 3) := by decide +kernel
theorem dX3_wait_124 : decode cX3_wait 124 = .ok (.goto (-42), 3) := by decide +kernel
theorem dX3_wait_127 : decode cX3_wait 127 = .ok (.aload_n 3, 1) := by decide +kernel
theorem dX3_wait_128 : decode cX3_wait 128 = .ok (.iconst 1, 1) := by decide +kernel
theorem dX3_wait_129 : decode cX3_wait 129 = .ok (.invokevirtual 137, 3) := by decide +kernel
theorem dX3_wait_132 : decode cX3_wait 132 = .ok (.iinc 6 1, 3) := by decide +kernel
theorem dX3_wait_135 : decode cX3_wait 135 = .ok (.goto (-63), 3) := by decide +kernel
theorem dX3_wait_138 : decode cX3_wait 138 = .ok (.iload 4, 2) := by decide +kernel
theorem dX3_wait_140 : decode cX3_wait 140 = .ok (.ireturn, 1) := by decide +kernel
theorem dX3_three_0 : decode cX3_three 0 = .ok (.iload_n 1, 1) := by decide +kernel
theorem dX3_three_1 : decode cX3_three 1 = .ok (.iconst 0, 1) := by decide +kernel
theorem dX3_three_2 : decode cX3_three 2 = .ok (.bipush 20, 2) := by decide +kernel
theorem dX3_three_4 : decode cX3_three 4 = .ok (.invokestatic 66, 3) := by decide +kernel
theorem dX3_three_7 : decode cX3_three 7 = .ok (.ifCond .ne 9, 3) := by decide +kernel
theorem dX3_three_10 : decode cX3_three 10 = .ok (.aload_n 0, 1) := by decide +kernel
theorem dX3_three_11 : decode cX3_three 11 = .ok (.iconst 0, 1) := by decide +kernel
theorem dX3_three_12 : decode cX3_three 12 = .ok (.invokevirtual 52, 3) := by decide +kernel
theorem dX3_three_15 : decode cX3_three 15 = .ok (.ireturn, 1) := by decide +kernel
theorem dX3_three_16 : decode cX3_three 16 = .ok (.aload_n 0, 1) := by decide +kernel
theorem dX3_three_17 : decode cX3_three 17 = .ok (.iconst 3, 1) := by decide +kernel
theorem dX3_three_18 : decode cX3_three 18 = .ok (.invokevirtual 189, 3) := by decide +kernel
theorem dX3_three_21 : decode cX3_three 21 = .ok (.ifCond .ne 9, 3) := by decide +kernel
theorem dX3_three_24 : decode cX3_three 24 = .ok (.aload_n 0, 1) := by decide +kernel
theorem dX3_three_25 : decode cX3_three 25 = .ok (.iconst 4, 1) := by decide +kernel
theorem dX3_three_26 : decode cX3_three 26 = .ok (.invokevirtual 52, 3) := by decide +kernel
theorem dX3_three_29 : decode cX3_three 29 = .ok (.ireturn, 1) := by decide +kernel
theorem dX3_three_30 : decode cX3_three 30 = .ok (.iconst 0, 1) := by decide +kernel
theorem dX3_three_31 : decode cX3_three 31 = .ok (.istore_n 2, 1) := by decide +kernel
theorem dX3_three_32 : decode cX3_three 32 = .ok (.aload_n 0, 1) := by decide +kernel
theorem dX3_three_33 : decode cX3_three 33 = .ok (.iconst 0, 1) := by decide +kernel
theorem dX3_three_34 : decode cX3_three 34 = .ok (.iload_n 1, 1) := by decide +kernel
theorem dX3_three_35 : decode cX3_three 35 = .ok (.invokevirtual 192, 3) := by decide +kernel
theorem dX3_three_38 : decode cX3_three 38 = .ok (.istore_n 3, 1) := by decide +kernel
theorem dX3_three_39 : decode cX3_three 39 = .ok (.iconst 1, 1) := by decide +kernel
theorem dX3_three_40 : decode cX3_three 40 = .ok (.istore 4, 2) := by decide +kernel
theorem dX3_three_42 : decode cX3_three 42 = .ok (.iload 4, 2) := by decide +kernel
theorem dX3_three_44 : decode cX3_three 44 = .ok (.getstatic 195, 3) := by decide +kernel
theorem dX3_three_47 : decode cX3_three 47 = .ok (.iconst 3, 1) := by decide +kernel
theorem dX3_three_48 : decode cX3_three 48 = .ok (.iaload, 1) := by decide +kernel
theorem dX3_three_49 : decode cX3_three 49 = .ok (.if_icmp .ge 30, 3) := by decide +kernel
theorem dX3_three_52 : decode cX3_three 52 = .ok (.aload_n 0, 1) := by decide +kernel
theorem dX3_three_53 : decode cX3_three 53 = .ok (.iload 4, 2) := by decide +kernel
theorem dX3_three_55 : decode cX3_three 55 = .ok (.iload_n 1, 1) := by decide +kernel
theorem dX3_three_56 : decode cX3_three 56 = .ok (.invokevirtual 192, 3) := by decide +kernel
theorem dX3_three_59 : decode cX3_three 59 = .ok (.istore 5, 2) := by decide +kernel
theorem dX3_three_61 : decode cX3_three 61 = .ok (.iload 5, 2) := by decide +kernel
theorem dX3_three_63 : decode cX3_three 63 = .ok (.iload_n 3, 1) := by decide +kernel
theorem dX3_three_64 : decode cX3_three 64 = .ok (.if_icmp .le 9, 3) := by decide +kernel
theorem dX3_three_67 : decode cX3_three 67 = .ok (.iload 5, 2) := by decide +kernel
theorem dX3_three_69 : decode cX3_three 69 = .ok (.istore_n 3, 1) := by decide +kernel
theorem dX3_three_70 : decode cX3_three 70 = .ok (.iload 4, 2) := by decide +kernel
theorem dX3_three_72 : decode cX3_three 72 = .ok (.istore_n 2, 1) := by decide +kernel
theorem dX3_three_73 : decode cX3_three 73 = .ok (.iinc 4 1, 3) := by decide +kernel
theorem dX3_three_76 : decode cX3_three 76 = .ok (.goto (-34), 3) := by decide +kernel
theorem dX3_three_79 : decode cX3_three 79 = .ok (.iload_n 2, 1) := by decide +kernel
theorem dX3_three_80 : decode cX3_three 80 = .ok (.iconst 3, 1) := by decide +kernel
theorem dX3_three_81 : decode cX3_three 81 = .ok (.iconst 1, 1) := by decide +kernel
theorem dX3_three_82 : decode cX3_three 82 = .ok (.invokestatic 198, 3) := by decide +kernel
theorem dX3_three_85 : decode cX3_three 85 = .ok (.istore 4, 2) := by decide +kernel
theorem dX3_three_87 : decode cX3_three 87 = .ok (.iload_n 2, 1) := by decide +kernel
theorem dX3_three_88 : decode cX3_three 88 = .ok (.iconst 3, 1) := by decide +kernel
theorem dX3_three_89 : decode cX3_three 89 = .ok (.iconst 2, 1) := by decide +kernel
theorem dX3_three_90 : decode cX3_three 90 = .ok (.invokestatic 198, 3) := by decide +kernel
theorem dX3_three_93 : decode cX3_three 93 = .ok (.istore 5, 2) := by decide +kernel
theorem dX3_three_95 : decode cX3_three 95 = .ok (.iload_n 2, 1) := by decide +kernel
theorem dX3_three_96 : decode cX3_three 96 = .ok (.iconst 3, 1) := by decide +kernel
theorem dX3_three_97 : decode cX3_three 97 = .ok (.iconst 3, 1) := by decide +kernel
theorem dX3_three_98 : decode cX3_three 98 = .ok (.invokestatic 198, 3) := by decide +kernel
theorem dX3_three_101 : decode cX3_three 101 = .ok (.istore 6, 2) := by decide +kernel
theorem dX3_three_103 : decode cX3_three 103 = .ok (.bipush 100, 2) := by decide +kernel
theorem dX3_three_105 : decode cX3_three 105 = .ok (.iload 4, 2) := by decide +kernel
theorem dX3_three_107 : decode cX3_three 107 = .ok (.imul, 1) := by decide +kernel
theorem dX3_three_108 : decode cX3_three 108 = .ok (.bipush 10, 2) := by decide +kernel
theorem dX3_three_110 : decode cX3_three 110 = .ok (.iload 5, 2) := by decide +kernel
theorem dX3_three_112 : decode cX3_three 112 = .ok (.imul, 1) := by decide +kernel
theorem dX3_three_113 : decode cX3_three 113 = .ok (.iadd, 1) := by decide +kernel
theorem dX3_three_114 : decode cX3_three 114 = .ok (.iload 6, 2) := by decide +kernel
theorem dX3_three_116 : decode cX3_three 116 = .ok (.iadd, 1) := by decide +kernel
theorem dX3_three_117 : decode cX3_three 117 = .ok (.ireturn, 1) := by decide +kernel
theorem dX3_threeBring_0 : decode cX3_threeBring 0 = .ok (.iload_n 1, 1) := by decide +kernel
theorem dX3_threeBring_1 : decode cX3_threeBring 1 = .ok (.iconst 0, 1) := by decide +kernel
theorem dX3_threeBring_2 : decode cX3_threeBring 2 = .ok (.bipush 20, 2) := by decide +kernel
theorem dX3_threeBring_4 : decode cX3_threeBring 4 = .ok (.invokestatic 66, 3) := by decide +kernel
theorem dX3_threeBring_7 : decode cX3_threeBring 7 = .ok (.ifCond .ne 9, 3) := by decide +kernel
theorem dX3_threeBring_10 : decode cX3_threeBring 10 = .ok (.aload_n 0, 1) := by decide +kernel
theorem dX3_threeBring_11 : decode cX3_threeBring 11 = .ok (.iconst 0, 1) := by decide +kernel
theorem dX3_threeBring_12 : decode cX3_threeBring 12 = .ok (.invokevirtual 52, 3) := by decide +kernel
theorem dX3_threeBring_15 : decode cX3_threeBring 15 = .ok (.ireturn, 1) := by decide +kernel
theorem dX3_threeBring_16 : decode cX3_threeBring 16 = .ok (.aload_n 0, 1) := by decide +kernel
theorem dX3_threeBring_17 : decode cX3_threeBring 17 = .ok (.iconst 3, 1) := by decide +kernel
theorem dX3_threeBring_18 : decode cX3_threeBring 18 = .ok (.invokevirtual 189, 3) := by decide +kernel
theorem dX3_threeBring_21 : decode cX3_threeBring 21 = .ok (.ifCond .ne 9, 3) := by decide +kernel
theorem dX3_threeBring_24 : decode cX3_threeBring 24 = .ok (.aload_n 0, 1) := by decide +kernel
theorem dX3_threeBring_25 : decode cX3_threeBring 25 = .ok (.iconst 4, 1) := by decide +kernel
theorem dX3_threeBring_26 : decode cX3_threeBring 26 = .ok (.invokevirtual 52, 3) := by decide +kernel
theorem dX3_threeBring_29 : decode cX3_threeBring 29 = .ok (.ireturn, 1) := by decide +kernel
theorem dX3_threeBring_30 : decode cX3_threeBring 30 = .ok (.aload_n 0, 1) := by decide +kernel
theorem dX3_threeBring_31 : decode cX3_threeBring 31 = .ok (.iconst 0, 1) := by decide +kernel
theorem dX3_threeBring_32 : decode cX3_threeBring 32 = .ok (.iload_n 1, 1) := by decide +kernel
theorem dX3_threeBring_33 : decode cX3_threeBring 33 = .ok (.invokevirtual 192, 3) := by decide +kernel
theorem dX3_threeBring_36 : decode cX3_threeBring 36 = .ok (.istore_n 2, 1) := by decide +kernel
theorem dX3_threeBring_37 : decode cX3_threeBring 37 = .ok (.iconst 1, 1) := by decide +kernel
theorem dX3_threeBring_38 : decode cX3_threeBring 38 = .ok (.istore_n 3, 1) := by decide +kernel
theorem dX3_threeBring_39 : decode cX3_threeBring 39 = .ok (.iload_n 3, 1) := by decide +kernel
theorem dX3_threeBring_40 : decode cX3_threeBring 40 = .ok (.getstatic 195, 3) := by decide +kernel
theorem dX3_threeBring_43 : decode cX3_threeBring 43 = .ok (.iconst 3, 1) := by decide +kernel
theorem dX3_threeBring_44 : decode cX3_threeBring 44 = .ok (.iaload, 1) := by decide +kernel
theorem dX3_threeBring_45 : decode cX3_threeBring 45 = .ok (.if_icmp .ge 20, 3) := by decide +kernel
theorem dX3_threeBring_48 : decode cX3_threeBring 48 = .ok (.iload_n 2, 1) := by decide +kernel
theorem dX3_threeBring_49 : decode cX3_threeBring 49 = .ok (.aload_n 0, 1) := by decide +kernel
theorem dX3_threeBring_50 : decode cX3_threeBring 50 = .ok (.iload_n 3, 1) := by decide +kernel
theorem dX3_threeBring_51 : decode cX3_threeBring 51 = .ok (.iload_n 1, 1) := by decide +kernel
theorem dX3_threeBring_52 : decode cX3_threeBring 52 = .ok (.invokevirtual 192, 3) := by decide +kernel
theorem dX3_threeBring_55 : decode cX3_threeBring 55 = .ok (.invokestatic 202, 3) := by decide +kernel
theorem dX3_threeBring_58 : decode cX3_threeBring 58 = .ok (.istore_n 2, 1) := by decide +kernel
theorem dX3_threeBring_59 : decode cX3_threeBring 59 = .ok (.iinc 3 1, 3) := by decide +kernel
theorem dX3_threeBring_62 : decode cX3_threeBring 62 = .ok (.goto (-23), 3) := by decide +kernel
theorem dX3_threeBring_65 : decode cX3_threeBring 65 = .ok (.iload_n 2, 1) := by decide +kernel
theorem dX3_threeBring_66 : decode cX3_threeBring 66 = .ok (.aload_n 0, 1) := by decide +kernel
theorem dX3_threeBring_67 : decode cX3_threeBring 67 = .ok (.getfield 12, 3) := by decide +kernel
theorem dX3_threeBring_70 : decode cX3_threeBring 70 = .ok (.invokevirtual 127, 3) := by decide +kernel
theorem dX3_threeBring_73 : decode cX3_threeBring 73 = .ok (.isub, 1) := by decide +kernel
theorem dX3_threeBring_74 : decode cX3_threeBring 74 = .ok (.ireturn, 1) := by decide +kernel
theorem dX3_soonest_0 : decode cX3_soonest 0 = .ok (.aload_n 0, 1) := by decide +kernel
theorem dX3_soonest_1 : decode cX3_soonest 1 = .ok (.iload_n 1, 1) := by decide +kernel
theorem dX3_soonest_2 : decode cX3_soonest 2 = .ok (.invokevirtual 63, 3) := by decide +kernel
theorem dX3_soonest_5 : decode cX3_soonest 5 = .ok (.ifCond .ne 9, 3) := by decide +kernel
theorem dX3_soonest_8 : decode cX3_soonest 8 = .ok (.aload_n 0, 1) := by decide +kernel
theorem dX3_soonest_9 : decode cX3_soonest 9 = .ok (.iconst 0, 1) := by decide +kernel
theorem dX3_soonest_10 : decode cX3_soonest 10 = .ok (.invokevirtual 52, 3) := by decide +kernel
theorem dX3_soonest_13 : decode cX3_soonest 13 = .ok (.ireturn, 1) := by decide +kernel
theorem dX3_soonest_14 : decode cX3_soonest 14 = .ok (.aload_n 0, 1) := by decide +kernel
theorem dX3_soonest_15 : decode cX3_soonest 15 = .ok (.getfield 12, 3) := by decide +kernel
theorem dX3_soonest_18 : decode cX3_soonest 18 = .ok (.getfield 141, 3) := by decide +kernel
theorem dX3_soonest_21 : decode cX3_soonest 21 = .ok (.sipush 9900, 3) := by decide +kernel
theorem dX3_soonest_24 : decode cX3_soonest 24 = .ok (.if_icmp .le 9, 3) := by decide +kernel
theorem dX3_soonest_27 : decode cX3_soonest 27 = .ok (.aload_n 0, 1) := by decide +kernel
theorem dX3_soonest_28 : decode cX3_soonest 28 = .ok (.iconst 4, 1) := by decide +kernel
theorem dX3_soonest_29 : decode cX3_soonest 29 = .ok (.invokevirtual 52, 3) := by decide +kernel
theorem dX3_soonest_32 : decode cX3_soonest 32 = .ok (.ireturn, 1) := by decide +kernel
theorem dX3_soonest_33 : decode cX3_soonest 33 = .ok (.aload_n 0, 1) := by decide +kernel
theorem dX3_soonest_34 : decode cX3_soonest 34 = .ok (.iload_n 1, 1) := by decide +kernel
theorem dX3_soonest_35 : decode cX3_soonest 35 = .ok (.invokevirtual 207, 3) := by decide +kernel
theorem dX3_soonest_38 : decode cX3_soonest 38 = .ok (.istore_n 2, 1) := by decide +kernel
theorem dX3_soonest_39 : decode cX3_soonest 39 = .ok (.iload_n 2, 1) := by decide +kernel
theorem dX3_soonest_40 : decode cX3_soonest 40 = .ok (.ifCond .ge 11, 3) := by decide +kernel
theorem dX3_soonest_43 : decode cX3_soonest 43 = .ok (.aload_n 0, 1) := by decide +kernel
theorem dX3_soonest_44 : decode cX3_soonest 44 = .ok (.iconst 3, 1) := by decide +kernel
theorem dX3_soonest_45 : decode cX3_soonest 45 = .ok (.invokevirtual 52, 3) := by decide +kernel
theorem dX3_soonest_48 : decode cX3_soonest 48 = .ok (.goto 10, 3) := by decide +kernel
theorem dX3_soonest_51 : decode cX3_soonest 51 = .ok (.iload_n 2, 1) := by decide +kernel
theorem dX3_soonest_52 : decode cX3_soonest 52 = .ok (.getstatic 195, 3) := by decide +kernel
theorem dX3_soonest_55 : decode cX3_soonest 55 = .ok (.iconst 3, 1) := by decide +kernel
theorem dX3_soonest_56 : decode cX3_soonest 56 = .ok (.iaload, 1) := by decide +kernel
theorem dX3_soonest_57 : decode cX3_soonest 57 = .ok (.idiv, 1) := by decide +kernel
theorem dX3_soonest_58 : decode cX3_soonest 58 = .ok (.ireturn, 1) := by decide +kernel
theorem dX3_firstFor_0 : decode cX3_firstFor 0 = .ok (.aload_n 0, 1) := by decide +kernel
theorem dX3_firstFor_1 : decode cX3_firstFor 1 = .ok (.iload_n 1, 1) := by decide +kernel
theorem dX3_firstFor_2 : decode cX3_firstFor 2 = .ok (.invokevirtual 63, 3) := by decide +kernel
theorem dX3_firstFor_5 : decode cX3_firstFor 5 = .ok (.ifCond .ne 9, 3) := by decide +kernel
theorem dX3_firstFor_8 : decode cX3_firstFor 8 = .ok (.aload_n 0, 1) := by decide +kernel
theorem dX3_firstFor_9 : decode cX3_firstFor 9 = .ok (.iconst 0, 1) := by decide +kernel
theorem dX3_firstFor_10 : decode cX3_firstFor 10 = .ok (.invokevirtual 52, 3) := by decide +kernel
theorem dX3_firstFor_13 : decode cX3_firstFor 13 = .ok (.ireturn, 1) := by decide +kernel
theorem dX3_firstFor_14 : decode cX3_firstFor 14 = .ok (.aload_n 0, 1) := by decide +kernel
theorem dX3_firstFor_15 : decode cX3_firstFor 15 = .ok (.getfield 12, 3) := by decide +kernel
theorem dX3_firstFor_18 : decode cX3_firstFor 18 = .ok (.getfield 141, 3) := by decide +kernel
theorem dX3_firstFor_21 : decode cX3_firstFor 21 = .ok (.sipush 9900, 3) := by decide +kernel
theorem dX3_firstFor_24 : decode cX3_firstFor 24 = .ok (.if_icmp .le 9, 3) := by decide +kernel
theorem dX3_firstFor_27 : decode cX3_firstFor 27 = .ok (.aload_n 0, 1) := by decide +kernel
theorem dX3_firstFor_28 : decode cX3_firstFor 28 = .ok (.iconst 4, 1) := by decide +kernel
theorem dX3_firstFor_29 : decode cX3_firstFor 29 = .ok (.invokevirtual 52, 3) := by decide +kernel
theorem dX3_firstFor_32 : decode cX3_firstFor 32 = .ok (.ireturn, 1) := by decide +kernel
theorem dX3_firstFor_33 : decode cX3_firstFor 33 = .ok (.aload_n 0, 1) := by decide +kernel
theorem dX3_firstFor_34 : decode cX3_firstFor 34 = .ok (.iload_n 1, 1) := by decide +kernel
theorem dX3_firstFor_35 : decode cX3_firstFor 35 = .ok (.invokevirtual 207, 3) := by decide +kernel
theorem dX3_firstFor_38 : decode cX3_firstFor 38 = .ok (.istore_n 2, 1) := by decide +kernel
theorem dX3_firstFor_39 : decode cX3_firstFor 39 = .ok (.iload_n 2, 1) := by decide +kernel
theorem dX3_firstFor_40 : decode cX3_firstFor 40 = .ok (.getstatic 195, 3) := by decide +kernel
theorem dX3_firstFor_43 : decode cX3_firstFor 43 = .ok (.iconst 3, 1) := by decide +kernel
theorem dX3_firstFor_44 : decode cX3_firstFor 44 = .ok (.iaload, 1) := by decide +kernel
theorem dX3_firstFor_45 : decode cX3_firstFor 45 = .ok (.if_icmp .ge 9, 3) := by decide +kernel
theorem dX3_firstFor_48 : decode cX3_firstFor 48 = .ok (.aload_n 0, 1) := by decide +kernel
theorem dX3_firstFor_49 : decode cX3_firstFor 49 = .ok (.iconst 3, 1) := by decide +kernel
theorem dX3_firstFor_50 : decode cX3_firstFor 50 = .ok (.invokevirtual 52, 3) := by decide +kernel
theorem dX3_firstFor_53 : decode cX3_firstFor 53 = .ok (.ireturn, 1) := by decide +kernel
theorem dX3_firstFor_54 : decode cX3_firstFor 54 = .ok (.iload_n 2, 1) := by decide +kernel
theorem dX3_firstFor_55 : decode cX3_firstFor 55 = .ok (.getstatic 195, 3) := by decide +kernel
theorem dX3_firstFor_58 : decode cX3_firstFor 58 = .ok (.iconst 3, 1) := by decide +kernel
theorem dX3_firstFor_59 : decode cX3_firstFor 59 = .ok (.iaload, 1) := by decide +kernel
theorem dX3_firstFor_60 : decode cX3_firstFor 60 = .ok (.idiv, 1) := by decide +kernel
theorem dX3_firstFor_61 : decode cX3_firstFor 61 = .ok (.istore_n 3, 1) := by decide +kernel
theorem dX3_firstFor_62 : decode cX3_firstFor 62 = .ok (.iload_n 2, 1) := by decide +kernel
theorem dX3_firstFor_63 : decode cX3_firstFor 63 = .ok (.getstatic 195, 3) := by decide +kernel
theorem dX3_firstFor_66 : decode cX3_firstFor 66 = .ok (.iconst 3, 1) := by decide +kernel
theorem dX3_firstFor_67 : decode cX3_firstFor 67 = .ok (.iaload, 1) := by decide +kernel
theorem dX3_firstFor_68 : decode cX3_firstFor 68 = .ok (.irem, 1) := by decide +kernel
theorem dX3_firstFor_69 : decode cX3_firstFor 69 = .ok (.istore 4, 2) := by decide +kernel
theorem dX3_firstFor_71 : decode cX3_firstFor 71 = .ok (.iload 4, 2) := by decide +kernel
theorem dX3_firstFor_73 : decode cX3_firstFor 73 = .ok (.iload_n 3, 1) := by decide +kernel
theorem dX3_firstFor_74 : decode cX3_firstFor 74 = .ok (.iconst 1, 1) := by decide +kernel
theorem dX3_firstFor_75 : decode cX3_firstFor 75 = .ok (.invokestatic 198, 3) := by decide +kernel
theorem dX3_firstFor_78 : decode cX3_firstFor 78 = .ok (.ireturn, 1) := by decide +kernel
theorem dX3_ways_0 : decode cX3_ways 0 = .ok (.iload_n 1, 1) := by decide +kernel
theorem dX3_ways_1 : decode cX3_ways 1 = .ok (.iconst 0, 1) := by decide +kernel
theorem dX3_ways_2 : decode cX3_ways 2 = .ok (.iconst 3, 1) := by decide +kernel
theorem dX3_ways_3 : decode cX3_ways 3 = .ok (.invokestatic 66, 3) := by decide +kernel
theorem dX3_ways_6 : decode cX3_ways 6 = .ok (.ifCond .eq 15, 3) := by decide +kernel
theorem dX3_ways_9 : decode cX3_ways 9 = .ok (.iload_n 2, 1) := by decide +kernel
theorem dX3_ways_10 : decode cX3_ways 10 = .ok (.bipush (-99), 2) := by decide +kernel
theorem dX3_ways_12 : decode cX3_ways 12 = .ok (.sipush 999, 3) := by decide +kernel
theorem dX3_ways_15 : decode cX3_ways 15 = .ok (.invokestatic 66, 3) := by decide +kernel
theorem dX3_ways_18 : decode cX3_ways 18 = .ok (.ifCond .ne 10, 3) := by decide +kernel
theorem dX3_ways_21 : decode cX3_ways 21 = .ok (.aload_n 0, 1) := by decide +kernel
theorem dX3_ways_22 : decode cX3_ways 22 = .ok (.iconst 0, 1) := by decide +kernel
theorem dX3_ways_23 : decode cX3_ways 23 = .ok (.invokevirtual 52, 3) := by decide +kernel
theorem dX3_ways_26 : decode cX3_ways 26 = .ok (.i2l, 1) := by decide +kernel
theorem dX3_ways_27 : decode cX3_ways 27 = .ok (.lreturn, 1) := by decide +kernel
theorem dX3_ways_28 : decode cX3_ways 28 = .ok (.aload_n 0, 1) := by decide +kernel
theorem dX3_ways_29 : decode cX3_ways 29 = .ok (.iload_n 1, 1) := by decide +kernel
theorem dX3_ways_30 : decode cX3_ways 30 = .ok (.invokevirtual 189, 3) := by decide +kernel
theorem dX3_ways_33 : decode cX3_ways 33 = .ok (.ifCond .ne 10, 3) := by decide +kernel
theorem dX3_ways_36 : decode cX3_ways 36 = .ok (.aload_n 0, 1) := by decide +kernel
theorem dX3_ways_37 : decode cX3_ways 37 = .ok (.iconst 4, 1) := by decide +kernel
theorem dX3_ways_38 : decode cX3_ways 38 = .ok (.invokevirtual 52, 3) := by decide +kernel
theorem dX3_ways_41 : decode cX3_ways 41 = .ok (.i2l, 1) := by decide +kernel
theorem dX3_ways_42 : decode cX3_ways 42 = .ok (.lreturn, 1) := by decide +kernel
theorem dX3_ways_43 : decode cX3_ways 43 = .ok (.iconst 0, 1) := by decide +kernel
theorem dX3_ways_44 : decode cX3_ways 44 = .ok (.istore_n 3, 1) := by decide +kernel
theorem dX3_ways_45 : decode cX3_ways 45 = .ok (.iconst 0, 1) := by decide +kernel
theorem dX3_ways_46 : decode cX3_ways 46 = .ok (.istore 4, 2) := by decide +kernel
theorem dX3_ways_48 : decode cX3_ways 48 = .ok (.iload 4, 2) := by decide +kernel
theorem dX3_ways_50 : decode cX3_ways 50 = .ok (.getstatic 195, 3) := by decide +kernel
theorem dX3_ways_53 : decode cX3_ways 53 = .ok (.iload_n 1, 1) := by decide +kernel
theorem dX3_ways_54 : decode cX3_ways 54 = .ok (.iaload, 1) := by decide +kernel
theorem dX3_ways_55 : decode cX3_ways 55 = .ok (.if_icmp .ge 26, 3) := by decide +kernel
theorem dX3_ways_58 : decode cX3_ways 58 = .ok (.aload_n 0, 1) := by decide +kernel
theorem dX3_ways_59 : decode cX3_ways 59 = .ok (.iload 4, 2) := by decide +kernel
theorem dX3_ways_61 : decode cX3_ways 61 = .ok (.iload_n 1, 1) := by decide +kernel
theorem dX3_ways_62 : decode cX3_ways 62 = .ok (.invokevirtual 210, 3) := by decide +kernel
theorem dX3_ways_65 : decode cX3_ways 65 = .ok (.invokevirtual 127, 3) := by decide +kernel
theorem dX3_ways_68 : decode cX3_ways 68 = .ok (.iload_n 2, 1) := by decide +kernel
theorem dX3_ways_69 : decode cX3_ways 69 = .ok (.if_icmp .lt 6, 3) := by decide +kernel
theorem dX3_ways_72 : decode cX3_ways 72 = .ok (.iinc 3 1, 3) := by decide +kernel
theorem dX3_ways_75 : decode cX3_ways 75 = .ok (.iinc 4 1, 3) := by decide +kernel
theorem dX3_ways_78 : decode cX3_ways 78 = .ok (.goto (-30), 3) := by decide +kernel
theorem dX3_ways_81 : decode cX3_ways 81 = .ok (.iload_n 3, 1) := by decide +kernel
theorem dX3_ways_82 : decode cX3_ways 82 = .ok (.i2l, 1) := by decide +kernel
theorem dX3_ways_83 : decode cX3_ways 83 = .ok (.lreturn, 1) := by decide +kernel
theorem dX3_total_0 : decode cX3_total 0 = .ok (.iload_n 1, 1) := by decide +kernel
theorem dX3_total_1 : decode cX3_total 1 = .ok (.iconst 0, 1) := by decide +kernel
theorem dX3_total_2 : decode cX3_total 2 = .ok (.iconst 3, 1) := by decide +kernel
theorem dX3_total_3 : decode cX3_total 3 = .ok (.invokestatic 66, 3) := by decide +kernel
theorem dX3_total_6 : decode cX3_total 6 = .ok (.ifCond .ne 10, 3) := by decide +kernel
theorem dX3_total_9 : decode cX3_total 9 = .ok (.aload_n 0, 1) := by decide +kernel
theorem dX3_total_10 : decode cX3_total 10 = .ok (.iconst 0, 1) := by decide +kernel
theorem dX3_total_11 : decode cX3_total 11 = .ok (.invokevirtual 52, 3) := by decide +kernel
theorem dX3_total_14 : decode cX3_total 14 = .ok (.i2l, 1) := by decide +kernel
theorem dX3_total_15 : decode cX3_total 15 = .ok (.lreturn, 1) := by decide +kernel
theorem dX3_total_16 : decode cX3_total 16 = .ok (.aload_n 0, 1) := by decide +kernel
theorem dX3_total_17 : decode cX3_total 17 = .ok (.iload_n 1, 1) := by decide +kernel
theorem dX3_total_18 : decode cX3_total 18 = .ok (.invokevirtual 189, 3) := by decide +kernel
theorem dX3_total_21 : decode cX3_total 21 = .ok (.ifCond .ne 10, 3) := by decide +kernel
theorem dX3_total_24 : decode cX3_total 24 = .ok (.aload_n 0, 1) := by decide +kernel
theorem dX3_total_25 : decode cX3_total 25 = .ok (.iconst 4, 1) := by decide +kernel
theorem dX3_total_26 : decode cX3_total 26 = .ok (.invokevirtual 52, 3) := by decide +kernel
theorem dX3_total_29 : decode cX3_total 29 = .ok (.i2l, 1) := by decide +kernel
theorem dX3_total_30 : decode cX3_total 30 = .ok (.lreturn, 1) := by decide +kernel
theorem dX3_total_31 : decode cX3_total 31 = .ok (.aload_n 0, 1) := by decide +kernel
theorem dX3_total_32 : decode cX3_total 32 = .ok (.getfield 12, 3) := by decide +kernel
theorem dX3_total_35 : decode cX3_total 35 = .ok (.invokevirtual 127, 3) := by decide +kernel
theorem dX3_total_38 : decode cX3_total 38 = .ok (.istore_n 2, 1) := by decide +kernel
theorem dX3_total_39 : decode cX3_total 39 = .ok (.lconst 0, 1) := by decide +kernel
theorem dX3_total_40 : decode cX3_total 40 = .ok (.lstore_n 3, 1) := by decide +kernel
theorem dX3_total_41 : decode cX3_total 41 = .ok (.iconst 0, 1) := by decide +kernel
theorem dX3_total_42 : decode cX3_total 42 = .ok (.istore 5, 2) := by decide +kernel
theorem dX3_total_44 : decode cX3_total 44 = .ok (.iload 5, 2) := by decide +kernel
theorem dX3_total_46 : decode cX3_total 46 = .ok (.getstatic 195, 3) := by decide +kernel
theorem dX3_total_49 : decode cX3_total 49 = .ok (.iload_n 1, 1) := by decide +kernel
theorem dX3_total_50 : decode cX3_total 50 = .ok (.iaload, 1) := by decide +kernel
theorem dX3_total_51 : decode cX3_total 51 = .ok (.if_icmp .ge 25, 3) := by decide +kernel
theorem dX3_total_54 : decode cX3_total 54 = .ok (.lload_n 3, 1) := by decide +kernel
theorem dX3_total_55 : decode cX3_total 55 = .ok (.aload_n 0, 1) := by decide +kernel
theorem dX3_total_56 : decode cX3_total 56 = .ok (.iload 5, 2) := by decide +kernel
theorem dX3_total_58 : decode cX3_total 58 = .ok (.iload_n 1, 1) := by decide +kernel
theorem dX3_total_59 : decode cX3_total 59 = .ok (.invokevirtual 210, 3) := by decide +kernel
theorem dX3_total_62 : decode cX3_total 62 = .ok (.invokevirtual 127, 3) := by decide +kernel
theorem dX3_total_65 : decode cX3_total 65 = .ok (.iload_n 2, 1) := by decide +kernel
theorem dX3_total_66 : decode cX3_total 66 = .ok (.isub, 1) := by decide +kernel
theorem dX3_total_67 : decode cX3_total 67 = .ok (.i2l, 1) := by decide +kernel
theorem dX3_total_68 : decode cX3_total 68 = .ok (.ladd, 1) := by decide +kernel
theorem dX3_total_69 : decode cX3_total 69 = .ok (.lstore_n 3, 1) := by decide +kernel
theorem dX3_total_70 : decode cX3_total 70 = .ok (.iinc 5 1, 3) := by decide +kernel
theorem dX3_total_73 : decode cX3_total 73 = .ok (.goto (-29), 3) := by decide +kernel
theorem dX3_total_76 : decode cX3_total 76 = .ok (.lload_n 3, 1) := by decide +kernel
theorem dX3_total_77 : decode cX3_total 77 = .ok (.lreturn, 1) := by decide +kernel
theorem dX3_luck_0 : decode cX3_luck 0 = .ok (.aload_n 0, 1) := by decide +kernel
theorem dX3_luck_1 : decode cX3_luck 1 = .ok (.iload_n 1, 1) := by decide +kernel
theorem dX3_luck_2 : decode cX3_luck 2 = .ok (.invokevirtual 63, 3) := by decide +kernel
theorem dX3_luck_5 : decode cX3_luck 5 = .ok (.ifCond .eq 12, 3) := by decide +kernel
theorem dX3_luck_8 : decode cX3_luck 8 = .ok (.iload_n 2, 1) := by decide +kernel
theorem dX3_luck_9 : decode cX3_luck 9 = .ok (.iconst 0, 1) := by decide +kernel
theorem dX3_luck_10 : decode cX3_luck 10 = .ok (.iconst 3, 1) := by decide +kernel
theorem dX3_luck_11 : decode cX3_luck 11 = .ok (.invokestatic 66, 3) := by decide +kernel
theorem dX3_luck_14 : decode cX3_luck 14 = .ok (.ifCond .ne 10, 3) := by decide +kernel
theorem dX3_luck_17 : decode cX3_luck 17 = .ok (.aload_n 0, 1) := by decide +kernel
theorem dX3_luck_18 : decode cX3_luck 18 = .ok (.iconst 0, 1) := by decide +kernel
theorem dX3_luck_19 : decode cX3_luck 19 = .ok (.invokevirtual 52, 3) := by decide +kernel
theorem dX3_luck_22 : decode cX3_luck 22 = .ok (.i2l, 1) := by decide +kernel
theorem dX3_luck_23 : decode cX3_luck 23 = .ok (.lreturn, 1) := by decide +kernel
theorem dX3_luck_24 : decode cX3_luck 24 = .ok (.aload_n 0, 1) := by decide +kernel
theorem dX3_luck_25 : decode cX3_luck 25 = .ok (.iload_n 2, 1) := by decide +kernel
theorem dX3_luck_26 : decode cX3_luck 26 = .ok (.invokevirtual 189, 3) := by decide +kernel
theorem dX3_luck_29 : decode cX3_luck 29 = .ok (.ifCond .ne 10, 3) := by decide +kernel
theorem dX3_luck_32 : decode cX3_luck 32 = .ok (.aload_n 0, 1) := by decide +kernel
theorem dX3_luck_33 : decode cX3_luck 33 = .ok (.iconst 4, 1) := by decide +kernel
theorem dX3_luck_34 : decode cX3_luck 34 = .ok (.invokevirtual 52, 3) := by decide +kernel
theorem dX3_luck_37 : decode cX3_luck 37 = .ok (.i2l, 1) := by decide +kernel
theorem dX3_luck_38 : decode cX3_luck 38 = .ok (.lreturn, 1) := by decide +kernel
theorem dX3_luck_39 : decode cX3_luck 39 = .ok (.iconst 0, 1) := by decide +kernel
theorem dX3_luck_40 : decode cX3_luck 40 = .ok (.istore_n 3, 1) := by decide +kernel
theorem dX3_luck_41 : decode cX3_luck 41 = .ok (.iconst 0, 1) := by decide +kernel
theorem dX3_luck_42 : decode cX3_luck 42 = .ok (.istore 4, 2) := by decide +kernel
theorem dX3_luck_44 : decode cX3_luck 44 = .ok (.iload 4, 2) := by decide +kernel
theorem dX3_luck_46 : decode cX3_luck 46 = .ok (.getstatic 195, 3) := by decide +kernel
theorem dX3_luck_49 : decode cX3_luck 49 = .ok (.iload_n 2, 1) := by decide +kernel
theorem dX3_luck_50 : decode cX3_luck 50 = .ok (.iaload, 1) := by decide +kernel
theorem dX3_luck_51 : decode cX3_luck 51 = .ok (.if_icmp .ge 29, 3) := by decide +kernel
theorem dX3_luck_54 : decode cX3_luck 54 = .ok (.aload_n 0, 1) := by decide +kernel
theorem dX3_luck_55 : decode cX3_luck 55 = .ok (.iload 4, 2) := by decide +kernel
theorem dX3_luck_57 : decode cX3_luck 57 = .ok (.iload_n 2, 1) := by decide +kernel
theorem dX3_luck_58 : decode cX3_luck 58 = .ok (.invokevirtual 210, 3) := by decide +kernel
theorem dX3_luck_61 : decode cX3_luck 61 = .ok (.getfield 92, 3) := by decide +kernel
theorem dX3_luck_64 : decode cX3_luck 64 = .ok (.iload_n 1, 1) := by decide +kernel
theorem dX3_luck_65 : decode cX3_luck 65 = .ok (.iaload, 1) := by decide +kernel
theorem dX3_luck_66 : decode cX3_luck 66 = .ok (.bipush 101, 2) := by decide +kernel
theorem dX3_luck_68 : decode cX3_luck 68 = .ok (.if_icmp .ne 6, 3) := by decide +kernel
theorem dX3_luck_71 : decode cX3_luck 71 = .ok (.iinc 3 1, 3) := by decide +kernel
theorem dX3_luck_74 : decode cX3_luck 74 = .ok (.iinc 4 1, 3) := by decide +kernel
theorem dX3_luck_77 : decode cX3_luck 77 = .ok (.goto (-33), 3) := by decide +kernel
theorem dX3_luck_80 : decode cX3_luck 80 = .ok (.iload_n 3, 1) := by decide +kernel
theorem dX3_luck_81 : decode cX3_luck 81 = .ok (.i2l, 1) := by decide +kernel
theorem dX3_luck_82 : decode cX3_luck 82 = .ok (.lreturn, 1) := by decide +kernel
theorem dX3_play_0 : decode cX3_play 0 = .ok (.iload_n 1, 1) := by decide +kernel
theorem dX3_play_1 : decode cX3_play 1 = .ok (.iconst 1, 1) := by decide +kernel
theorem dX3_play_2 : decode cX3_play 2 = .ok (.bipush 12, 2) := by decide +kernel
theorem dX3_play_4 : decode cX3_play 4 = .ok (.invokestatic 66, 3) := by decide +kernel
theorem dX3_play_7 : decode cX3_play 7 = .ok (.ifCond .ne 9, 3) := by decide +kernel
theorem dX3_play_10 : decode cX3_play 10 = .ok (.aload_n 0, 1) := by decide +kernel
theorem dX3_play_11 : decode cX3_play 11 = .ok (.iconst 0, 1) := by decide +kernel
theorem dX3_play_12 : decode cX3_play 12 = .ok (.invokevirtual 52, 3) := by decide +kernel
theorem dX3_play_15 : decode cX3_play 15 = .ok (.ireturn, 1) := by decide +kernel
theorem dX3_play_16 : decode cX3_play 16 = .ok (.aload_n 0, 1) := by decide +kernel
theorem dX3_play_17 : decode cX3_play 17 = .ok (.iload_n 1, 1) := by decide +kernel
theorem dX3_play_18 : decode cX3_play 18 = .ok (.invokevirtual 189, 3) := by decide +kernel
theorem dX3_play_21 : decode cX3_play 21 = .ok (.ifCond .ne 9, 3) := by decide +kernel
theorem dX3_play_24 : decode cX3_play 24 = .ok (.aload_n 0, 1) := by decide +kernel
theorem dX3_play_25 : decode cX3_play 25 = .ok (.iconst 4, 1) := by decide +kernel
theorem dX3_play_26 : decode cX3_play 26 = .ok (.invokevirtual 52, 3) := by decide +kernel
theorem dX3_play_29 : decode cX3_play 29 = .ok (.ireturn, 1) := by decide +kernel
theorem dX3_play_30 : decode cX3_play 30 = .ok (.aload_n 0, 1) := by decide +kernel
theorem dX3_play_31 : decode cX3_play 31 = .ok (.getfield 12, 3) := by decide +kernel
theorem dX3_play_34 : decode cX3_play 34 = .ok (.invokevirtual 127, 3) := by decide +kernel
theorem dX3_play_37 : decode cX3_play 37 = .ok (.istore_n 2, 1) := by decide +kernel
theorem dX3_play_38 : decode cX3_play 38 = .ok (.iconst 0, 1) := by decide +kernel
theorem dX3_play_39 : decode cX3_play 39 = .ok (.istore_n 3, 1) := by decide +kernel
theorem dX3_play_40 : decode cX3_play 40 = .ok (.iload_n 3, 1) := by decide +kernel
theorem dX3_play_41 : decode cX3_play 41 = .ok (.iload_n 1, 1) := by decide +kernel
theorem dX3_play_42 : decode cX3_play 42 = .ok (.if_icmp .ge 33, 3) := by decide +kernel
theorem dX3_play_45 : decode cX3_play 45 = .ok (.aload_n 0, 1) := by decide +kernel
theorem dX3_play_46 : decode cX3_play 46 = .ok (.getfield 12, 3) := by decide +kernel
theorem dX3_play_49 : decode cX3_play 49 = .ok (.aload_n 0, 1) := by decide +kernel
theorem dX3_play_50 : decode cX3_play 50 = .ok (.getfield 12, 3) := by decide +kernel
theorem dX3_play_53 : decode cX3_play 53 = .ok (.invokevirtual 214, 3) := by decide +kernel
theorem dX3_play_56 : decode cX3_play 56 = .ok (.aload_n 0, 1) := by decide +kernel
theorem dX3_play_57 : decode cX3_play 57 = .ok (.getfield 12, 3) := by decide +kernel
theorem dX3_play_60 : decode cX3_play 60 = .ok (.invokevirtual 217, 3) := by decide +kernel
theorem dX3_play_63 : decode cX3_play 63 = .ok (.bipush 7, 2) := by decide +kernel
theorem dX3_play_65 : decode cX3_play 65 = .ok (.irem, 1) := by decide +kernel
theorem dX3_play_66 : decode cX3_play 66 = .ok (.invokevirtual 131, 3) := by decide +kernel
theorem dX3_play_69 : decode cX3_play 69 = .ok (.iinc 3 1, 3) := by decide +kernel
theorem dX3_play_72 : decode cX3_play 72 = .ok (.goto (-32), 3) := by decide +kernel
theorem dX3_play_75 : decode cX3_play 75 = .ok (.aload_n 0, 1) := by decide +kernel
theorem dX3_play_76 : decode cX3_play 76 = .ok (.getfield 12, 3) := by decide +kernel
theorem dX3_play_79 : decode cX3_play 79 = .ok (.invokevirtual 127, 3) := by decide +kernel
theorem dX3_play_82 : decode cX3_play 82 = .ok (.iload_n 2, 1) := by decide +kernel
theorem dX3_play_83 : decode cX3_play 83 = .ok (.isub, 1) := by decide +kernel
theorem dX3_play_84 : decode cX3_play 84 = .ok (.ireturn, 1) := by decide +kernel
theorem dX3_jolt_0 : decode cX3_jolt 0 = .ok (.aload_n 0, 1) := by decide +kernel
theorem dX3_jolt_1 : decode cX3_jolt 1 = .ok (.getfield 12, 3) := by decide +kernel
theorem dX3_jolt_4 : decode cX3_jolt 4 = .ok (.invokevirtual 220, 3) := by decide +kernel
theorem dX3_jolt_7 : decode cX3_jolt 7 = .ok (.ireturn, 1) := by decide +kernel
theorem dX3_jolted_0 : decode cX3_jolted 0 = .ok (.aload_n 0, 1) := by decide +kernel
theorem dX3_jolted_1 : decode cX3_jolted 1 = .ok (.getfield 23, 3) := by decide +kernel
theorem dX3_jolted_4 : decode cX3_jolted 4 = .ok (.aload_n 0, 1) := by decide +kernel
theorem dX3_jolted_5 : decode cX3_jolted 5 = .ok (.getfield 12, 3) := by decide +kernel
theorem dX3_jolted_8 : decode cX3_jolted 8 = .ok (.invokevirtual 165, 3) := by decide +kernel
theorem dX3_jolted_11 : decode cX3_jolted 11 = .ok (.aload_n 0, 1) := by decide +kernel
theorem dX3_jolted_12 : decode cX3_jolted 12 = .ok (.getfield 23, 3) := by decide +kernel
theorem dX3_jolted_15 : decode cX3_jolted 15 = .ok (.invokevirtual 220, 3) := by decide +kernel
theorem dX3_jolted_18 : decode cX3_jolted 18 = .ok (.pop, 1) := by decide +kernel
theorem dX3_jolted_19 : decode cX3_jolted 19 = .ok (.aload_n 0, 1) := by decide +kernel
theorem dX3_jolted_20 : decode cX3_jolted 20 = .ok (.getfield 23, 3) := by decide +kernel
theorem dX3_jolted_23 : decode cX3_jolted 23 = .ok (.bipush 101, 2) := by decide +kernel
theorem dX3_jolted_25 : decode cX3_jolted 25 = .ok (.invokevirtual 150, 3) := by decide +kernel
theorem dX3_jolted_28 : decode cX3_jolted 28 = .ok (.aload_n 0, 1) := by decide +kernel
theorem dX3_jolted_29 : decode cX3_jolted 29 = .ok (.getfield 12, 3) := by decide +kernel
theorem dX3_jolted_32 : decode cX3_jolted 32 = .ok (.bipush 101, 2) := by decide +kernel
theorem dX3_jolted_34 : decode cX3_jolted 34 = .ok (.invokevirtual 150, 3) := by decide +kernel
theorem dX3_jolted_37 : decode cX3_jolted 37 = .ok (.isub, 1) := by decide +kernel
theorem dX3_jolted_38 : decode cX3_jolted 38 = .ok (.ireturn, 1) := by decide +kernel
theorem dX3_stroke_0 : decode cX3_stroke 0 = .ok (.iload_n 1, 1) := by decide +kernel
theorem dX3_stroke_1 : decode cX3_stroke 1 = .ok (.iconst 1, 1) := by decide +kernel
theorem dX3_stroke_2 : decode cX3_stroke 2 = .ok (.bipush 60, 2) := by decide +kernel
theorem dX3_stroke_4 : decode cX3_stroke 4 = .ok (.invokestatic 66, 3) := by decide +kernel
theorem dX3_stroke_7 : decode cX3_stroke 7 = .ok (.ifCond .ne 9, 3) := by decide +kernel
theorem dX3_stroke_10 : decode cX3_stroke 10 = .ok (.aload_n 0, 1) := by decide +kernel
theorem dX3_stroke_11 : decode cX3_stroke 11 = .ok (.iconst 0, 1) := by decide +kernel
theorem dX3_stroke_12 : decode cX3_stroke 12 = .ok (.invokevirtual 52, 3) := by decide +kernel
theorem dX3_stroke_15 : decode cX3_stroke 15 = .ok (.ireturn, 1) := by decide +kernel
theorem dX3_stroke_16 : decode cX3_stroke 16 = .ok (.aload_n 0, 1) := by decide +kernel
theorem dX3_stroke_17 : decode cX3_stroke 17 = .ok (.iload_n 1, 1) := by decide +kernel
theorem dX3_stroke_18 : decode cX3_stroke 18 = .ok (.invokevirtual 124, 3) := by decide +kernel
theorem dX3_stroke_21 : decode cX3_stroke 21 = .ok (.ifCond .eq 9, 3) := by decide +kernel
theorem dX3_stroke_24 : decode cX3_stroke 24 = .ok (.aload_n 0, 1) := by decide +kernel
theorem dX3_stroke_25 : decode cX3_stroke 25 = .ok (.iconst 4, 1) := by decide +kernel
theorem dX3_stroke_26 : decode cX3_stroke 26 = .ok (.invokevirtual 52, 3) := by decide +kernel
theorem dX3_stroke_29 : decode cX3_stroke 29 = .ok (.ireturn, 1) := by decide +kernel
theorem dX3_stroke_30 : decode cX3_stroke 30 = .ok (.iconst 0, 1) := by decide +kernel
theorem dX3_stroke_31 : decode cX3_stroke 31 = .ok (.istore_n 2, 1) := by decide +kernel
theorem dX3_stroke_32 : decode cX3_stroke 32 = .ok (.iconst 0, 1) := by decide +kernel
theorem dX3_stroke_33 : decode cX3_stroke 33 = .ok (.istore_n 3, 1) := by decide +kernel
theorem dX3_stroke_34 : decode cX3_stroke 34 = .ok (.getstatic 223, 3) := by decide +kernel
theorem dX3_stroke_37 : decode cX3_stroke 37 = .ok (.iconst 1, 1) := by decide +kernel
theorem dX3_stroke_38 : decode cX3_stroke 38 = .ok (.iaload, 1) := by decide +kernel
theorem dX3_stroke_39 : decode cX3_stroke 39 = .ok (.istore 4, 2) := by decide +kernel
theorem dX3_stroke_41 : decode cX3_stroke 41 = .ok (.iload 4, 2) := by decide +kernel
theorem dX3_stroke_43 : decode cX3_stroke 43 = .ok (.getstatic 226, 3) := by decide +kernel
theorem dX3_stroke_46 : decode cX3_stroke 46 = .ok (.iconst 1, 1) := by decide +kernel
theorem dX3_stroke_47 : decode cX3_stroke 47 = .ok (.iaload, 1) := by decide +kernel
theorem dX3_stroke_48 : decode cX3_stroke 48 = .ok (.if_icmp .gt 66, 3) := by decide +kernel
theorem dX3_stroke_51 : decode cX3_stroke 51 = .ok (.aload_n 0, 1) := by decide +kernel
theorem dX3_stroke_52 : decode cX3_stroke 52 = .ok (.getfield 23, 3) := by decide +kernel
theorem dX3_stroke_55 : decode cX3_stroke 55 = .ok (.aload_n 0, 1) := by decide +kernel
theorem dX3_stroke_56 : decode cX3_stroke 56 = .ok (.getfield 12, 3) := by decide +kernel
theorem dX3_stroke_59 : decode cX3_stroke 59 = .ok (.invokevirtual 165, 3) := by decide +kernel
theorem dX3_stroke_62 : decode cX3_stroke 62 = .ok (.aload_n 0, 1) := by decide +kernel
theorem dX3_stroke_63 : decode cX3_stroke 63 = .ok (.getfield 23, 3) := by decide +kernel
theorem dX3_stroke_66 : decode cX3_stroke 66 = .ok (.getfield 118, 3) := by decide +kernel
theorem dX3_stroke_69 : decode cX3_stroke 69 = .ok (.iconst 1, 1) := by decide +kernel
theorem dX3_stroke_70 : decode cX3_stroke 70 = .ok (.iload 4, 2) := by decide +kernel
theorem dX3_stroke_72 : decode cX3_stroke 72 = .ok (.iastore, 1) := by decide +kernel
theorem dX3_stroke_73 : decode cX3_stroke 73 = .ok (.aload_n 0, 1) := by decide +kernel
theorem dX3_stroke_74 : decode cX3_stroke 74 = .ok (.getfield 23, 3) := by decide +kernel
theorem dX3_stroke_77 : decode cX3_stroke 77 = .ok (.iload_n 1, 1) := by decide +kernel
theorem dX3_stroke_78 : decode cX3_stroke 78 = .ok (.invokevirtual 137, 3) := by decide +kernel
theorem dX3_stroke_81 : decode cX3_stroke 81 = .ok (.aload_n 0, 1) := by decide +kernel
theorem dX3_stroke_82 : decode cX3_stroke 82 = .ok (.getfield 23, 3) := by decide +kernel
theorem dX3_stroke_85 : decode cX3_stroke 85 = .ok (.bipush 101, 2) := by decide +kernel
theorem dX3_stroke_87 : decode cX3_stroke 87 = .ok (.invokevirtual 150, 3) := by decide +kernel
theorem dX3_stroke_90 : decode cX3_stroke 90 = .ok (.istore 5, 2) := by decide +kernel
theorem dX3_stroke_92 : decode cX3_stroke 92 = .ok (.iload_n 2, 1) := by decide +kernel
theorem dX3_stroke_93 : decode cX3_stroke 93 = .ok (.ifCond .eq 9, 3) := by decide +kernel
theorem dX3_stroke_96 : decode cX3_stroke 96 = .ok (.iload 5, 2) := by decide +kernel
theorem dX3_stroke_98 : decode cX3_stroke 98 = .ok (.iload_n 3, 1) := by decide +kernel
theorem dX3_stroke_99 : decode cX3_stroke 99 = .ok (.if_icmp .ge 9, 3) := by decide +kernel
theorem dX3_stroke_102 : decode cX3_stroke 102 = .ok (.iload 5, 2) := by decide +kernel
theorem dX3_stroke_104 : decode cX3_stroke 104 = .ok (.istore_n 3, 1) := by decide +kernel
theorem dX3_stroke_105 : decode cX3_stroke 105 = .ok (.iload 4, 2) := by decide +kernel
theorem dX3_stroke_107 : decode cX3_stroke 107 = .ok (.istore_n 2, 1) := by decide +kernel
theorem dX3_stroke_108 : decode cX3_stroke 108 = .ok (.iinc 4 1, 3) := by decide +kernel
theorem dX3_stroke_111 : decode cX3_stroke 111 = .ok (.goto (-70), 3) := by decide +kernel
theorem dX3_stroke_114 : decode cX3_stroke 114 = .ok (.iload_n 2, 1) := by decide +kernel
theorem dX3_stroke_115 : decode cX3_stroke 115 = .ok (.ireturn, 1) := by decide +kernel
theorem dX3_force_0 : decode cX3_force 0 = .ok (.aload_n 0, 1) := by decide +kernel
theorem dX3_force_1 : decode cX3_force 1 = .ok (.iload_n 1, 1) := by decide +kernel
theorem dX3_force_2 : decode cX3_force 2 = .ok (.invokevirtual 63, 3) := by decide +kernel
theorem dX3_force_5 : decode cX3_force 5 = .ok (.ifCond .eq 13, 3) := by decide +kernel
theorem dX3_force_8 : decode cX3_force 8 = .ok (.iload_n 2, 1) := by decide +kernel
theorem dX3_force_9 : decode cX3_force 9 = .ok (.iconst 1, 1) := by decide +kernel
theorem dX3_force_10 : decode cX3_force 10 = .ok (.bipush 60, 2) := by decide +kernel
theorem dX3_force_12 : decode cX3_force 12 = .ok (.invokestatic 66, 3) := by decide +kernel
theorem dX3_force_15 : decode cX3_force 15 = .ok (.ifCond .ne 9, 3) := by decide +kernel
theorem dX3_force_18 : decode cX3_force 18 = .ok (.aload_n 0, 1) := by decide +kernel
theorem dX3_force_19 : decode cX3_force 19 = .ok (.iconst 0, 1) := by decide +kernel
theorem dX3_force_20 : decode cX3_force 20 = .ok (.invokevirtual 52, 3) := by decide +kernel
theorem dX3_force_23 : decode cX3_force 23 = .ok (.ireturn, 1) := by decide +kernel
theorem dX3_force_24 : decode cX3_force 24 = .ok (.aload_n 0, 1) := by decide +kernel
theorem dX3_force_25 : decode cX3_force 25 = .ok (.getfield 12, 3) := by decide +kernel
theorem dX3_force_28 : decode cX3_force 28 = .ok (.iload_n 1, 1) := by decide +kernel
theorem dX3_force_29 : decode cX3_force 29 = .ok (.invokevirtual 175, 3) := by decide +kernel
theorem dX3_force_32 : decode cX3_force 32 = .ok (.ifCond .eq 11, 3) := by decide +kernel
theorem dX3_force_35 : decode cX3_force 35 = .ok (.aload_n 0, 1) := by decide +kernel
theorem dX3_force_36 : decode cX3_force 36 = .ok (.iload_n 2, 1) := by decide +kernel
theorem dX3_force_37 : decode cX3_force 37 = .ok (.invokevirtual 124, 3) := by decide +kernel
theorem dX3_force_40 : decode cX3_force 40 = .ok (.ifCond .eq 9, 3) := by decide +kernel
theorem dX3_force_43 : decode cX3_force 43 = .ok (.aload_n 0, 1) := by decide +kernel
theorem dX3_force_44 : decode cX3_force 44 = .ok (.iconst 4, 1) := by decide +kernel
theorem dX3_force_45 : decode cX3_force 45 = .ok (.invokevirtual 52, 3) := by decide +kernel
theorem dX3_force_48 : decode cX3_force 48 = .ok (.ireturn, 1) := by decide +kernel
theorem dX3_force_49 : decode cX3_force 49 = .ok (.getstatic 223, 3) := by decide +kernel
theorem dX3_force_52 : decode cX3_force 52 = .ok (.iconst 0, 1) := by decide +kernel
theorem dX3_force_53 : decode cX3_force 53 = .ok (.iaload, 1) := by decide +kernel
theorem dX3_force_54 : decode cX3_force 54 = .ok (.istore_n 3, 1) := by decide +kernel
theorem dX3_force_55 : decode cX3_force 55 = .ok (.iload_n 3, 1) := by decide +kernel
theorem dX3_force_56 : decode cX3_force 56 = .ok (.getstatic 226, 3) := by decide +kernel
theorem dX3_force_59 : decode cX3_force 59 = .ok (.iconst 0, 1) := by decide +kernel
theorem dX3_force_60 : decode cX3_force 60 = .ok (.iaload, 1) := by decide +kernel
theorem dX3_force_61 : decode cX3_force 61 = .ok (.if_icmp .gt 51, 3) := by decide +kernel
theorem dX3_force_64 : decode cX3_force 64 = .ok (.aload_n 0, 1) := by decide +kernel
theorem dX3_force_65 : decode cX3_force 65 = .ok (.getfield 23, 3) := by decide +kernel
theorem dX3_force_68 : decode cX3_force 68 = .ok (.aload_n 0, 1) := by decide +kernel
theorem dX3_force_69 : decode cX3_force 69 = .ok (.getfield 12, 3) := by decide +kernel
theorem dX3_force_72 : decode cX3_force 72 = .ok (.invokevirtual 165, 3) := by decide +kernel
theorem dX3_force_75 : decode cX3_force 75 = .ok (.aload_n 0, 1) := by decide +kernel
theorem dX3_force_76 : decode cX3_force 76 = .ok (.getfield 23, 3) := by decide +kernel
theorem dX3_force_79 : decode cX3_force 79 = .ok (.getfield 118, 3) := by decide +kernel
theorem dX3_force_82 : decode cX3_force 82 = .ok (.iconst 0, 1) := by decide +kernel
theorem dX3_force_83 : decode cX3_force 83 = .ok (.iload_n 3, 1) := by decide +kernel
theorem dX3_force_84 : decode cX3_force 84 = .ok (.iastore, 1) := by decide +kernel
theorem dX3_force_85 : decode cX3_force 85 = .ok (.aload_n 0, 1) := by decide +kernel
theorem dX3_force_86 : decode cX3_force 86 = .ok (.getfield 23, 3) := by decide +kernel
theorem dX3_force_89 : decode cX3_force 89 = .ok (.iload_n 2, 1) := by decide +kernel
theorem dX3_force_90 : decode cX3_force 90 = .ok (.invokevirtual 137, 3) := by decide +kernel
theorem dX3_force_93 : decode cX3_force 93 = .ok (.aload_n 0, 1) := by decide +kernel
theorem dX3_force_94 : decode cX3_force 94 = .ok (.getfield 23, 3) := by decide +kernel
theorem dX3_force_97 : decode cX3_force 97 = .ok (.iload_n 1, 1) := by decide +kernel
theorem dX3_force_98 : decode cX3_force 98 = .ok (.invokevirtual 175, 3) := by decide +kernel
theorem dX3_force_101 : decode cX3_force 101 = .ok (.ifCond .ne 5, 3) := by decide +kernel
theorem dX3_force_104 : decode cX3_force 104 = .ok (.iload_n 3, 1) := by decide +kernel
theorem dX3_force_105 : decode cX3_force 105 = .ok (.ireturn, 1) := by decide +kernel
theorem dX3_force_106 : decode cX3_force 106 = .ok (.iinc 3 1, 3) := by decide +kernel
theorem dX3_force_109 : decode cX3_force 109 = .ok (.goto (-54), 3) := by decide +kernel
theorem dX3_force_112 : decode cX3_force 112 = .ok (.aload_n 0, 1) := by decide +kernel
theorem dX3_force_113 : decode cX3_force 113 = .ok (.iconst 3, 1) := by decide +kernel
theorem dX3_force_114 : decode cX3_force 114 = .ok (.invokevirtual 52, 3) := by decide +kernel
theorem dX3_force_117 : decode cX3_force 117 = .ok (.ireturn, 1) := by decide +kernel
theorem dX3_kindFor_0 : decode cX3_kindFor 0 = .ok (.aload_n 0, 1) := by decide +kernel
theorem dX3_kindFor_1 : decode cX3_kindFor 1 = .ok (.iload_n 1, 1) := by decide +kernel
theorem dX3_kindFor_2 : decode cX3_kindFor 2 = .ok (.invokevirtual 63, 3) := by decide +kernel
theorem dX3_kindFor_5 : decode cX3_kindFor 5 = .ok (.ifCond .eq 13, 3) := by decide +kernel
theorem dX3_kindFor_8 : decode cX3_kindFor 8 = .ok (.iload_n 2, 1) := by decide +kernel
theorem dX3_kindFor_9 : decode cX3_kindFor 9 = .ok (.iconst 1, 1) := by decide +kernel
theorem dX3_kindFor_10 : decode cX3_kindFor 10 = .ok (.bipush 60, 2) := by decide +kernel
theorem dX3_kindFor_12 : decode cX3_kindFor 12 = .ok (.invokestatic 66, 3) := by decide +kernel
theorem dX3_kindFor_15 : decode cX3_kindFor 15 = .ok (.ifCond .ne 9, 3) := by decide +kernel
theorem dX3_kindFor_18 : decode cX3_kindFor 18 = .ok (.aload_n 0, 1) := by decide +kernel
theorem dX3_kindFor_19 : decode cX3_kindFor 19 = .ok (.iconst 0, 1) := by decide +kernel
theorem dX3_kindFor_20 : decode cX3_kindFor 20 = .ok (.invokevirtual 52, 3) := by decide +kernel
theorem dX3_kindFor_23 : decode cX3_kindFor 23 = .ok (.ireturn, 1) := by decide +kernel
theorem dX3_kindFor_24 : decode cX3_kindFor 24 = .ok (.aload_n 0, 1) := by decide +kernel
theorem dX3_kindFor_25 : decode cX3_kindFor 25 = .ok (.getfield 12, 3) := by decide +kernel
theorem dX3_kindFor_28 : decode cX3_kindFor 28 = .ok (.iload_n 1, 1) := by decide +kernel
theorem dX3_kindFor_29 : decode cX3_kindFor 29 = .ok (.invokevirtual 175, 3) := by decide +kernel
theorem dX3_kindFor_32 : decode cX3_kindFor 32 = .ok (.ifCond .eq 11, 3) := by decide +kernel
theorem dX3_kindFor_35 : decode cX3_kindFor 35 = .ok (.aload_n 0, 1) := by decide +kernel
theorem dX3_kindFor_36 : decode cX3_kindFor 36 = .ok (.iload_n 2, 1) := by decide +kernel
theorem dX3_kindFor_37 : decode cX3_kindFor 37 = .ok (.invokevirtual 124, 3) := by decide +kernel
theorem dX3_kindFor_40 : decode cX3_kindFor 40 = .ok (.ifCond .eq 9, 3) := by decide +kernel
theorem dX3_kindFor_43 : decode cX3_kindFor 43 = .ok (.aload_n 0, 1) := by decide +kernel
theorem dX3_kindFor_44 : decode cX3_kindFor 44 = .ok (.iconst 4, 1) := by decide +kernel
theorem dX3_kindFor_45 : decode cX3_kindFor 45 = .ok (.invokevirtual 52, 3) := by decide +kernel
theorem dX3_kindFor_48 : decode cX3_kindFor 48 = .ok (.ireturn, 1) := by decide +kernel
theorem dX3_kindFor_49 : decode cX3_kindFor 49 = .ok (.iconst (-1), 1) := by decide +kernel
theorem dX3_kindFor_50 : decode cX3_kindFor 50 = .ok (.istore_n 3, 1) := by decide +kernel
theorem dX3_kindFor_51 : decode cX3_kindFor 51 = .ok (.iconst 0, 1) := by decide +kernel
theorem dX3_kindFor_52 : decode cX3_kindFor 52 = .ok (.istore 4, 2) := by decide +kernel
theorem dX3_kindFor_54 : decode cX3_kindFor 54 = .ok (.iconst 0, 1) := by decide +kernel
theorem dX3_kindFor_55 : decode cX3_kindFor 55 = .ok (.istore 5, 2) := by decide +kernel
theorem dX3_kindFor_57 : decode cX3_kindFor 57 = .ok (.iload 5, 2) := by decide +kernel
theorem dX3_kindFor_59 : decode cX3_kindFor 59 = .ok (.bipush 7, 2) := by decide +kernel
theorem dX3_kindFor_61 : decode cX3_kindFor 61 = .ok (.if_icmp .ge 97, 3) := by decide +kernel
theorem dX3_kindFor_64 : decode cX3_kindFor 64 = .ok (.aload_n 0, 1) := by decide +kernel
theorem dX3_kindFor_65 : decode cX3_kindFor 65 = .ok (.getfield 23, 3) := by decide +kernel
theorem dX3_kindFor_68 : decode cX3_kindFor 68 = .ok (.aload_n 0, 1) := by decide +kernel
theorem dX3_kindFor_69 : decode cX3_kindFor 69 = .ok (.getfield 12, 3) := by decide +kernel
theorem dX3_kindFor_72 : decode cX3_kindFor 72 = .ok (.invokevirtual 165, 3) := by decide +kernel
theorem dX3_kindFor_75 : decode cX3_kindFor 75 = .ok (.aload_n 0, 1) := by decide +kernel
theorem dX3_kindFor_76 : decode cX3_kindFor 76 = .ok (.getfield 23, 3) := by decide +kernel
theorem dX3_kindFor_79 : decode cX3_kindFor 79 = .ok (.getfield 70, 3) := by decide +kernel
theorem dX3_kindFor_82 : decode cX3_kindFor 82 = .ok (.iload_n 1, 1) := by decide +kernel
theorem dX3_kindFor_83 : decode cX3_kindFor 83 = .ok (.iload 5, 2) := by decide +kernel
theorem dX3_kindFor_85 : decode cX3_kindFor 85 = .ok (.iastore, 1) := by decide +kernel
theorem dX3_kindFor_86 : decode cX3_kindFor 86 = .ok (.aload_n 0, 1) := by decide +kernel
theorem dX3_kindFor_87 : decode cX3_kindFor 87 = .ok (.getfield 23, 3) := by decide +kernel
theorem dX3_kindFor_90 : decode cX3_kindFor 90 = .ok (.iload_n 2, 1) := by decide +kernel
theorem dX3_kindFor_91 : decode cX3_kindFor 91 = .ok (.invokevirtual 137, 3) := by decide +kernel
theorem dX3_kindFor_94 : decode cX3_kindFor 94 = .ok (.aload_n 0, 1) := by decide +kernel
theorem dX3_kindFor_95 : decode cX3_kindFor 95 = .ok (.getfield 23, 3) := by decide +kernel
theorem dX3_kindFor_98 : decode cX3_kindFor 98 = .ok (.getfield 92, 3) := by decide +kernel
theorem dX3_kindFor_101 : decode cX3_kindFor 101 = .ok (.iload_n 1, 1) := by decide +kernel
theorem dX3_kindFor_102 : decode cX3_kindFor 102 = .ok (.iaload, 1) := by decide +kernel
theorem dX3_kindFor_103 : decode cX3_kindFor 103 = .ok (.bipush 101, 2) := by decide +kernel
theorem dX3_kindFor_105 : decode cX3_kindFor 105 = .ok (.if_icmp .ne 12, 3) := by decide +kernel
theorem dX3_kindFor_108 : decode cX3_kindFor 108 = .ok (.getstatic 79, 3) := by decide +kernel
theorem dX3_kindFor_111 : decode cX3_kindFor 111 = .ok (.iload 5, 2) := by decide +kernel
theorem dX3_kindFor_113 : decode cX3_kindFor 113 = .ok (.iaload, 1) := by decide +kernel
theorem dX3_kindFor_114 : decode cX3_kindFor 114 = .ok (.goto 4, 3) := by decide +kernel
theorem dX3_kindFor_117 : decode cX3_kindFor 117 = .ok (.iconst 0, 1) := by decide +kernel
theorem dX3_kindFor_118 : decode cX3_kindFor 118 = .ok (.istore 6, 2) := by decide +kernel
theorem dX3_kindFor_120 : decode cX3_kindFor 120 = .ok (.aload_n 0, 1) := by decide +kernel
theorem dX3_kindFor_121 : decode cX3_kindFor 121 = .ok (.getfield 23, 3) := by decide +kernel
theorem dX3_kindFor_124 : decode cX3_kindFor 124 = .ok (.bipush 101, 2) := by decide +kernel
theorem dX3_kindFor_126 : decode cX3_kindFor 126 = .ok (.invokevirtual 150, 3) := by decide +kernel
theorem dX3_kindFor_129 : decode cX3_kindFor 129 = .ok (.iload 6, 2) := by decide +kernel
theorem dX3_kindFor_131 : decode cX3_kindFor 131 = .ok (.isub, 1) := by decide +kernel
theorem dX3_kindFor_132 : decode cX3_kindFor 132 = .ok (.istore 7, 2) := by decide +kernel
theorem dX3_kindFor_134 : decode cX3_kindFor 134 = .ok (.iload_n 3, 1) := by decide +kernel
theorem dX3_kindFor_135 : decode cX3_kindFor 135 = .ok (.ifCond .lt 10, 3) := by decide +kernel
theorem dX3_kindFor_138 : decode cX3_kindFor 138 = .ok (.iload 7, 2) := by decide +kernel
theorem dX3_kindFor_140 : decode cX3_kindFor 140 = .ok (.iload 4, 2) := by decide +kernel
theorem dX3_kindFor_142 : decode cX3_kindFor 142 = .ok (.if_icmp .le 10, 3) := by decide +kernel
theorem dX3_kindFor_145 : decode cX3_kindFor 145 = .ok (.iload 7, 2) := by decide +kernel
theorem dX3_kindFor_147 : decode cX3_kindFor 147 = .ok (.istore 4, 2) := by decide +kernel
theorem dX3_kindFor_149 : decode cX3_kindFor 149 = .ok (.iload 5, 2) := by decide +kernel
theorem dX3_kindFor_151 : decode cX3_kindFor 151 = .ok (.istore_n 3, 1) := by decide +kernel
theorem dX3_kindFor_152 : decode cX3_kindFor 152 = .ok (.iinc 5 1, 3) := by decide +kernel
theorem dX3_kindFor_155 : decode cX3_kindFor 155 = .ok (.goto (-98), 3) := by decide +kernel
theorem dX3_kindFor_158 : decode cX3_kindFor 158 = .ok (.iload_n 3, 1) := by decide +kernel
theorem dX3_kindFor_159 : decode cX3_kindFor 159 = .ok (.ireturn, 1) := by decide +kernel
theorem dX3_seed_0 : decode cX3_seed 0 = .ok (.aload_n 0, 1) := by decide +kernel
theorem dX3_seed_1 : decode cX3_seed 1 = .ok (.getfield 12, 3) := by decide +kernel
theorem dX3_seed_4 : decode cX3_seed 4 = .ok (.getfield 229, 3) := by decide +kernel
theorem dX3_seed_7 : decode cX3_seed 7 = .ok (.istore_n 2, 1) := by decide +kernel
theorem dX3_seed_8 : decode cX3_seed 8 = .ok (.aload_n 0, 1) := by decide +kernel
theorem dX3_seed_9 : decode cX3_seed 9 = .ok (.getfield 12, 3) := by decide +kernel
theorem dX3_seed_12 : decode cX3_seed 12 = .ok (.iload_n 1, 1) := by decide +kernel
theorem dX3_seed_13 : decode cX3_seed 13 = .ok (.putfield 229, 3) := by decide +kernel
theorem dX3_seed_16 : decode cX3_seed 16 = .ok (.iload_n 2, 1) := by decide +kernel
theorem dX3_seed_17 : decode cX3_seed 17 = .ok (.ireturn, 1) := by decide +kernel
theorem dX3_feed_0 : decode cX3_feed 0 = .ok (.iload_n 2, 1) := by decide +kernel
theorem dX3_feed_1 : decode cX3_feed 1 = .ok (.iconst 1, 1) := by decide +kernel
theorem dX3_feed_2 : decode cX3_feed 2 = .ok (.iconst 4, 1) := by decide +kernel
theorem dX3_feed_3 : decode cX3_feed 3 = .ok (.invokestatic 66, 3) := by decide +kernel
theorem dX3_feed_6 : decode cX3_feed 6 = .ok (.ifCond .ne 9, 3) := by decide +kernel
theorem dX3_feed_9 : decode cX3_feed 9 = .ok (.aload_n 0, 1) := by decide +kernel
theorem dX3_feed_10 : decode cX3_feed 10 = .ok (.iconst 0, 1) := by decide +kernel
theorem dX3_feed_11 : decode cX3_feed 11 = .ok (.invokevirtual 52, 3) := by decide +kernel
theorem dX3_feed_14 : decode cX3_feed 14 = .ok (.ireturn, 1) := by decide +kernel
theorem dX3_feed_15 : decode cX3_feed 15 = .ok (.aload_n 0, 1) := by decide +kernel
theorem dX3_feed_16 : decode cX3_feed 16 = .ok (.getfield 33, 3) := by decide +kernel
theorem dX3_feed_19 : decode cX3_feed 19 = .ok (.getfield 232, 3) := by decide +kernel
theorem dX3_feed_22 : decode cX3_feed 22 = .ok (.iload_n 2, 1) := by decide +kernel
theorem dX3_feed_23 : decode cX3_feed 23 = .ok (.iadd, 1) := by decide +kernel
theorem dX3_feed_24 : decode cX3_feed 24 = .ok (.bipush 120, 2) := by decide +kernel
theorem dX3_feed_26 : decode cX3_feed 26 = .ok (.if_icmp .le 9, 3) := by decide +kernel
theorem dX3_feed_29 : decode cX3_feed 29 = .ok (.aload_n 0, 1) := by decide +kernel
theorem dX3_feed_30 : decode cX3_feed 30 = .ok (.iconst 1, 1) := by decide +kernel
theorem dX3_feed_31 : decode cX3_feed 31 = .ok (.invokevirtual 52, 3) := by decide +kernel
theorem dX3_feed_34 : decode cX3_feed 34 = .ok (.ireturn, 1) := by decide +kernel
theorem dX3_feed_35 : decode cX3_feed 35 = .ok (.iload_n 2, 1) := by decide +kernel
theorem dX3_feed_36 : decode cX3_feed 36 = .ok (.iconst 1, 1) := by decide +kernel
theorem dX3_feed_37 : decode cX3_feed 37 = .ok (.isub, 1) := by decide +kernel
theorem dX3_feed_38 : decode cX3_feed 38 = .ok (.istore_n 3, 1) := by decide +kernel
theorem dX3_feed_39 : decode cX3_feed 39 = .ok (.iload_n 3, 1) := by decide +kernel
theorem dX3_feed_40 : decode cX3_feed 40 = .ok (.ifCond .lt 26, 3) := by decide +kernel
theorem dX3_feed_43 : decode cX3_feed 43 = .ok (.aload_n 0, 1) := by decide +kernel
theorem dX3_feed_44 : decode cX3_feed 44 = .ok (.getfield 33, 3) := by decide +kernel
theorem dX3_feed_47 : decode cX3_feed 47 = .ok (.iload_n 1, 1) := by decide +kernel
theorem dX3_feed_48 : decode cX3_feed 48 = .ok (.bipush 8, 2) := by decide +kernel
theorem dX3_feed_50 : decode cX3_feed 50 = .ok (.iload_n 3, 1) := by decide +kernel
theorem dX3_feed_51 : decode cX3_feed 51 = .ok (.imul, 1) := by decide +kernel
theorem dX3_feed_52 : decode cX3_feed 52 = .ok (.iushr, 1) := by decide +kernel
theorem dX3_feed_53 : decode cX3_feed 53 = .ok (.sipush 255, 3) := by decide +kernel
theorem dX3_feed_56 : decode cX3_feed 56 = .ok (.iand, 1) := by decide +kernel
theorem dX3_feed_57 : decode cX3_feed 57 = .ok (.invokevirtual 235, 3) := by decide +kernel
theorem dX3_feed_60 : decode cX3_feed 60 = .ok (.iinc 3 (-1), 3) := by decide +kernel
theorem dX3_feed_63 : decode cX3_feed 63 = .ok (.goto (-24), 3) := by decide +kernel
theorem dX3_feed_66 : decode cX3_feed 66 = .ok (.aload_n 0, 1) := by decide +kernel
theorem dX3_feed_67 : decode cX3_feed 67 = .ok (.getfield 33, 3) := by decide +kernel
theorem dX3_feed_70 : decode cX3_feed 70 = .ok (.getfield 232, 3) := by decide +kernel
theorem dX3_feed_73 : decode cX3_feed 73 = .ok (.ireturn, 1) := by decide +kernel
theorem dX3_wipe_0 : decode cX3_wipe 0 = .ok (.aload_n 0, 1) := by decide +kernel
theorem dX3_wipe_1 : decode cX3_wipe 1 = .ok (.getfield 33, 3) := by decide +kernel
theorem dX3_wipe_4 : decode cX3_wipe 4 = .ok (.getfield 232, 3) := by decide +kernel
theorem dX3_wipe_7 : decode cX3_wipe 7 = .ok (.istore_n 1, 1) := by decide +kernel
theorem dX3_wipe_8 : decode cX3_wipe 8 = .ok (.aload_n 0, 1) := by decide +kernel
theorem dX3_wipe_9 : decode cX3_wipe 9 = .ok (.getfield 33, 3) := by decide +kernel
theorem dX3_wipe_12 : decode cX3_wipe 12 = .ok (.iconst 0, 1) := by decide +kernel
theorem dX3_wipe_13 : decode cX3_wipe 13 = .ok (.putfield 232, 3) := by decide +kernel
theorem dX3_wipe_16 : decode cX3_wipe 16 = .ok (.iload_n 1, 1) := by decide +kernel
theorem dX3_wipe_17 : decode cX3_wipe 17 = .ok (.ireturn, 1) := by decide +kernel
theorem dX3_text_0 : decode cX3_text 0 = .ok (.aload_n 0, 1) := by decide +kernel
theorem dX3_text_1 : decode cX3_text 1 = .ok (.getfield 23, 3) := by decide +kernel
theorem dX3_text_4 : decode cX3_text 4 = .ok (.aload_n 0, 1) := by decide +kernel
theorem dX3_text_5 : decode cX3_text 5 = .ok (.getfield 12, 3) := by decide +kernel
theorem dX3_text_8 : decode cX3_text 8 = .ok (.invokevirtual 165, 3) := by decide +kernel
theorem dX3_text_11 : decode cX3_text 11 = .ok (.aload_n 0, 1) := by decide +kernel
theorem dX3_text_12 : decode cX3_text 12 = .ok (.aload_n 0, 1) := by decide +kernel
theorem dX3_text_13 : decode cX3_text 13 = .ok (.getfield 23, 3) := by decide +kernel
theorem dX3_text_16 : decode cX3_text 16 = .ok (.invokevirtual 238, 3) := by decide +kernel
theorem dX3_text_19 : decode cX3_text 19 = .ok (.istore_n 1, 1) := by decide +kernel
theorem dX3_text_20 : decode cX3_text 20 = .ok (.iload_n 1, 1) := by decide +kernel
theorem dX3_text_21 : decode cX3_text 21 = .ok (.ifCond .lt 14, 3) := by decide +kernel
theorem dX3_text_24 : decode cX3_text 24 = .ok (.aload_n 0, 1) := by decide +kernel
theorem dX3_text_25 : decode cX3_text 25 = .ok (.getfield 12, 3) := by decide +kernel
theorem dX3_text_28 : decode cX3_text 28 = .ok (.aload_n 0, 1) := by decide +kernel
theorem dX3_text_29 : decode cX3_text 29 = .ok (.getfield 23, 3) := by decide +kernel
theorem dX3_text_32 : decode cX3_text 32 = .ok (.invokevirtual 165, 3) := by decide +kernel
theorem dX3_text_35 : decode cX3_text 35 = .ok (.aload_n 0, 1) := by decide +kernel
theorem dX3_text_36 : decode cX3_text 36 = .ok (.getfield 33, 3) := by decide +kernel
theorem dX3_text_39 : decode cX3_text 39 = .ok (.iconst 0, 1) := by decide +kernel
theorem dX3_text_40 : decode cX3_text 40 = .ok (.putfield 232, 3) := by decide +kernel
theorem dX3_text_43 : decode cX3_text 43 = .ok (.iload_n 1, 1) := by decide +kernel
theorem dX3_text_44 : decode cX3_text 44 = .ok (.ireturn, 1) := by decide +kernel
theorem dX3_hold_0 : decode cX3_hold 0 = .ok (.iload_n 1, 1) := by decide +kernel
theorem dX3_hold_1 : decode cX3_hold 1 = .ok (.iconst 0, 1) := by decide +kernel
theorem dX3_hold_2 : decode cX3_hold 2 = .ok (.bipush 9, 2) := by decide +kernel
theorem dX3_hold_4 : decode cX3_hold 4 = .ok (.invokestatic 66, 3) := by decide +kernel
theorem dX3_hold_7 : decode cX3_hold 7 = .ok (.ifCond .eq 16, 3) := by decide +kernel
theorem dX3_hold_10 : decode cX3_hold 10 = .ok (.iload_n 2, 1) := by decide +kernel
theorem dX3_hold_11 : decode cX3_hold 11 = .ok (.iconst (-1), 1) := by decide +kernel
theorem dX3_hold_12 : decode cX3_hold 12 = .ok (.if_icmp .eq 17, 3) := by decide +kernel
theorem dX3_hold_15 : decode cX3_hold 15 = .ok (.aload_n 0, 1) := by decide +kernel
theorem dX3_hold_16 : decode cX3_hold 16 = .ok (.iload_n 2, 1) := by decide +kernel
theorem dX3_hold_17 : decode cX3_hold 17 = .ok (.invokevirtual 63, 3) := by decide +kernel
theorem dX3_hold_20 : decode cX3_hold 20 = .ok (.ifCond .ne 9, 3) := by decide +kernel
theorem dX3_hold_23 : decode cX3_hold 23 = .ok (.aload_n 0, 1) := by decide +kernel
theorem dX3_hold_24 : decode cX3_hold 24 = .ok (.iconst 0, 1) := by decide +kernel
theorem dX3_hold_25 : decode cX3_hold 25 = .ok (.invokevirtual 52, 3) := by decide +kernel
theorem dX3_hold_28 : decode cX3_hold 28 = .ok (.ireturn, 1) := by decide +kernel
theorem dX3_hold_29 : decode cX3_hold 29 = .ok (.aload_n 0, 1) := by decide +kernel
theorem dX3_hold_30 : decode cX3_hold 30 = .ok (.getfield 12, 3) := by decide +kernel
theorem dX3_hold_33 : decode cX3_hold 33 = .ok (.getfield 242, 3) := by decide +kernel
theorem dX3_hold_36 : decode cX3_hold 36 = .ok (.iload_n 1, 1) := by decide +kernel
theorem dX3_hold_37 : decode cX3_hold 37 = .ok (.iload_n 2, 1) := by decide +kernel
theorem dX3_hold_38 : decode cX3_hold 38 = .ok (.iastore, 1) := by decide +kernel
theorem dX3_hold_39 : decode cX3_hold 39 = .ok (.iconst 1, 1) := by decide +kernel
theorem dX3_hold_40 : decode cX3_hold 40 = .ok (.ireturn, 1) := by decide +kernel
theorem dX3_as_0 : decode cX3_as 0 = .ok (.iload_n 1, 1) := by decide +kernel
theorem dX3_as_1 : decode cX3_as 1 = .ok (.iconst 0, 1) := by decide +kernel
theorem dX3_as_2 : decode cX3_as 2 = .ok (.bipush 9, 2) := by decide +kernel
theorem dX3_as_4 : decode cX3_as 4 = .ok (.invokestatic 66, 3) := by decide +kernel
theorem dX3_as_7 : decode cX3_as 7 = .ok (.ifCond .eq 10, 3) := by decide +kernel
theorem dX3_as_10 : decode cX3_as 10 = .ok (.iload_n 2, 1) := by decide +kernel
theorem dX3_as_11 : decode cX3_as 11 = .ok (.invokestatic 48, 3) := by decide +kernel
theorem dX3_as_14 : decode cX3_as 14 = .ok (.ifCond .ne 9, 3) := by decide +kernel
theorem dX3_as_17 : decode cX3_as 17 = .ok (.aload_n 0, 1) := by decide +kernel
theorem dX3_as_18 : decode cX3_as 18 = .ok (.iconst 0, 1) := by decide +kernel
theorem dX3_as_19 : decode cX3_as 19 = .ok (.invokevirtual 52, 3) := by decide +kernel
theorem dX3_as_22 : decode cX3_as 22 = .ok (.ireturn, 1) := by decide +kernel
theorem dX3_as_23 : decode cX3_as 23 = .ok (.aload_n 0, 1) := by decide +kernel
theorem dX3_as_24 : decode cX3_as 24 = .ok (.getfield 12, 3) := by decide +kernel
theorem dX3_as_27 : decode cX3_as 27 = .ok (.getfield 242, 3) := by decide +kernel
theorem dX3_as_30 : decode cX3_as 30 = .ok (.iload_n 1, 1) := by decide +kernel
theorem dX3_as_31 : decode cX3_as 31 = .ok (.iaload, 1) := by decide +kernel
theorem dX3_as_32 : decode cX3_as 32 = .ok (.istore_n 3, 1) := by decide +kernel
theorem dX3_as_33 : decode cX3_as 33 = .ok (.aload_n 0, 1) := by decide +kernel
theorem dX3_as_34 : decode cX3_as 34 = .ok (.iload_n 3, 1) := by decide +kernel
theorem dX3_as_35 : decode cX3_as 35 = .ok (.invokevirtual 63, 3) := by decide +kernel
theorem dX3_as_38 : decode cX3_as 38 = .ok (.ifCond .ne 9, 3) := by decide +kernel
theorem dX3_as_41 : decode cX3_as 41 = .ok (.aload_n 0, 1) := by decide +kernel
theorem dX3_as_42 : decode cX3_as 42 = .ok (.iconst 5, 1) := by decide +kernel
theorem dX3_as_43 : decode cX3_as 43 = .ok (.invokevirtual 52, 3) := by decide +kernel
theorem dX3_as_46 : decode cX3_as 46 = .ok (.ireturn, 1) := by decide +kernel
theorem dX3_as_47 : decode cX3_as 47 = .ok (.aload_n 0, 1) := by decide +kernel
theorem dX3_as_48 : decode cX3_as 48 = .ok (.getfield 12, 3) := by decide +kernel
theorem dX3_as_51 : decode cX3_as 51 = .ok (.getfield 70, 3) := by decide +kernel
theorem dX3_as_54 : decode cX3_as 54 = .ok (.iload_n 3, 1) := by decide +kernel
theorem dX3_as_55 : decode cX3_as 55 = .ok (.iaload, 1) := by decide +kernel
theorem dX3_as_56 : decode cX3_as 56 = .ok (.iload_n 2, 1) := by decide +kernel
theorem dX3_as_57 : decode cX3_as 57 = .ok (.invokestatic 245, 3) := by decide +kernel
theorem dX3_as_60 : decode cX3_as 60 = .ok (.ifCond .eq 7, 3) := by decide +kernel
theorem dX3_as_63 : decode cX3_as 63 = .ok (.iload_n 3, 1) := by decide +kernel
theorem dX3_as_64 : decode cX3_as 64 = .ok (.goto 8, 3) := by decide +kernel
theorem dX3_as_67 : decode cX3_as 67 = .ok (.aload_n 0, 1) := by decide +kernel
theorem dX3_as_68 : decode cX3_as 68 = .ok (.iconst 2, 1) := by decide +kernel
theorem dX3_as_69 : decode cX3_as 69 = .ok (.invokevirtual 52, 3) := by decide +kernel
theorem dX3_as_72 : decode cX3_as 72 = .ok (.ireturn, 1) := by decide +kernel
theorem dX3_sheet_0 : decode cX3_sheet 0 = .ok (.iload_n 1, 1) := by decide +kernel
theorem dX3_sheet_1 : decode cX3_sheet 1 = .ok (.invokestatic 248, 3) := by decide +kernel
theorem dX3_sheet_4 : decode cX3_sheet 4 = .ok (.ifCond .eq 10, 3) := by decide +kernel
theorem dX3_sheet_7 : decode cX3_sheet 7 = .ok (.iload_n 2, 1) := by decide +kernel
theorem dX3_sheet_8 : decode cX3_sheet 8 = .ok (.invokestatic 251, 3) := by decide +kernel
theorem dX3_sheet_11 : decode cX3_sheet 11 = .ok (.ifCond .ne 9, 3) := by decide +kernel
theorem dX3_sheet_14 : decode cX3_sheet 14 = .ok (.aload_n 0, 1) := by decide +kernel
theorem dX3_sheet_15 : decode cX3_sheet 15 = .ok (.iconst 0, 1) := by decide +kernel
theorem dX3_sheet_16 : decode cX3_sheet 16 = .ok (.invokevirtual 52, 3) := by decide +kernel
theorem dX3_sheet_19 : decode cX3_sheet 19 = .ok (.ireturn, 1) := by decide +kernel
theorem dX3_sheet_20 : decode cX3_sheet 20 = .ok (.iload_n 3, 1) := by decide +kernel
theorem dX3_sheet_21 : decode cX3_sheet 21 = .ok (.ifCond .ge 10, 3) := by decide +kernel
theorem dX3_sheet_24 : decode cX3_sheet 24 = .ok (.aload_n 0, 1) := by decide +kernel
theorem dX3_sheet_25 : decode cX3_sheet 25 = .ok (.bipush 6, 2) := by decide +kernel
theorem dX3_sheet_27 : decode cX3_sheet 27 = .ok (.invokevirtual 52, 3) := by decide +kernel
theorem dX3_sheet_30 : decode cX3_sheet 30 = .ok (.ireturn, 1) := by decide +kernel
theorem dX3_sheet_31 : decode cX3_sheet 31 = .ok (.iload_n 3, 1) := by decide +kernel
theorem dX3_sheet_32 : decode cX3_sheet 32 = .ok (.bipush 40, 2) := by decide +kernel
theorem dX3_sheet_34 : decode cX3_sheet 34 = .ok (.if_icmp .le 9, 3) := by decide +kernel
theorem dX3_sheet_37 : decode cX3_sheet 37 = .ok (.aload_n 0, 1) := by decide +kernel
theorem dX3_sheet_38 : decode cX3_sheet 38 = .ok (.iconst 0, 1) := by decide +kernel
theorem dX3_sheet_39 : decode cX3_sheet 39 = .ok (.invokevirtual 52, 3) := by decide +kernel
theorem dX3_sheet_42 : decode cX3_sheet 42 = .ok (.ireturn, 1) := by decide +kernel
theorem dX3_sheet_43 : decode cX3_sheet 43 = .ok (.aload_n 0, 1) := by decide +kernel
theorem dX3_sheet_44 : decode cX3_sheet 44 = .ok (.getfield 39, 3) := by decide +kernel
theorem dX3_sheet_47 : decode cX3_sheet 47 = .ok (.iload_n 1, 1) := by decide +kernel
theorem dX3_sheet_48 : decode cX3_sheet 48 = .ok (.aaload, 1) := by decide +kernel
theorem dX3_sheet_49 : decode cX3_sheet 49 = .ok (.iload_n 2, 1) := by decide +kernel
theorem dX3_sheet_50 : decode cX3_sheet 50 = .ok (.iload_n 2, 1) := by decide +kernel
theorem dX3_sheet_51 : decode cX3_sheet 51 = .ok (.ifCond .ne 7, 3) := by decide +kernel
theorem dX3_sheet_54 : decode cX3_sheet 54 = .ok (.iconst 0, 1) := by decide +kernel
theorem dX3_sheet_55 : decode cX3_sheet 55 = .ok (.goto 4, 3) := by decide +kernel
theorem dX3_sheet_58 : decode cX3_sheet 58 = .ok (.iload_n 3, 1) := by decide +kernel
theorem dX3_sheet_59 : decode cX3_sheet 59 = .ok (.invokevirtual 254, 3) := by decide +kernel
theorem dX3_sheet_62 : decode cX3_sheet 62 = .ok (.aload_n 0, 1) := by decide +kernel
theorem dX3_sheet_63 : decode cX3_sheet 63 = .ok (.getfield 39, 3) := by decide +kernel
theorem dX3_sheet_66 : decode cX3_sheet 66 = .ok (.iload_n 1, 1) := by decide +kernel
theorem dX3_sheet_67 : decode cX3_sheet 67 = .ok (.aaload, 1) := by decide +kernel
theorem dX3_sheet_68 : decode cX3_sheet 68 = .ok (.getfield 257, 3) := by decide +kernel
theorem dX3_sheet_71 : decode cX3_sheet 71 = .ok (.ireturn, 1) := by decide +kernel
theorem dX3_write_0 : decode cX3_write 0 = .ok (.iload_n 1, 1) := by decide +kernel
theorem dX3_write_1 : decode cX3_write 1 = .ok (.invokestatic 248, 3) := by decide +kernel
theorem dX3_write_4 : decode cX3_write 4 = .ok (.ifCond .ne 9, 3) := by decide +kernel
theorem dX3_write_7 : decode cX3_write 7 = .ok (.aload_n 0, 1) := by decide +kernel
theorem dX3_write_8 : decode cX3_write 8 = .ok (.iconst 0, 1) := by decide +kernel
theorem dX3_write_9 : decode cX3_write 9 = .ok (.invokevirtual 52, 3) := by decide +kernel
theorem dX3_write_12 : decode cX3_write 12 = .ok (.ireturn, 1) := by decide +kernel
theorem dX3_write_13 : decode cX3_write 13 = .ok (.aload_n 0, 1) := by decide +kernel
theorem dX3_write_14 : decode cX3_write 14 = .ok (.getfield 39, 3) := by decide +kernel
theorem dX3_write_17 : decode cX3_write 17 = .ok (.iload_n 1, 1) := by decide +kernel
theorem dX3_write_18 : decode cX3_write 18 = .ok (.aaload, 1) := by decide +kernel
theorem dX3_write_19 : decode cX3_write 19 = .ok (.getfield 260, 3) := by decide +kernel
theorem dX3_write_22 : decode cX3_write 22 = .ok (.ifCond .ne 9, 3) := by decide +kernel
theorem dX3_write_25 : decode cX3_write 25 = .ok (.aload_n 0, 1) := by decide +kernel
theorem dX3_write_26 : decode cX3_write 26 = .ok (.iconst 5, 1) := by decide +kernel
theorem dX3_write_27 : decode cX3_write 27 = .ok (.invokevirtual 52, 3) := by decide +kernel
theorem dX3_write_30 : decode cX3_write 30 = .ok (.ireturn, 1) := by decide +kernel
theorem dX3_write_31 : decode cX3_write 31 = .ok (.iload_n 2, 1) := by decide +kernel
theorem dX3_write_32 : decode cX3_write 32 = .ok (.iconst 0, 1) := by decide +kernel
theorem dX3_write_33 : decode cX3_write 33 = .ok (.aload_n 0, 1) := by decide +kernel
theorem dX3_write_34 : decode cX3_write 34 = .ok (.getfield 39, 3) := by decide +kernel
theorem dX3_write_37 : decode cX3_write 37 = .ok (.iload_n 1, 1) := by decide +kernel
theorem dX3_write_38 : decode cX3_write 38 = .ok (.aaload, 1) := by decide +kernel
theorem dX3_write_39 : decode cX3_write 39 = .ok (.getfield 257, 3) := by decide +kernel
theorem dX3_write_42 : decode cX3_write 42 = .ok (.iconst 1, 1) := by decide +kernel
theorem dX3_write_43 : decode cX3_write 43 = .ok (.isub, 1) := by decide +kernel
theorem dX3_write_44 : decode cX3_write 44 = .ok (.invokestatic 66, 3) := by decide +kernel
theorem dX3_write_47 : decode cX3_write 47 = .ok (.ifCond .ne 9, 3) := by decide +kernel
theorem dX3_write_50 : decode cX3_write 50 = .ok (.aload_n 0, 1) := by decide +kernel
theorem dX3_write_51 : decode cX3_write 51 = .ok (.iconst 0, 1) := by decide +kernel
theorem dX3_write_52 : decode cX3_write 52 = .ok (.invokevirtual 52, 3) := by decide +kernel
theorem dX3_write_55 : decode cX3_write 55 = .ok (.ireturn, 1) := by decide +kernel
theorem dX3_write_56 : decode cX3_write 56 = .ok (.aload_n 0, 1) := by decide +kernel
theorem dX3_write_57 : decode cX3_write 57 = .ok (.getfield 39, 3) := by decide +kernel
theorem dX3_write_60 : decode cX3_write 60 = .ok (.iload_n 1, 1) := by decide +kernel
theorem dX3_write_61 : decode cX3_write 61 = .ok (.aaload, 1) := by decide +kernel
theorem dX3_write_62 : decode cX3_write 62 = .ok (.iload_n 2, 1) := by decide +kernel
theorem dX3_write_63 : decode cX3_write 63 = .ok (.iload_n 3, 1) := by decide +kernel
theorem dX3_write_64 : decode cX3_write 64 = .ok (.invokevirtual 263, 3) := by decide +kernel
theorem dX3_write_67 : decode cX3_write 67 = .ok (.iconst 1, 1) := by decide +kernel
theorem dX3_write_68 : decode cX3_write 68 = .ok (.ireturn, 1) := by decide +kernel
theorem dX3_copy_0 : decode cX3_copy 0 = .ok (.iload_n 1, 1) := by decide +kernel
theorem dX3_copy_1 : decode cX3_copy 1 = .ok (.invokestatic 248, 3) := by decide +kernel
theorem dX3_copy_4 : decode cX3_copy 4 = .ok (.ifCond .eq 10, 3) := by decide +kernel
theorem dX3_copy_7 : decode cX3_copy 7 = .ok (.iload_n 3, 1) := by decide +kernel
theorem dX3_copy_8 : decode cX3_copy 8 = .ok (.invokestatic 248, 3) := by decide +kernel
theorem dX3_copy_11 : decode cX3_copy 11 = .ok (.ifCond .ne 9, 3) := by decide +kernel
theorem dX3_copy_14 : decode cX3_copy 14 = .ok (.aload_n 0, 1) := by decide +kernel
theorem dX3_copy_15 : decode cX3_copy 15 = .ok (.iconst 0, 1) := by decide +kernel
theorem dX3_copy_16 : decode cX3_copy 16 = .ok (.invokevirtual 52, 3) := by decide +kernel
theorem dX3_copy_19 : decode cX3_copy 19 = .ok (.ireturn, 1) := by decide +kernel
theorem dX3_copy_20 : decode cX3_copy 20 = .ok (.aload_n 0, 1) := by decide +kernel
theorem dX3_copy_21 : decode cX3_copy 21 = .ok (.getfield 39, 3) := by decide +kernel
theorem dX3_copy_24 : decode cX3_copy 24 = .ok (.iload_n 1, 1) := by decide +kernel
theorem dX3_copy_25 : decode cX3_copy 25 = .ok (.aaload, 1) := by decide +kernel
theorem dX3_copy_26 : decode cX3_copy 26 = .ok (.astore 6, 2) := by decide +kernel
theorem dX3_copy_28 : decode cX3_copy 28 = .ok (.aload_n 0, 1) := by decide +kernel
theorem dX3_copy_29 : decode cX3_copy 29 = .ok (.getfield 39, 3) := by decide +kernel
theorem dX3_copy_32 : decode cX3_copy 32 = .ok (.iload_n 3, 1) := by decide +kernel
theorem dX3_copy_33 : decode cX3_copy 33 = .ok (.aaload, 1) := by decide +kernel
theorem dX3_copy_34 : decode cX3_copy 34 = .ok (.astore 7, 2) := by decide +kernel
theorem dX3_copy_36 : decode cX3_copy 36 = .ok (.aload 6, 2) := by decide +kernel
theorem dX3_copy_38 : decode cX3_copy 38 = .ok (.getfield 260, 3) := by decide +kernel
theorem dX3_copy_41 : decode cX3_copy 41 = .ok (.ifCond .eq 11, 3) := by decide +kernel
theorem dX3_copy_44 : decode cX3_copy 44 = .ok (.aload 7, 2) := by decide +kernel
theorem dX3_copy_46 : decode cX3_copy 46 = .ok (.getfield 260, 3) := by decide +kernel
theorem dX3_copy_49 : decode cX3_copy 49 = .ok (.ifCond .ne 9, 3) := by decide +kernel
theorem dX3_copy_52 : decode cX3_copy 52 = .ok (.aload_n 0, 1) := by decide +kernel
theorem dX3_copy_53 : decode cX3_copy 53 = .ok (.iconst 5, 1) := by decide +kernel
theorem dX3_copy_54 : decode cX3_copy 54 = .ok (.invokevirtual 52, 3) := by decide +kernel
theorem dX3_copy_57 : decode cX3_copy 57 = .ok (.ireturn, 1) := by decide +kernel
theorem dX3_copy_58 : decode cX3_copy 58 = .ok (.aload 6, 2) := by decide +kernel
theorem dX3_copy_60 : decode cX3_copy 60 = .ok (.getfield 260, 3) := by decide +kernel
theorem dX3_copy_63 : decode cX3_copy 63 = .ok (.aload 7, 2) := by decide +kernel
theorem dX3_copy_65 : decode cX3_copy 65 = .ok (.getfield 260, 3) := by decide +kernel
theorem dX3_copy_68 : decode cX3_copy 68 = .ok (.if_icmp .eq 9, 3) := by decide +kernel
theorem dX3_copy_71 : decode cX3_copy 71 = .ok (.aload_n 0, 1) := by decide +kernel
theorem dX3_copy_72 : decode cX3_copy 72 = .ok (.iconst 2, 1) := by decide +kernel
theorem dX3_copy_73 : decode cX3_copy 73 = .ok (.invokevirtual 52, 3) := by decide +kernel
theorem dX3_copy_76 : decode cX3_copy 76 = .ok (.ireturn, 1) := by decide +kernel
theorem dX3_copy_77 : decode cX3_copy 77 = .ok (.iload 5, 2) := by decide +kernel
theorem dX3_copy_79 : decode cX3_copy 79 = .ok (.ifCond .lt 26, 3) := by decide +kernel
theorem dX3_copy_82 : decode cX3_copy 82 = .ok (.aload 6, 2) := by decide +kernel
theorem dX3_copy_84 : decode cX3_copy 84 = .ok (.iload_n 2, 1) := by decide +kernel
theorem dX3_copy_85 : decode cX3_copy 85 = .ok (.iload 5, 2) := by decide +kernel
theorem dX3_copy_87 : decode cX3_copy 87 = .ok (.invokevirtual 264, 3) := by decide +kernel
theorem dX3_copy_90 : decode cX3_copy 90 = .ok (.ifCond .eq 15, 3) := by decide +kernel
theorem dX3_copy_93 : decode cX3_copy 93 = .ok (.aload 7, 2) := by decide +kernel
theorem dX3_copy_95 : decode cX3_copy 95 = .ok (.iload 4, 2) := by decide +kernel
theorem dX3_copy_97 : decode cX3_copy 97 = .ok (.iload 5, 2) := by decide +kernel
theorem dX3_copy_99 : decode cX3_copy 99 = .ok (.invokevirtual 264, 3) := by decide +kernel
theorem dX3_copy_102 : decode cX3_copy 102 = .ok (.ifCond .ne 9, 3) := by decide +kernel
theorem dX3_copy_105 : decode cX3_copy 105 = .ok (.aload_n 0, 1) := by decide +kernel
theorem dX3_copy_106 : decode cX3_copy 106 = .ok (.iconst 0, 1) := by decide +kernel
theorem dX3_copy_107 : decode cX3_copy 107 = .ok (.invokevirtual 52, 3) := by decide +kernel
theorem dX3_copy_110 : decode cX3_copy 110 = .ok (.ireturn, 1) := by decide +kernel
theorem dX3_copy_111 : decode cX3_copy 111 = .ok (.aload 6, 2) := by decide +kernel
theorem dX3_copy_113 : decode cX3_copy 113 = .ok (.getfield 267, 3) := by decide +kernel
theorem dX3_copy_116 : decode cX3_copy 116 = .ok (.iload_n 2, 1) := by decide +kernel
theorem dX3_copy_117 : decode cX3_copy 117 = .ok (.aload 7, 2) := by decide +kernel
theorem dX3_copy_119 : decode cX3_copy 119 = .ok (.getfield 267, 3) := by decide +kernel
theorem dX3_copy_122 : decode cX3_copy 122 = .ok (.iload 4, 2) := by decide +kernel
theorem dX3_copy_124 : decode cX3_copy 124 = .ok (.iload 5, 2) := by decide +kernel
theorem dX3_copy_126 : decode cX3_copy 126 = .ok (.invokestatic 270, 3) := by decide +kernel
theorem dX3_copy_129 : decode cX3_copy 129 = .ok (.iload 5, 2) := by decide +kernel
theorem dX3_copy_131 : decode cX3_copy 131 = .ok (.ireturn, 1) := by decide +kernel
theorem dX3_load_0 : decode cX3_load 0 = .ok (.iload_n 1, 1) := by decide +kernel
theorem dX3_load_1 : decode cX3_load 1 = .ok (.invokestatic 248, 3) := by decide +kernel
theorem dX3_load_4 : decode cX3_load 4 = .ok (.ifCond .ne 9, 3) := by decide +kernel
theorem dX3_load_7 : decode cX3_load 7 = .ok (.aload_n 0, 1) := by decide +kernel
theorem dX3_load_8 : decode cX3_load 8 = .ok (.iconst 0, 1) := by decide +kernel
theorem dX3_load_9 : decode cX3_load 9 = .ok (.invokevirtual 52, 3) := by decide +kernel
theorem dX3_load_12 : decode cX3_load 12 = .ok (.ireturn, 1) := by decide +kernel
theorem dX3_load_13 : decode cX3_load 13 = .ok (.aload_n 0, 1) := by decide +kernel
theorem dX3_load_14 : decode cX3_load 14 = .ok (.getfield 39, 3) := by decide +kernel
theorem dX3_load_17 : decode cX3_load 17 = .ok (.iload_n 1, 1) := by decide +kernel
theorem dX3_load_18 : decode cX3_load 18 = .ok (.aaload, 1) := by decide +kernel
theorem dX3_load_19 : decode cX3_load 19 = .ok (.astore_n 2, 1) := by decide +kernel
theorem dX3_load_20 : decode cX3_load 20 = .ok (.aload_n 2, 1) := by decide +kernel
theorem dX3_load_21 : decode cX3_load 21 = .ok (.getfield 260, 3) := by decide +kernel
theorem dX3_load_24 : decode cX3_load 24 = .ok (.ifCond .ne 9, 3) := by decide +kernel
theorem dX3_load_27 : decode cX3_load 27 = .ok (.aload_n 0, 1) := by decide +kernel
theorem dX3_load_28 : decode cX3_load 28 = .ok (.iconst 5, 1) := by decide +kernel
theorem dX3_load_29 : decode cX3_load 29 = .ok (.invokevirtual 52, 3) := by decide +kernel
theorem dX3_load_32 : decode cX3_load 32 = .ok (.ireturn, 1) := by decide +kernel
theorem dX3_load_33 : decode cX3_load 33 = .ok (.iconst 0, 1) := by decide +kernel
theorem dX3_load_34 : decode cX3_load 34 = .ok (.istore_n 3, 1) := by decide +kernel
theorem dX3_load_35 : decode cX3_load 35 = .ok (.iload_n 3, 1) := by decide +kernel
theorem dX3_load_36 : decode cX3_load 36 = .ok (.aload_n 2, 1) := by decide +kernel
theorem dX3_load_37 : decode cX3_load 37 = .ok (.getfield 257, 3) := by decide +kernel
theorem dX3_load_40 : decode cX3_load 40 = .ok (.if_icmp .ge 61, 3) := by decide +kernel
theorem dX3_load_43 : decode cX3_load 43 = .ok (.aload_n 2, 1) := by decide +kernel
theorem dX3_load_44 : decode cX3_load 44 = .ok (.getfield 267, 3) := by decide +kernel
theorem dX3_load_47 : decode cX3_load 47 = .ok (.iload_n 3, 1) := by decide +kernel
theorem dX3_load_48 : decode cX3_load 48 = .ok (.iaload, 1) := by decide +kernel
theorem dX3_load_49 : decode cX3_load 49 = .ok (.istore 4, 2) := by decide +kernel
theorem dX3_load_51 : decode cX3_load 51 = .ok (.aload_n 0, 1) := by decide +kernel
theorem dX3_load_52 : decode cX3_load 52 = .ok (.getfield 12, 3) := by decide +kernel
theorem dX3_load_55 : decode cX3_load 55 = .ok (.invokevirtual 214, 3) := by decide +kernel
theorem dX3_load_58 : decode cX3_load 58 = .ok (.istore 5, 2) := by decide +kernel
theorem dX3_load_60 : decode cX3_load 60 = .ok (.iload 4, 2) := by decide +kernel
theorem dX3_load_62 : decode cX3_load 62 = .ok (.invokestatic 121, 3) := by decide +kernel
theorem dX3_load_65 : decode cX3_load 65 = .ok (.ifCond .eq 36, 3) := by decide +kernel
theorem dX3_load_68 : decode cX3_load 68 = .ok (.iload 5, 2) := by decide +kernel
theorem dX3_load_70 : decode cX3_load 70 = .ok (.ifCond .lt 31, 3) := by decide +kernel
