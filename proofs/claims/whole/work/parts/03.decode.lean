theorem dX0_init_0 : decode cX0_init 0 = .ok (.aload_n 0, 1) := by decide +kernel
theorem dX0_init_1 : decode cX0_init 1 = .ok (.iload_n 1, 1) := by decide +kernel
theorem dX0_init_2 : decode cX0_init 2 = .ok (.invokespecial 1, 3) := by decide +kernel
theorem dX0_init_5 : decode cX0_init 5 = .ok (.return_, 1) := by decide +kernel
theorem dX0_kind_0 : decode cX0_kind 0 = .ok (.bipush 6, 2) := by decide +kernel
theorem dX0_kind_2 : decode cX0_kind 2 = .ok (.ireturn, 1) := by decide +kernel
theorem dX0_landing_0 : decode cX0_landing 0 = .ok (.iload_n 1, 1) := by decide +kernel
theorem dX0_landing_1 : decode cX0_landing 1 = .ok (.iconst 3, 1) := by decide +kernel
theorem dX0_landing_2 : decode cX0_landing 2 = .ok (.idiv, 1) := by decide +kernel
theorem dX0_landing_3 : decode cX0_landing 3 = .ok (.iconst 3, 1) := by decide +kernel
theorem dX0_landing_4 : decode cX0_landing 4 = .ok (.imul, 1) := by decide +kernel
theorem dX0_landing_5 : decode cX0_landing 5 = .ok (.iconst 1, 1) := by decide +kernel
theorem dX0_landing_6 : decode cX0_landing 6 = .ok (.iadd, 1) := by decide +kernel
theorem dX0_landing_7 : decode cX0_landing 7 = .ok (.ireturn, 1) := by decide +kernel
theorem dX0_price_0 : decode cX0_price 0 = .ok (.aload_n 0, 1) := by decide +kernel
theorem dX0_price_1 : decode cX0_price 1 = .ok (.getfield 7, 3) := by decide +kernel
theorem dX0_price_4 : decode cX0_price 4 = .ok (.ireturn, 1) := by decide +kernel
theorem dX1_init_0 : decode cX1_init 0 = .ok (.aload_n 0, 1) := by decide +kernel
theorem dX1_init_1 : decode cX1_init 1 = .ok (.invokespecial 3, 3) := by decide +kernel
theorem dX1_init_4 : decode cX1_init 4 = .ok (.aload_n 0, 1) := by decide +kernel
theorem dX1_init_5 : decode cX1_init 5 = .ok (.iconst 4, 1) := by decide +kernel
theorem dX1_init_6 : decode cX1_init 6 = .ok (.newarray .int, 2) := by decide +kernel
theorem dX1_init_8 : decode cX1_init 8 = .ok (.dup, 1) := by decide +kernel
theorem dX1_init_9 : decode cX1_init 9 = .ok (.iconst 0, 1) := by decide +kernel
theorem dX1_init_10 : decode cX1_init 10 = .ok (.iconst 1, 1) := by decide +kernel
theorem dX1_init_11 : decode cX1_init 11 = .ok (.iastore, 1) := by decide +kernel
theorem dX1_init_12 : decode cX1_init 12 = .ok (.dup, 1) := by decide +kernel
theorem dX1_init_13 : decode cX1_init 13 = .ok (.iconst 1, 1) := by decide +kernel
theorem dX1_init_14 : decode cX1_init 14 = .ok (.bipush 7, 2) := by decide +kernel
theorem dX1_init_16 : decode cX1_init 16 = .ok (.iastore, 1) := by decide +kernel
theorem dX1_init_17 : decode cX1_init 17 = .ok (.dup, 1) := by decide +kernel
theorem dX1_init_18 : decode cX1_init 18 = .ok (.iconst 2, 1) := by decide +kernel
theorem dX1_init_19 : decode cX1_init 19 = .ok (.iconst 1, 1) := by decide +kernel
theorem dX1_init_20 : decode cX1_init 20 = .ok (.iastore, 1) := by decide +kernel
theorem dX1_init_21 : decode cX1_init 21 = .ok (.dup, 1) := by decide +kernel
theorem dX1_init_22 : decode cX1_init 22 = .ok (.iconst 3, 1) := by decide +kernel
theorem dX1_init_23 : decode cX1_init 23 = .ok (.bipush 7, 2) := by decide +kernel
theorem dX1_init_25 : decode cX1_init 25 = .ok (.iastore, 1) := by decide +kernel
theorem dX1_init_26 : decode cX1_init 26 = .ok (.putfield 9, 3) := by decide +kernel
theorem dX1_init_29 : decode cX1_init 29 = .ok (.aload_n 0, 1) := by decide +kernel
theorem dX1_init_30 : decode cX1_init 30 = .ok (.iconst 4, 1) := by decide +kernel
theorem dX1_init_31 : decode cX1_init 31 = .ok (.newarray .int, 2) := by decide +kernel
theorem dX1_init_33 : decode cX1_init 33 = .ok (.dup, 1) := by decide +kernel
theorem dX1_init_34 : decode cX1_init 34 = .ok (.iconst 0, 1) := by decide +kernel
theorem dX1_init_35 : decode cX1_init 35 = .ok (.iconst 1, 1) := by decide +kernel
theorem dX1_init_36 : decode cX1_init 36 = .ok (.iastore, 1) := by decide +kernel
theorem dX1_init_37 : decode cX1_init 37 = .ok (.dup, 1) := by decide +kernel
theorem dX1_init_38 : decode cX1_init 38 = .ok (.iconst 1, 1) := by decide +kernel
theorem dX1_init_39 : decode cX1_init 39 = .ok (.iconst 1, 1) := by decide +kernel
theorem dX1_init_40 : decode cX1_init 40 = .ok (.iastore, 1) := by decide +kernel
theorem dX1_init_41 : decode cX1_init 41 = .ok (.dup, 1) := by decide +kernel
theorem dX1_init_42 : decode cX1_init 42 = .ok (.iconst 2, 1) := by decide +kernel
theorem dX1_init_43 : decode cX1_init 43 = .ok (.iconst 1, 1) := by decide +kernel
theorem dX1_init_44 : decode cX1_init 44 = .ok (.iastore, 1) := by decide +kernel
theorem dX1_init_45 : decode cX1_init 45 = .ok (.dup, 1) := by decide +kernel
theorem dX1_init_46 : decode cX1_init 46 = .ok (.iconst 3, 1) := by decide +kernel
theorem dX1_init_47 : decode cX1_init 47 = .ok (.iconst 1, 1) := by decide +kernel
theorem dX1_init_48 : decode cX1_init 48 = .ok (.iastore, 1) := by decide +kernel
theorem dX1_init_49 : decode cX1_init 49 = .ok (.putfield 15, 3) := by decide +kernel
theorem dX1_init_52 : decode cX1_init 52 = .ok (.aload_n 0, 1) := by decide +kernel
theorem dX1_init_53 : decode cX1_init 53 = .ok (.iconst 4, 1) := by decide +kernel
theorem dX1_init_54 : decode cX1_init 54 = .ok (.newarray .int, 2) := by decide +kernel
theorem dX1_init_56 : decode cX1_init 56 = .ok (.putfield 18, 3) := by decide +kernel
theorem dX1_init_59 : decode cX1_init 59 = .ok (.aload_n 0, 1) := by decide +kernel
theorem dX1_init_60 : decode cX1_init 60 = .ok (.iconst 4, 1) := by decide +kernel
theorem dX1_init_61 : decode cX1_init 61 = .ok (.newarray .int, 2) := by decide +kernel
theorem dX1_init_63 : decode cX1_init 63 = .ok (.putfield 21, 3) := by decide +kernel
theorem dX1_init_66 : decode cX1_init 66 = .ok (.aload_n 0, 1) := by decide +kernel
theorem dX1_init_67 : decode cX1_init 67 = .ok (.iconst 2, 1) := by decide +kernel
theorem dX1_init_68 : decode cX1_init 68 = .ok (.newarray .int, 2) := by decide +kernel
theorem dX1_init_70 : decode cX1_init 70 = .ok (.putfield 24, 3) := by decide +kernel
theorem dX1_init_73 : decode cX1_init 73 = .ok (.aload_n 0, 1) := by decide +kernel
theorem dX1_init_74 : decode cX1_init 74 = .ok (.iconst 2, 1) := by decide +kernel
theorem dX1_init_75 : decode cX1_init 75 = .ok (.newarray .int, 2) := by decide +kernel
theorem dX1_init_77 : decode cX1_init 77 = .ok (.dup, 1) := by decide +kernel
theorem dX1_init_78 : decode cX1_init 78 = .ok (.iconst 0, 1) := by decide +kernel
theorem dX1_init_79 : decode cX1_init 79 = .ok (.iconst 1, 1) := by decide +kernel
theorem dX1_init_80 : decode cX1_init 80 = .ok (.iastore, 1) := by decide +kernel
theorem dX1_init_81 : decode cX1_init 81 = .ok (.dup, 1) := by decide +kernel
theorem dX1_init_82 : decode cX1_init 82 = .ok (.iconst 1, 1) := by decide +kernel
theorem dX1_init_83 : decode cX1_init 83 = .ok (.iconst 1, 1) := by decide +kernel
theorem dX1_init_84 : decode cX1_init 84 = .ok (.iastore, 1) := by decide +kernel
theorem dX1_init_85 : decode cX1_init 85 = .ok (.putfield 27, 3) := by decide +kernel
theorem dX1_init_88 : decode cX1_init 88 = .ok (.aload_n 0, 1) := by decide +kernel
theorem dX1_init_89 : decode cX1_init 89 = .ok (.iconst 2, 1) := by decide +kernel
theorem dX1_init_90 : decode cX1_init 90 = .ok (.newarray .int, 2) := by decide +kernel
theorem dX1_init_92 : decode cX1_init 92 = .ok (.putfield 30, 3) := by decide +kernel
theorem dX1_init_95 : decode cX1_init 95 = .ok (.aload_n 0, 1) := by decide +kernel
theorem dX1_init_96 : decode cX1_init 96 = .ok (.bipush 8, 2) := by decide +kernel
theorem dX1_init_98 : decode cX1_init 98 = .ok (.anewarray 33, 3) := by decide +kernel
theorem dX1_init_101 : decode cX1_init 101 = .ok (.putfield 35, 3) := by decide +kernel
theorem dX1_init_104 : decode cX1_init 104 = .ok (.return_, 1) := by decide +kernel
theorem dX1_become_0 : decode cX1_become 0 = .ok (.aload_n 1, 1) := by decide +kernel
theorem dX1_become_1 : decode cX1_become 1 = .ok (.getfield 9, 3) := by decide +kernel
theorem dX1_become_4 : decode cX1_become 4 = .ok (.iconst 0, 1) := by decide +kernel
theorem dX1_become_5 : decode cX1_become 5 = .ok (.aload_n 0, 1) := by decide +kernel
theorem dX1_become_6 : decode cX1_become 6 = .ok (.getfield 9, 3) := by decide +kernel
theorem dX1_become_9 : decode cX1_become 9 = .ok (.iconst 0, 1) := by decide +kernel
theorem dX1_become_10 : decode cX1_become 10 = .ok (.iconst 4, 1) := by decide +kernel
theorem dX1_become_11 : decode cX1_become 11 = .ok (.invokestatic 39, 3) := by decide +kernel
theorem dX1_become_14 : decode cX1_become 14 = .ok (.aload_n 1, 1) := by decide +kernel
theorem dX1_become_15 : decode cX1_become 15 = .ok (.getfield 15, 3) := by decide +kernel
theorem dX1_become_18 : decode cX1_become 18 = .ok (.iconst 0, 1) := by decide +kernel
theorem dX1_become_19 : decode cX1_become 19 = .ok (.aload_n 0, 1) := by decide +kernel
theorem dX1_become_20 : decode cX1_become 20 = .ok (.getfield 15, 3) := by decide +kernel
theorem dX1_become_23 : decode cX1_become 23 = .ok (.iconst 0, 1) := by decide +kernel
theorem dX1_become_24 : decode cX1_become 24 = .ok (.iconst 4, 1) := by decide +kernel
theorem dX1_become_25 : decode cX1_become 25 = .ok (.invokestatic 39, 3) := by decide +kernel
theorem dX1_become_28 : decode cX1_become 28 = .ok (.aload_n 1, 1) := by decide +kernel
theorem dX1_become_29 : decode cX1_become 29 = .ok (.getfield 18, 3) := by decide +kernel
theorem dX1_become_32 : decode cX1_become 32 = .ok (.iconst 0, 1) := by decide +kernel
theorem dX1_become_33 : decode cX1_become 33 = .ok (.aload_n 0, 1) := by decide +kernel
theorem dX1_become_34 : decode cX1_become 34 = .ok (.getfield 18, 3) := by decide +kernel
theorem dX1_become_37 : decode cX1_become 37 = .ok (.iconst 0, 1) := by decide +kernel
theorem dX1_become_38 : decode cX1_become 38 = .ok (.iconst 4, 1) := by decide +kernel
theorem dX1_become_39 : decode cX1_become 39 = .ok (.invokestatic 39, 3) := by decide +kernel
theorem dX1_become_42 : decode cX1_become 42 = .ok (.aload_n 1, 1) := by decide +kernel
theorem dX1_become_43 : decode cX1_become 43 = .ok (.getfield 21, 3) := by decide +kernel
theorem dX1_become_46 : decode cX1_become 46 = .ok (.iconst 0, 1) := by decide +kernel
theorem dX1_become_47 : decode cX1_become 47 = .ok (.aload_n 0, 1) := by decide +kernel
theorem dX1_become_48 : decode cX1_become 48 = .ok (.getfield 21, 3) := by decide +kernel
theorem dX1_become_51 : decode cX1_become 51 = .ok (.iconst 0, 1) := by decide +kernel
theorem dX1_become_52 : decode cX1_become 52 = .ok (.iconst 4, 1) := by decide +kernel
theorem dX1_become_53 : decode cX1_become 53 = .ok (.invokestatic 39, 3) := by decide +kernel
theorem dX1_become_56 : decode cX1_become 56 = .ok (.aload_n 1, 1) := by decide +kernel
theorem dX1_become_57 : decode cX1_become 57 = .ok (.getfield 24, 3) := by decide +kernel
theorem dX1_become_60 : decode cX1_become 60 = .ok (.iconst 0, 1) := by decide +kernel
theorem dX1_become_61 : decode cX1_become 61 = .ok (.aload_n 0, 1) := by decide +kernel
theorem dX1_become_62 : decode cX1_become 62 = .ok (.getfield 24, 3) := by decide +kernel
theorem dX1_become_65 : decode cX1_become 65 = .ok (.iconst 0, 1) := by decide +kernel
theorem dX1_become_66 : decode cX1_become 66 = .ok (.iconst 2, 1) := by decide +kernel
theorem dX1_become_67 : decode cX1_become 67 = .ok (.invokestatic 39, 3) := by decide +kernel
theorem dX1_become_70 : decode cX1_become 70 = .ok (.aload_n 1, 1) := by decide +kernel
theorem dX1_become_71 : decode cX1_become 71 = .ok (.getfield 27, 3) := by decide +kernel
theorem dX1_become_74 : decode cX1_become 74 = .ok (.iconst 0, 1) := by decide +kernel
theorem dX1_become_75 : decode cX1_become 75 = .ok (.aload_n 0, 1) := by decide +kernel
theorem dX1_become_76 : decode cX1_become 76 = .ok (.getfield 27, 3) := by decide +kernel
theorem dX1_become_79 : decode cX1_become 79 = .ok (.iconst 0, 1) := by decide +kernel
theorem dX1_become_80 : decode cX1_become 80 = .ok (.iconst 2, 1) := by decide +kernel
theorem dX1_become_81 : decode cX1_become 81 = .ok (.invokestatic 39, 3) := by decide +kernel
theorem dX1_become_84 : decode cX1_become 84 = .ok (.aload_n 1, 1) := by decide +kernel
theorem dX1_become_85 : decode cX1_become 85 = .ok (.getfield 30, 3) := by decide +kernel
theorem dX1_become_88 : decode cX1_become 88 = .ok (.iconst 0, 1) := by decide +kernel
theorem dX1_become_89 : decode cX1_become 89 = .ok (.aload_n 0, 1) := by decide +kernel
theorem dX1_become_90 : decode cX1_become 90 = .ok (.getfield 30, 3) := by decide +kernel
theorem dX1_become_93 : decode cX1_become 93 = .ok (.iconst 0, 1) := by decide +kernel
theorem dX1_become_94 : decode cX1_become 94 = .ok (.iconst 2, 1) := by decide +kernel
theorem dX1_become_95 : decode cX1_become 95 = .ok (.invokestatic 39, 3) := by decide +kernel
theorem dX1_become_98 : decode cX1_become 98 = .ok (.aload_n 0, 1) := by decide +kernel
theorem dX1_become_99 : decode cX1_become 99 = .ok (.aload_n 1, 1) := by decide +kernel
theorem dX1_become_100 : decode cX1_become 100 = .ok (.getfield 45, 3) := by decide +kernel
theorem dX1_become_103 : decode cX1_become 103 = .ok (.putfield 45, 3) := by decide +kernel
theorem dX1_become_106 : decode cX1_become 106 = .ok (.iconst 0, 1) := by decide +kernel
theorem dX1_become_107 : decode cX1_become 107 = .ok (.istore_n 2, 1) := by decide +kernel
theorem dX1_become_108 : decode cX1_become 108 = .ok (.iload_n 2, 1) := by decide +kernel
theorem dX1_become_109 : decode cX1_become 109 = .ok (.aload_n 0, 1) := by decide +kernel
theorem dX1_become_110 : decode cX1_become 110 = .ok (.getfield 45, 3) := by decide +kernel
theorem dX1_become_113 : decode cX1_become 113 = .ok (.if_icmp .ge 21, 3) := by decide +kernel
theorem dX1_become_116 : decode cX1_become 116 = .ok (.aload_n 0, 1) := by decide +kernel
theorem dX1_become_117 : decode cX1_become 117 = .ok (.getfield 35, 3) := by decide +kernel
theorem dX1_become_120 : decode cX1_become 120 = .ok (.iload_n 2, 1) := by decide +kernel
theorem dX1_become_121 : decode cX1_become 121 = .ok (.aload_n 1, 1) := by decide +kernel
theorem dX1_become_122 : decode cX1_become 122 = .ok (.getfield 35, 3) := by decide +kernel
theorem dX1_become_125 : decode cX1_become 125 = .ok (.iload_n 2, 1) := by decide +kernel
theorem dX1_become_126 : decode cX1_become 126 = .ok (.aaload, 1) := by decide +kernel
theorem dX1_become_127 : decode cX1_become 127 = .ok (.aastore, 1) := by decide +kernel
theorem dX1_become_128 : decode cX1_become 128 = .ok (.iinc 2 1, 3) := by decide +kernel
theorem dX1_become_131 : decode cX1_become 131 = .ok (.goto (-23), 3) := by decide +kernel
theorem dX1_become_134 : decode cX1_become 134 = .ok (.aload_n 0, 1) := by decide +kernel
theorem dX1_become_135 : decode cX1_become 135 = .ok (.aload_n 1, 1) := by decide +kernel
theorem dX1_become_136 : decode cX1_become 136 = .ok (.getfield 49, 3) := by decide +kernel
theorem dX1_become_139 : decode cX1_become 139 = .ok (.putfield 49, 3) := by decide +kernel
theorem dX1_become_142 : decode cX1_become 142 = .ok (.aload_n 0, 1) := by decide +kernel
theorem dX1_become_143 : decode cX1_become 143 = .ok (.aload_n 1, 1) := by decide +kernel
theorem dX1_become_144 : decode cX1_become 144 = .ok (.getfield 52, 3) := by decide +kernel
theorem dX1_become_147 : decode cX1_become 147 = .ok (.putfield 52, 3) := by decide +kernel
theorem dX1_become_150 : decode cX1_become 150 = .ok (.aload_n 0, 1) := by decide +kernel
theorem dX1_become_151 : decode cX1_become 151 = .ok (.aload_n 1, 1) := by decide +kernel
theorem dX1_become_152 : decode cX1_become 152 = .ok (.getfield 55, 3) := by decide +kernel
theorem dX1_become_155 : decode cX1_become 155 = .ok (.putfield 55, 3) := by decide +kernel
theorem dX1_become_158 : decode cX1_become 158 = .ok (.return_, 1) := by decide +kernel
theorem dX1_knows_0 : decode cX1_knows 0 = .ok (.iload_n 1, 1) := by decide +kernel
theorem dX1_knows_1 : decode cX1_knows 1 = .ok (.aload_n 0, 1) := by decide +kernel
theorem dX1_knows_2 : decode cX1_knows 2 = .ok (.getfield 45, 3) := by decide +kernel
theorem dX1_knows_5 : decode cX1_knows 5 = .ok (.invokestatic 58, 3) := by decide +kernel
theorem dX1_knows_8 : decode cX1_knows 8 = .ok (.ireturn, 1) := by decide +kernel
theorem dX1_isHit_0 : decode cX1_isHit 0 = .ok (.aload_n 0, 1) := by decide +kernel
theorem dX1_isHit_1 : decode cX1_isHit 1 = .ok (.iload_n 1, 1) := by decide +kernel
theorem dX1_isHit_2 : decode cX1_isHit 2 = .ok (.invokevirtual 62, 3) := by decide +kernel
theorem dX1_isHit_5 : decode cX1_isHit 5 = .ok (.ifCond .eq 16, 3) := by decide +kernel
theorem dX1_isHit_8 : decode cX1_isHit 8 = .ok (.iload_n 2, 1) := by decide +kernel
theorem dX1_isHit_9 : decode cX1_isHit 9 = .ok (.bipush 9, 2) := by decide +kernel
theorem dX1_isHit_11 : decode cX1_isHit 11 = .ok (.invokestatic 58, 3) := by decide +kernel
theorem dX1_isHit_14 : decode cX1_isHit 14 = .ok (.ifCond .eq 7, 3) := by decide +kernel
theorem dX1_isHit_17 : decode cX1_isHit 17 = .ok (.iconst 1, 1) := by decide +kernel
theorem dX1_isHit_18 : decode cX1_isHit 18 = .ok (.goto 4, 3) := by decide +kernel
theorem dX1_isHit_21 : decode cX1_isHit 21 = .ok (.iconst 0, 1) := by decide +kernel
theorem dX1_isHit_22 : decode cX1_isHit 22 = .ok (.ireturn, 1) := by decide +kernel
theorem dX1_hitRefusal_0 : decode cX1_hitRefusal 0 = .ok (.aload_n 0, 1) := by decide +kernel
theorem dX1_hitRefusal_1 : decode cX1_hitRefusal 1 = .ok (.iload_n 1, 1) := by decide +kernel
theorem dX1_hitRefusal_2 : decode cX1_hitRefusal 2 = .ok (.iload_n 2, 1) := by decide +kernel
theorem dX1_hitRefusal_3 : decode cX1_hitRefusal 3 = .ok (.invokevirtual 66, 3) := by decide +kernel
theorem dX1_hitRefusal_6 : decode cX1_hitRefusal 6 = .ok (.ifCond .ne 5, 3) := by decide +kernel
theorem dX1_hitRefusal_9 : decode cX1_hitRefusal 9 = .ok (.iconst (-1), 1) := by decide +kernel
theorem dX1_hitRefusal_10 : decode cX1_hitRefusal 10 = .ok (.ireturn, 1) := by decide +kernel
theorem dX1_hitRefusal_11 : decode cX1_hitRefusal 11 = .ok (.aload_n 0, 1) := by decide +kernel
theorem dX1_hitRefusal_12 : decode cX1_hitRefusal 12 = .ok (.getfield 55, 3) := by decide +kernel
theorem dX1_hitRefusal_15 : decode cX1_hitRefusal 15 = .ok (.sipush 999, 3) := by decide +kernel
theorem dX1_hitRefusal_18 : decode cX1_hitRefusal 18 = .ok (.if_icmp .ge 25, 3) := by decide +kernel
theorem dX1_hitRefusal_21 : decode cX1_hitRefusal 21 = .ok (.aload_n 0, 1) := by decide +kernel
theorem dX1_hitRefusal_22 : decode cX1_hitRefusal 22 = .ok (.getfield 30, 3) := by decide +kernel
theorem dX1_hitRefusal_25 : decode cX1_hitRefusal 25 = .ok (.iconst 0, 1) := by decide +kernel
theorem dX1_hitRefusal_26 : decode cX1_hitRefusal 26 = .ok (.iaload, 1) := by decide +kernel
theorem dX1_hitRefusal_27 : decode cX1_hitRefusal 27 = .ok (.bipush 99, 2) := by decide +kernel
theorem dX1_hitRefusal_29 : decode cX1_hitRefusal 29 = .ok (.if_icmp .ge 14, 3) := by decide +kernel
theorem dX1_hitRefusal_32 : decode cX1_hitRefusal 32 = .ok (.aload_n 0, 1) := by decide +kernel
theorem dX1_hitRefusal_33 : decode cX1_hitRefusal 33 = .ok (.getfield 30, 3) := by decide +kernel
theorem dX1_hitRefusal_36 : decode cX1_hitRefusal 36 = .ok (.iconst 1, 1) := by decide +kernel
theorem dX1_hitRefusal_37 : decode cX1_hitRefusal 37 = .ok (.iaload, 1) := by decide +kernel
theorem dX1_hitRefusal_38 : decode cX1_hitRefusal 38 = .ok (.bipush 99, 2) := by decide +kernel
theorem dX1_hitRefusal_40 : decode cX1_hitRefusal 40 = .ok (.if_icmp .lt 7, 3) := by decide +kernel
theorem dX1_hitRefusal_43 : decode cX1_hitRefusal 43 = .ok (.iconst 1, 1) := by decide +kernel
theorem dX1_hitRefusal_44 : decode cX1_hitRefusal 44 = .ok (.goto 4, 3) := by decide +kernel
theorem dX1_hitRefusal_47 : decode cX1_hitRefusal 47 = .ok (.iconst 0, 1) := by decide +kernel
theorem dX1_hitRefusal_48 : decode cX1_hitRefusal 48 = .ok (.istore_n 3, 1) := by decide +kernel
theorem dX1_hitRefusal_49 : decode cX1_hitRefusal 49 = .ok (.iload_n 3, 1) := by decide +kernel
theorem dX1_hitRefusal_50 : decode cX1_hitRefusal 50 = .ok (.ifCond .eq 8, 3) := by decide +kernel
theorem dX1_hitRefusal_53 : decode cX1_hitRefusal 53 = .ok (.bipush (-3), 2) := by decide +kernel
theorem dX1_hitRefusal_55 : decode cX1_hitRefusal 55 = .ok (.goto 4, 3) := by decide +kernel
theorem dX1_hitRefusal_58 : decode cX1_hitRefusal 58 = .ok (.iconst 0, 1) := by decide +kernel
theorem dX1_hitRefusal_59 : decode cX1_hitRefusal 59 = .ok (.ireturn, 1) := by decide +kernel
theorem dX1_learn_0 : decode cX1_learn 0 = .ok (.aload_n 0, 1) := by decide +kernel
theorem dX1_learn_1 : decode cX1_learn 1 = .ok (.getfield 45, 3) := by decide +kernel
theorem dX1_learn_4 : decode cX1_learn 4 = .ok (.bipush 8, 2) := by decide +kernel
theorem dX1_learn_6 : decode cX1_learn 6 = .ok (.if_icmp .lt 6, 3) := by decide +kernel
theorem dX1_learn_9 : decode cX1_learn 9 = .ok (.bipush (-2), 2) := by decide +kernel
theorem dX1_learn_11 : decode cX1_learn 11 = .ok (.ireturn, 1) := by decide +kernel
theorem dX1_learn_12 : decode cX1_learn 12 = .ok (.aload_n 0, 1) := by decide +kernel
theorem dX1_learn_13 : decode cX1_learn 13 = .ok (.getfield 35, 3) := by decide +kernel
theorem dX1_learn_16 : decode cX1_learn 16 = .ok (.aload_n 0, 1) := by decide +kernel
theorem dX1_learn_17 : decode cX1_learn 17 = .ok (.getfield 45, 3) := by decide +kernel
theorem dX1_learn_20 : decode cX1_learn 20 = .ok (.aload_n 1, 1) := by decide +kernel
theorem dX1_learn_21 : decode cX1_learn 21 = .ok (.aastore, 1) := by decide +kernel
theorem dX1_learn_22 : decode cX1_learn 22 = .ok (.aload_n 0, 1) := by decide +kernel
theorem dX1_learn_23 : decode cX1_learn 23 = .ok (.dup, 1) := by decide +kernel
theorem dX1_learn_24 : decode cX1_learn 24 = .ok (.getfield 45, 3) := by decide +kernel
theorem dX1_learn_27 : decode cX1_learn 27 = .ok (.iconst 1, 1) := by decide +kernel
theorem dX1_learn_28 : decode cX1_learn 28 = .ok (.iadd, 1) := by decide +kernel
theorem dX1_learn_29 : decode cX1_learn 29 = .ok (.putfield 45, 3) := by decide +kernel
theorem dX1_learn_32 : decode cX1_learn 32 = .ok (.aload_n 0, 1) := by decide +kernel
theorem dX1_learn_33 : decode cX1_learn 33 = .ok (.getfield 45, 3) := by decide +kernel
theorem dX1_learn_36 : decode cX1_learn 36 = .ok (.iconst 1, 1) := by decide +kernel
theorem dX1_learn_37 : decode cX1_learn 37 = .ok (.isub, 1) := by decide +kernel
theorem dX1_learn_38 : decode cX1_learn 38 = .ok (.ireturn, 1) := by decide +kernel
theorem dX1_standAt_0 : decode cX1_standAt 0 = .ok (.iload_n 1, 1) := by decide +kernel
theorem dX1_standAt_1 : decode cX1_standAt 1 = .ok (.iconst 4, 1) := by decide +kernel
theorem dX1_standAt_2 : decode cX1_standAt 2 = .ok (.invokestatic 58, 3) := by decide +kernel
theorem dX1_standAt_5 : decode cX1_standAt 5 = .ok (.ifCond .eq 22, 3) := by decide +kernel
theorem dX1_standAt_8 : decode cX1_standAt 8 = .ok (.iload_n 2, 1) := by decide +kernel
theorem dX1_standAt_9 : decode cX1_standAt 9 = .ok (.bipush 9, 2) := by decide +kernel
theorem dX1_standAt_11 : decode cX1_standAt 11 = .ok (.invokestatic 58, 3) := by decide +kernel
theorem dX1_standAt_14 : decode cX1_standAt 14 = .ok (.ifCond .eq 13, 3) := by decide +kernel
theorem dX1_standAt_17 : decode cX1_standAt 17 = .ok (.iload_n 3, 1) := by decide +kernel
theorem dX1_standAt_18 : decode cX1_standAt 18 = .ok (.iconst 1, 1) := by decide +kernel
theorem dX1_standAt_19 : decode cX1_standAt 19 = .ok (.if_icmp .lt 8, 3) := by decide +kernel
theorem dX1_standAt_22 : decode cX1_standAt 22 = .ok (.iload_n 3, 1) := by decide +kernel
theorem dX1_standAt_23 : decode cX1_standAt 23 = .ok (.iconst 4, 1) := by decide +kernel
theorem dX1_standAt_24 : decode cX1_standAt 24 = .ok (.if_icmp .le 5, 3) := by decide +kernel
theorem dX1_standAt_27 : decode cX1_standAt 27 = .ok (.iconst (-1), 1) := by decide +kernel
theorem dX1_standAt_28 : decode cX1_standAt 28 = .ok (.ireturn, 1) := by decide +kernel
theorem dX1_standAt_29 : decode cX1_standAt 29 = .ok (.aload_n 0, 1) := by decide +kernel
theorem dX1_standAt_30 : decode cX1_standAt 30 = .ok (.getfield 9, 3) := by decide +kernel
theorem dX1_standAt_33 : decode cX1_standAt 33 = .ok (.iload_n 1, 1) := by decide +kernel
theorem dX1_standAt_34 : decode cX1_standAt 34 = .ok (.iaload, 1) := by decide +kernel
theorem dX1_standAt_35 : decode cX1_standAt 35 = .ok (.istore 4, 2) := by decide +kernel
theorem dX1_standAt_37 : decode cX1_standAt 37 = .ok (.aload_n 0, 1) := by decide +kernel
theorem dX1_standAt_38 : decode cX1_standAt 38 = .ok (.getfield 9, 3) := by decide +kernel
theorem dX1_standAt_41 : decode cX1_standAt 41 = .ok (.iload_n 1, 1) := by decide +kernel
theorem dX1_standAt_42 : decode cX1_standAt 42 = .ok (.iload_n 2, 1) := by decide +kernel
theorem dX1_standAt_43 : decode cX1_standAt 43 = .ok (.iastore, 1) := by decide +kernel
theorem dX1_standAt_44 : decode cX1_standAt 44 = .ok (.aload_n 0, 1) := by decide +kernel
theorem dX1_standAt_45 : decode cX1_standAt 45 = .ok (.getfield 15, 3) := by decide +kernel
theorem dX1_standAt_48 : decode cX1_standAt 48 = .ok (.iload_n 1, 1) := by decide +kernel
theorem dX1_standAt_49 : decode cX1_standAt 49 = .ok (.iload_n 3, 1) := by decide +kernel
theorem dX1_standAt_50 : decode cX1_standAt 50 = .ok (.iastore, 1) := by decide +kernel
theorem dX1_standAt_51 : decode cX1_standAt 51 = .ok (.iload 4, 2) := by decide +kernel
theorem dX1_standAt_53 : decode cX1_standAt 53 = .ok (.ireturn, 1) := by decide +kernel
theorem dX1_setTired_0 : decode cX1_setTired 0 = .ok (.iload_n 1, 1) := by decide +kernel
theorem dX1_setTired_1 : decode cX1_setTired 1 = .ok (.iconst 4, 1) := by decide +kernel
theorem dX1_setTired_2 : decode cX1_setTired 2 = .ok (.invokestatic 58, 3) := by decide +kernel
theorem dX1_setTired_5 : decode cX1_setTired 5 = .ok (.ifCond .eq 12, 3) := by decide +kernel
theorem dX1_setTired_8 : decode cX1_setTired 8 = .ok (.iload_n 2, 1) := by decide +kernel
theorem dX1_setTired_9 : decode cX1_setTired 9 = .ok (.bipush 100, 2) := by decide +kernel
theorem dX1_setTired_11 : decode cX1_setTired 11 = .ok (.invokestatic 58, 3) := by decide +kernel
theorem dX1_setTired_14 : decode cX1_setTired 14 = .ok (.ifCond .ne 5, 3) := by decide +kernel
theorem dX1_setTired_17 : decode cX1_setTired 17 = .ok (.iconst (-1), 1) := by decide +kernel
theorem dX1_setTired_18 : decode cX1_setTired 18 = .ok (.ireturn, 1) := by decide +kernel
theorem dX1_setTired_19 : decode cX1_setTired 19 = .ok (.aload_n 0, 1) := by decide +kernel
theorem dX1_setTired_20 : decode cX1_setTired 20 = .ok (.getfield 18, 3) := by decide +kernel
theorem dX1_setTired_23 : decode cX1_setTired 23 = .ok (.iload_n 1, 1) := by decide +kernel
theorem dX1_setTired_24 : decode cX1_setTired 24 = .ok (.iaload, 1) := by decide +kernel
theorem dX1_setTired_25 : decode cX1_setTired 25 = .ok (.istore_n 3, 1) := by decide +kernel
theorem dX1_setTired_26 : decode cX1_setTired 26 = .ok (.aload_n 0, 1) := by decide +kernel
theorem dX1_setTired_27 : decode cX1_setTired 27 = .ok (.getfield 18, 3) := by decide +kernel
theorem dX1_setTired_30 : decode cX1_setTired 30 = .ok (.iload_n 1, 1) := by decide +kernel
theorem dX1_setTired_31 : decode cX1_setTired 31 = .ok (.iload_n 2, 1) := by decide +kernel
theorem dX1_setTired_32 : decode cX1_setTired 32 = .ok (.iastore, 1) := by decide +kernel
theorem dX1_setTired_33 : decode cX1_setTired 33 = .ok (.iload_n 3, 1) := by decide +kernel
theorem dX1_setTired_34 : decode cX1_setTired 34 = .ok (.ireturn, 1) := by decide +kernel
theorem dX1_switchHand_0 : decode cX1_switchHand 0 = .ok (.iload_n 1, 1) := by decide +kernel
theorem dX1_switchHand_1 : decode cX1_switchHand 1 = .ok (.iconst 4, 1) := by decide +kernel
theorem dX1_switchHand_2 : decode cX1_switchHand 2 = .ok (.invokestatic 58, 3) := by decide +kernel
theorem dX1_switchHand_5 : decode cX1_switchHand 5 = .ok (.ifCond .ne 5, 3) := by decide +kernel
theorem dX1_switchHand_8 : decode cX1_switchHand 8 = .ok (.iconst (-1), 1) := by decide +kernel
theorem dX1_switchHand_9 : decode cX1_switchHand 9 = .ok (.ireturn, 1) := by decide +kernel
theorem dX1_switchHand_10 : decode cX1_switchHand 10 = .ok (.aload_n 0, 1) := by decide +kernel
theorem dX1_switchHand_11 : decode cX1_switchHand 11 = .ok (.getfield 21, 3) := by decide +kernel
theorem dX1_switchHand_14 : decode cX1_switchHand 14 = .ok (.iload_n 1, 1) := by decide +kernel
theorem dX1_switchHand_15 : decode cX1_switchHand 15 = .ok (.iconst 1, 1) := by decide +kernel
theorem dX1_switchHand_16 : decode cX1_switchHand 16 = .ok (.aload_n 0, 1) := by decide +kernel
theorem dX1_switchHand_17 : decode cX1_switchHand 17 = .ok (.getfield 21, 3) := by decide +kernel
theorem dX1_switchHand_20 : decode cX1_switchHand 20 = .ok (.iload_n 1, 1) := by decide +kernel
theorem dX1_switchHand_21 : decode cX1_switchHand 21 = .ok (.iaload, 1) := by decide +kernel
theorem dX1_switchHand_22 : decode cX1_switchHand 22 = .ok (.isub, 1) := by decide +kernel
theorem dX1_switchHand_23 : decode cX1_switchHand 23 = .ok (.iastore, 1) := by decide +kernel
theorem dX1_switchHand_24 : decode cX1_switchHand 24 = .ok (.aload_n 0, 1) := by decide +kernel
theorem dX1_switchHand_25 : decode cX1_switchHand 25 = .ok (.getfield 21, 3) := by decide +kernel
theorem dX1_switchHand_28 : decode cX1_switchHand 28 = .ok (.iload_n 1, 1) := by decide +kernel
theorem dX1_switchHand_29 : decode cX1_switchHand 29 = .ok (.iaload, 1) := by decide +kernel
theorem dX1_switchHand_30 : decode cX1_switchHand 30 = .ok (.ireturn, 1) := by decide +kernel
theorem dX1_choices_0 : decode cX1_choices 0 = .ok (.iload_n 0, 1) := by decide +kernel
theorem dX1_choices_1 : decode cX1_choices 1 = .ok (.ifCond .ne 7, 3) := by decide +kernel
theorem dX1_choices_4 : decode cX1_choices 4 = .ok (.iconst 2, 1) := by decide +kernel
theorem dX1_choices_5 : decode cX1_choices 5 = .ok (.goto 4, 3) := by decide +kernel
theorem dX1_choices_8 : decode cX1_choices 8 = .ok (.iconst 4, 1) := by decide +kernel
theorem dX1_choices_9 : decode cX1_choices 9 = .ok (.ireturn, 1) := by decide +kernel
theorem dX1_adopt_0 : decode cX1_adopt 0 = .ok (.iload_n 1, 1) := by decide +kernel
theorem dX1_adopt_1 : decode cX1_adopt 1 = .ok (.iconst 2, 1) := by decide +kernel
theorem dX1_adopt_2 : decode cX1_adopt 2 = .ok (.invokestatic 58, 3) := by decide +kernel
theorem dX1_adopt_5 : decode cX1_adopt 5 = .ok (.ifCond .eq 22, 3) := by decide +kernel
theorem dX1_adopt_8 : decode cX1_adopt 8 = .ok (.iload_n 2, 1) := by decide +kernel
theorem dX1_adopt_9 : decode cX1_adopt 9 = .ok (.iconst 2, 1) := by decide +kernel
theorem dX1_adopt_10 : decode cX1_adopt 10 = .ok (.invokestatic 58, 3) := by decide +kernel
theorem dX1_adopt_13 : decode cX1_adopt 13 = .ok (.ifCond .eq 14, 3) := by decide +kernel
theorem dX1_adopt_16 : decode cX1_adopt 16 = .ok (.iload_n 3, 1) := by decide +kernel
theorem dX1_adopt_17 : decode cX1_adopt 17 = .ok (.iload_n 2, 1) := by decide +kernel
theorem dX1_adopt_18 : decode cX1_adopt 18 = .ok (.invokestatic 69, 3) := by decide +kernel
theorem dX1_adopt_21 : decode cX1_adopt 21 = .ok (.invokestatic 58, 3) := by decide +kernel
theorem dX1_adopt_24 : decode cX1_adopt 24 = .ok (.ifCond .ne 5, 3) := by decide +kernel
theorem dX1_adopt_27 : decode cX1_adopt 27 = .ok (.iconst (-1), 1) := by decide +kernel
theorem dX1_adopt_28 : decode cX1_adopt 28 = .ok (.ireturn, 1) := by decide +kernel
theorem dX1_adopt_29 : decode cX1_adopt 29 = .ok (.iload_n 2, 1) := by decide +kernel
theorem dX1_adopt_30 : decode cX1_adopt 30 = .ok (.ifCond .ne 10, 3) := by decide +kernel
theorem dX1_adopt_33 : decode cX1_adopt 33 = .ok (.aload_n 0, 1) := by decide +kernel
theorem dX1_adopt_34 : decode cX1_adopt 34 = .ok (.getfield 24, 3) := by decide +kernel
theorem dX1_adopt_37 : decode cX1_adopt 37 = .ok (.goto 7, 3) := by decide +kernel
theorem dX1_adopt_40 : decode cX1_adopt 40 = .ok (.aload_n 0, 1) := by decide +kernel
theorem dX1_adopt_41 : decode cX1_adopt 41 = .ok (.getfield 27, 3) := by decide +kernel
theorem dX1_adopt_44 : decode cX1_adopt 44 = .ok (.astore 4, 2) := by decide +kernel
theorem dX1_adopt_46 : decode cX1_adopt 46 = .ok (.aload 4, 2) := by decide +kernel
theorem dX1_adopt_48 : decode cX1_adopt 48 = .ok (.iload_n 1, 1) := by decide +kernel
theorem dX1_adopt_49 : decode cX1_adopt 49 = .ok (.iaload, 1) := by decide +kernel
theorem dX1_adopt_50 : decode cX1_adopt 50 = .ok (.istore 5, 2) := by decide +kernel
theorem dX1_adopt_52 : decode cX1_adopt 52 = .ok (.aload 4, 2) := by decide +kernel
theorem dX1_adopt_54 : decode cX1_adopt 54 = .ok (.iload_n 1, 1) := by decide +kernel
theorem dX1_adopt_55 : decode cX1_adopt 55 = .ok (.iload_n 3, 1) := by decide +kernel
theorem dX1_adopt_56 : decode cX1_adopt 56 = .ok (.iastore, 1) := by decide +kernel
theorem dX1_adopt_57 : decode cX1_adopt 57 = .ok (.iload 5, 2) := by decide +kernel
theorem dX1_adopt_59 : decode cX1_adopt 59 = .ok (.ireturn, 1) := by decide +kernel
theorem dX1_setDraught_0 : decode cX1_setDraught 0 = .ok (.iload_n 1, 1) := by decide +kernel
theorem dX1_setDraught_1 : decode cX1_setDraught 1 = .ok (.iconst 3, 1) := by decide +kernel
theorem dX1_setDraught_2 : decode cX1_setDraught 2 = .ok (.invokestatic 58, 3) := by decide +kernel
theorem dX1_setDraught_5 : decode cX1_setDraught 5 = .ok (.ifCond .ne 5, 3) := by decide +kernel
theorem dX1_setDraught_8 : decode cX1_setDraught 8 = .ok (.iconst (-1), 1) := by decide +kernel
theorem dX1_setDraught_9 : decode cX1_setDraught 9 = .ok (.ireturn, 1) := by decide +kernel
theorem dX1_setDraught_10 : decode cX1_setDraught 10 = .ok (.aload_n 0, 1) := by decide +kernel
theorem dX1_setDraught_11 : decode cX1_setDraught 11 = .ok (.getfield 52, 3) := by decide +kernel
theorem dX1_setDraught_14 : decode cX1_setDraught 14 = .ok (.iconst 1, 1) := by decide +kernel
theorem dX1_setDraught_15 : decode cX1_setDraught 15 = .ok (.iadd, 1) := by decide +kernel
theorem dX1_setDraught_16 : decode cX1_setDraught 16 = .ok (.istore_n 2, 1) := by decide +kernel
theorem dX1_setDraught_17 : decode cX1_setDraught 17 = .ok (.aload_n 0, 1) := by decide +kernel
theorem dX1_setDraught_18 : decode cX1_setDraught 18 = .ok (.iload_n 1, 1) := by decide +kernel
theorem dX1_setDraught_19 : decode cX1_setDraught 19 = .ok (.iconst 1, 1) := by decide +kernel
theorem dX1_setDraught_20 : decode cX1_setDraught 20 = .ok (.isub, 1) := by decide +kernel
theorem dX1_setDraught_21 : decode cX1_setDraught 21 = .ok (.putfield 52, 3) := by decide +kernel
theorem dX1_setDraught_24 : decode cX1_setDraught 24 = .ok (.iload_n 2, 1) := by decide +kernel
theorem dX1_setDraught_25 : decode cX1_setDraught 25 = .ok (.ireturn, 1) := by decide +kernel
theorem dX1_giveTo_0 : decode cX1_giveTo 0 = .ok (.aload_n 0, 1) := by decide +kernel
theorem dX1_giveTo_1 : decode cX1_giveTo 1 = .ok (.getfield 49, 3) := by decide +kernel
theorem dX1_giveTo_4 : decode cX1_giveTo 4 = .ok (.iconst 2, 1) := by decide +kernel
theorem dX1_giveTo_5 : decode cX1_giveTo 5 = .ok (.idiv, 1) := by decide +kernel
theorem dX1_giveTo_6 : decode cX1_giveTo 6 = .ok (.iload_n 1, 1) := by decide +kernel
theorem dX1_giveTo_7 : decode cX1_giveTo 7 = .ok (.if_icmp .eq 10, 3) := by decide +kernel
theorem dX1_giveTo_10 : decode cX1_giveTo 10 = .ok (.aload_n 0, 1) := by decide +kernel
theorem dX1_giveTo_11 : decode cX1_giveTo 11 = .ok (.iconst 2, 1) := by decide +kernel
theorem dX1_giveTo_12 : decode cX1_giveTo 12 = .ok (.iload_n 1, 1) := by decide +kernel
theorem dX1_giveTo_13 : decode cX1_giveTo 13 = .ok (.imul, 1) := by decide +kernel
theorem dX1_giveTo_14 : decode cX1_giveTo 14 = .ok (.putfield 49, 3) := by decide +kernel
theorem dX1_giveTo_17 : decode cX1_giveTo 17 = .ok (.return_, 1) := by decide +kernel
theorem dX1_receivers_0 : decode cX1_receivers 0 = .ok (.iconst 1, 1) := by decide +kernel
theorem dX1_receivers_1 : decode cX1_receivers 1 = .ok (.aload_n 0, 1) := by decide +kernel
theorem dX1_receivers_2 : decode cX1_receivers 2 = .ok (.getfield 49, 3) := by decide +kernel
theorem dX1_receivers_5 : decode cX1_receivers 5 = .ok (.iconst 2, 1) := by decide +kernel
theorem dX1_receivers_6 : decode cX1_receivers 6 = .ok (.idiv, 1) := by decide +kernel
theorem dX1_receivers_7 : decode cX1_receivers 7 = .ok (.isub, 1) := by decide +kernel
theorem dX1_receivers_8 : decode cX1_receivers 8 = .ok (.ireturn, 1) := by decide +kernel
theorem dX1_landing_0 : decode cX1_landing 0 = .ok (.aload_n 0, 1) := by decide +kernel
theorem dX1_landing_1 : decode cX1_landing 1 = .ok (.getfield 35, 3) := by decide +kernel
theorem dX1_landing_4 : decode cX1_landing 4 = .ok (.iload_n 1, 1) := by decide +kernel
theorem dX1_landing_5 : decode cX1_landing 5 = .ok (.aaload, 1) := by decide +kernel
theorem dX1_landing_6 : decode cX1_landing 6 = .ok (.iload_n 2, 1) := by decide +kernel
theorem dX1_landing_7 : decode cX1_landing 7 = .ok (.aload_n 0, 1) := by decide +kernel
theorem dX1_landing_8 : decode cX1_landing 8 = .ok (.getfield 52, 3) := by decide +kernel
theorem dX1_landing_11 : decode cX1_landing 11 = .ok (.invokevirtual 73, 3) := by decide +kernel
theorem dX1_landing_14 : decode cX1_landing 14 = .ok (.ireturn, 1) := by decide +kernel
theorem dX1_stepsIn_0 : decode cX1_stepsIn 0 = .ok (.iload_n 1, 1) := by decide +kernel
theorem dX1_stepsIn_1 : decode cX1_stepsIn 1 = .ok (.iconst 1, 1) := by decide +kernel
theorem dX1_stepsIn_2 : decode cX1_stepsIn 2 = .ok (.aload_n 0, 1) := by decide +kernel
theorem dX1_stepsIn_3 : decode cX1_stepsIn 3 = .ok (.getfield 15, 3) := by decide +kernel
theorem dX1_stepsIn_6 : decode cX1_stepsIn 6 = .ok (.iload_n 2, 1) := by decide +kernel
theorem dX1_stepsIn_7 : decode cX1_stepsIn 7 = .ok (.iaload, 1) := by decide +kernel
theorem dX1_stepsIn_8 : decode cX1_stepsIn 8 = .ok (.iload_n 3, 1) := by decide +kernel
theorem dX1_stepsIn_9 : decode cX1_stepsIn 9 = .ok (.bipush 30, 2) := by decide +kernel
theorem dX1_stepsIn_11 : decode cX1_stepsIn 11 = .ok (.idiv, 1) := by decide +kernel
theorem dX1_stepsIn_12 : decode cX1_stepsIn 12 = .ok (.isub, 1) := by decide +kernel
theorem dX1_stepsIn_13 : decode cX1_stepsIn 13 = .ok (.invokestatic 77, 3) := by decide +kernel
theorem dX1_stepsIn_16 : decode cX1_stepsIn 16 = .ok (.imul, 1) := by decide +kernel
theorem dX1_stepsIn_17 : decode cX1_stepsIn 17 = .ok (.ireturn, 1) := by decide +kernel
theorem dX1_claimTo_0 : decode cX1_claimTo 0 = .ok (.iconst 2, 1) := by decide +kernel
theorem dX1_claimTo_1 : decode cX1_claimTo 1 = .ok (.aload_n 0, 1) := by decide +kernel
theorem dX1_claimTo_2 : decode cX1_claimTo 2 = .ok (.invokevirtual 82, 3) := by decide +kernel
theorem dX1_claimTo_5 : decode cX1_claimTo 5 = .ok (.imul, 1) := by decide +kernel
theorem dX1_claimTo_6 : decode cX1_claimTo 6 = .ok (.istore_n 2, 1) := by decide +kernel
theorem dX1_claimTo_7 : decode cX1_claimTo 7 = .ok (.iload_n 2, 1) := by decide +kernel
theorem dX1_claimTo_8 : decode cX1_claimTo 8 = .ok (.iconst 1, 1) := by decide +kernel
theorem dX1_claimTo_9 : decode cX1_claimTo 9 = .ok (.iadd, 1) := by decide +kernel
theorem dX1_claimTo_10 : decode cX1_claimTo 10 = .ok (.istore_n 3, 1) := by decide +kernel
theorem dX1_claimTo_11 : decode cX1_claimTo 11 = .ok (.aload_n 0, 1) := by decide +kernel
theorem dX1_claimTo_12 : decode cX1_claimTo 12 = .ok (.getfield 9, 3) := by decide +kernel
theorem dX1_claimTo_15 : decode cX1_claimTo 15 = .ok (.iload_n 3, 1) := by decide +kernel
theorem dX1_claimTo_16 : decode cX1_claimTo 16 = .ok (.iaload, 1) := by decide +kernel
theorem dX1_claimTo_17 : decode cX1_claimTo 17 = .ok (.iload_n 1, 1) := by decide +kernel
theorem dX1_claimTo_18 : decode cX1_claimTo 18 = .ok (.invokestatic 86, 3) := by decide +kernel
theorem dX1_claimTo_21 : decode cX1_claimTo 21 = .ok (.aload_n 0, 1) := by decide +kernel
theorem dX1_claimTo_22 : decode cX1_claimTo 22 = .ok (.getfield 9, 3) := by decide +kernel
theorem dX1_claimTo_25 : decode cX1_claimTo 25 = .ok (.iload_n 2, 1) := by decide +kernel
theorem dX1_claimTo_26 : decode cX1_claimTo 26 = .ok (.iaload, 1) := by decide +kernel
theorem dX1_claimTo_27 : decode cX1_claimTo 27 = .ok (.iload_n 1, 1) := by decide +kernel
theorem dX1_claimTo_28 : decode cX1_claimTo 28 = .ok (.invokestatic 86, 3) := by decide +kernel
theorem dX1_claimTo_31 : decode cX1_claimTo 31 = .ok (.isub, 1) := by decide +kernel
theorem dX1_claimTo_32 : decode cX1_claimTo 32 = .ok (.istore 4, 2) := by decide +kernel
theorem dX1_claimTo_34 : decode cX1_claimTo 34 = .ok (.iload 4, 2) := by decide +kernel
theorem dX1_claimTo_36 : decode cX1_claimTo 36 = .ok (.ifCond .eq 14, 3) := by decide +kernel
theorem dX1_claimTo_39 : decode cX1_claimTo 39 = .ok (.iload 4, 2) := by decide +kernel
theorem dX1_claimTo_41 : decode cX1_claimTo 41 = .ok (.ifCond .le 7, 3) := by decide +kernel
theorem dX1_claimTo_44 : decode cX1_claimTo 44 = .ok (.iload_n 2, 1) := by decide +kernel
theorem dX1_claimTo_45 : decode cX1_claimTo 45 = .ok (.goto 4, 3) := by decide +kernel
theorem dX1_claimTo_48 : decode cX1_claimTo 48 = .ok (.iload_n 3, 1) := by decide +kernel
theorem dX1_claimTo_49 : decode cX1_claimTo 49 = .ok (.ireturn, 1) := by decide +kernel
theorem dX1_claimTo_50 : decode cX1_claimTo 50 = .ok (.aload_n 0, 1) := by decide +kernel
theorem dX1_claimTo_51 : decode cX1_claimTo 51 = .ok (.getfield 27, 3) := by decide +kernel
theorem dX1_claimTo_54 : decode cX1_claimTo 54 = .ok (.aload_n 0, 1) := by decide +kernel
theorem dX1_claimTo_55 : decode cX1_claimTo 55 = .ok (.invokevirtual 82, 3) := by decide +kernel
theorem dX1_claimTo_58 : decode cX1_claimTo 58 = .ok (.iaload, 1) := by decide +kernel
theorem dX1_claimTo_59 : decode cX1_claimTo 59 = .ok (.tableswitch 33 0 2 #[25, 28, 30], 25) := by decide +kernel
theorem dX1_claimTo_84 : decode cX1_claimTo 84 = .ok (.bipush 9, 2) := by decide +kernel
theorem dX1_claimTo_86 : decode cX1_claimTo 86 = .ok (.ireturn, 1) := by decide +kernel
theorem dX1_claimTo_87 : decode cX1_claimTo 87 = .ok (.iload_n 2, 1) := by decide +kernel
theorem dX1_claimTo_88 : decode cX1_claimTo 88 = .ok (.ireturn, 1) := by decide +kernel
theorem dX1_claimTo_89 : decode cX1_claimTo 89 = .ok (.bipush 8, 2) := by decide +kernel
theorem dX1_claimTo_91 : decode cX1_claimTo 91 = .ok (.ireturn, 1) := by decide +kernel
theorem dX1_claimTo_92 : decode cX1_claimTo 92 = .ok (.aload_n 0, 1) := by decide +kernel
theorem dX1_claimTo_93 : decode cX1_claimTo 93 = .ok (.iload_n 2, 1) := by decide +kernel
theorem dX1_claimTo_94 : decode cX1_claimTo 94 = .ok (.iload_n 3, 1) := by decide +kernel
theorem dX1_claimTo_95 : decode cX1_claimTo 95 = .ok (.invokevirtual 89, 3) := by decide +kernel
theorem dX1_claimTo_98 : decode cX1_claimTo 98 = .ok (.ireturn, 1) := by decide +kernel
theorem dX1_takerBy_0 : decode cX1_takerBy 0 = .ok (.iload_n 1, 1) := by decide +kernel
theorem dX1_takerBy_1 : decode cX1_takerBy 1 = .ok (.bipush 8, 2) := by decide +kernel
theorem dX1_takerBy_3 : decode cX1_takerBy 3 = .ok (.if_icmp .ne 12, 3) := by decide +kernel
theorem dX1_takerBy_6 : decode cX1_takerBy 6 = .ok (.iconst 2, 1) := by decide +kernel
theorem dX1_takerBy_7 : decode cX1_takerBy 7 = .ok (.aload_n 0, 1) := by decide +kernel
theorem dX1_takerBy_8 : decode cX1_takerBy 8 = .ok (.invokevirtual 82, 3) := by decide +kernel
theorem dX1_takerBy_11 : decode cX1_takerBy 11 = .ok (.imul, 1) := by decide +kernel
theorem dX1_takerBy_12 : decode cX1_takerBy 12 = .ok (.goto 4, 3) := by decide +kernel
theorem dX1_takerBy_15 : decode cX1_takerBy 15 = .ok (.iload_n 1, 1) := by decide +kernel
theorem dX1_takerBy_16 : decode cX1_takerBy 16 = .ok (.ireturn, 1) := by decide +kernel
theorem dX1_takerOf_0 : decode cX1_takerOf 0 = .ok (.aload_n 0, 1) := by decide +kernel
theorem dX1_takerOf_1 : decode cX1_takerOf 1 = .ok (.aload_n 0, 1) := by decide +kernel
theorem dX1_takerOf_2 : decode cX1_takerOf 2 = .ok (.iload_n 1, 1) := by decide +kernel
theorem dX1_takerOf_3 : decode cX1_takerOf 3 = .ok (.invokevirtual 92, 3) := by decide +kernel
theorem dX1_takerOf_6 : decode cX1_takerOf 6 = .ok (.invokevirtual 95, 3) := by decide +kernel
theorem dX1_takerOf_9 : decode cX1_takerOf 9 = .ok (.ireturn, 1) := by decide +kernel
theorem dX1_leftOneOf_0 : decode cX1_leftOneOf 0 = .ok (.aload_n 0, 1) := by decide +kernel
theorem dX1_leftOneOf_1 : decode cX1_leftOneOf 1 = .ok (.getfield 21, 3) := by decide +kernel
theorem dX1_leftOneOf_4 : decode cX1_leftOneOf 4 = .ok (.iload_n 1, 1) := by decide +kernel
theorem dX1_leftOneOf_5 : decode cX1_leftOneOf 5 = .ok (.iaload, 1) := by decide +kernel
theorem dX1_leftOneOf_6 : decode cX1_leftOneOf 6 = .ok (.aload_n 0, 1) := by decide +kernel
theorem dX1_leftOneOf_7 : decode cX1_leftOneOf 7 = .ok (.getfield 21, 3) := by decide +kernel
theorem dX1_leftOneOf_10 : decode cX1_leftOneOf 10 = .ok (.iload_n 2, 1) := by decide +kernel
theorem dX1_leftOneOf_11 : decode cX1_leftOneOf 11 = .ok (.iaload, 1) := by decide +kernel
theorem dX1_leftOneOf_12 : decode cX1_leftOneOf 12 = .ok (.if_icmp .ne 6, 3) := by decide +kernel
theorem dX1_leftOneOf_15 : decode cX1_leftOneOf 15 = .ok (.bipush 9, 2) := by decide +kernel
theorem dX1_leftOneOf_17 : decode cX1_leftOneOf 17 = .ok (.ireturn, 1) := by decide +kernel
theorem dX1_leftOneOf_18 : decode cX1_leftOneOf 18 = .ok (.aload_n 0, 1) := by decide +kernel
theorem dX1_leftOneOf_19 : decode cX1_leftOneOf 19 = .ok (.getfield 21, 3) := by decide +kernel
theorem dX1_leftOneOf_22 : decode cX1_leftOneOf 22 = .ok (.iload_n 1, 1) := by decide +kernel
theorem dX1_leftOneOf_23 : decode cX1_leftOneOf 23 = .ok (.iaload, 1) := by decide +kernel
theorem dX1_leftOneOf_24 : decode cX1_leftOneOf 24 = .ok (.iconst 1, 1) := by decide +kernel
theorem dX1_leftOneOf_25 : decode cX1_leftOneOf 25 = .ok (.if_icmp .ne 7, 3) := by decide +kernel
theorem dX1_leftOneOf_28 : decode cX1_leftOneOf 28 = .ok (.iload_n 1, 1) := by decide +kernel
theorem dX1_leftOneOf_29 : decode cX1_leftOneOf 29 = .ok (.goto 4, 3) := by decide +kernel
theorem dX1_leftOneOf_32 : decode cX1_leftOneOf 32 = .ok (.iload_n 2, 1) := by decide +kernel
theorem dX1_leftOneOf_33 : decode cX1_leftOneOf 33 = .ok (.ireturn, 1) := by decide +kernel
theorem dX1_wayLed_0 : decode cX1_wayLed 0 = .ok (.aload_n 0, 1) := by decide +kernel
theorem dX1_wayLed_1 : decode cX1_wayLed 1 = .ok (.iload_n 1, 1) := by decide +kernel
theorem dX1_wayLed_2 : decode cX1_wayLed 2 = .ok (.invokevirtual 98, 3) := by decide +kernel
theorem dX1_wayLed_5 : decode cX1_wayLed 5 = .ok (.istore_n 2, 1) := by decide +kernel
theorem dX1_wayLed_6 : decode cX1_wayLed 6 = .ok (.iload_n 2, 1) := by decide +kernel
theorem dX1_wayLed_7 : decode cX1_wayLed 7 = .ok (.bipush 9, 2) := by decide +kernel
theorem dX1_wayLed_9 : decode cX1_wayLed 9 = .ok (.if_icmp .ne 8, 3) := by decide +kernel
theorem dX1_wayLed_12 : decode cX1_wayLed 12 = .ok (.bipush 99, 2) := by decide +kernel
theorem dX1_wayLed_14 : decode cX1_wayLed 14 = .ok (.goto 13, 3) := by decide +kernel
theorem dX1_wayLed_17 : decode cX1_wayLed 17 = .ok (.aload_n 0, 1) := by decide +kernel
theorem dX1_wayLed_18 : decode cX1_wayLed 18 = .ok (.getfield 9, 3) := by decide +kernel
theorem dX1_wayLed_21 : decode cX1_wayLed 21 = .ok (.iload_n 2, 1) := by decide +kernel
theorem dX1_wayLed_22 : decode cX1_wayLed 22 = .ok (.iaload, 1) := by decide +kernel
theorem dX1_wayLed_23 : decode cX1_wayLed 23 = .ok (.iload_n 1, 1) := by decide +kernel
theorem dX1_wayLed_24 : decode cX1_wayLed 24 = .ok (.invokestatic 86, 3) := by decide +kernel
theorem dX1_wayLed_27 : decode cX1_wayLed 27 = .ok (.ireturn, 1) := by decide +kernel
theorem dX1_scores_0 : decode cX1_scores 0 = .ok (.aload_n 0, 1) := by decide +kernel
theorem dX1_scores_1 : decode cX1_scores 1 = .ok (.iload_n 1, 1) := by decide +kernel
theorem dX1_scores_2 : decode cX1_scores 2 = .ok (.iload_n 2, 1) := by decide +kernel
theorem dX1_scores_3 : decode cX1_scores 3 = .ok (.invokevirtual 101, 3) := by decide +kernel
theorem dX1_scores_6 : decode cX1_scores 6 = .ok (.istore_n 3, 1) := by decide +kernel
theorem dX1_scores_7 : decode cX1_scores 7 = .ok (.aload_n 0, 1) := by decide +kernel
theorem dX1_scores_8 : decode cX1_scores 8 = .ok (.aload_n 0, 1) := by decide +kernel
theorem dX1_scores_9 : decode cX1_scores 9 = .ok (.iload_n 3, 1) := by decide +kernel
theorem dX1_scores_10 : decode cX1_scores 10 = .ok (.invokevirtual 92, 3) := by decide +kernel
theorem dX1_scores_13 : decode cX1_scores 13 = .ok (.iload_n 3, 1) := by decide +kernel
theorem dX1_scores_14 : decode cX1_scores 14 = .ok (.aload_n 0, 1) := by decide +kernel
theorem dX1_scores_15 : decode cX1_scores 15 = .ok (.getfield 35, 3) := by decide +kernel
theorem dX1_scores_18 : decode cX1_scores 18 = .ok (.iload_n 1, 1) := by decide +kernel
theorem dX1_scores_19 : decode cX1_scores 19 = .ok (.aaload, 1) := by decide +kernel
theorem dX1_scores_20 : decode cX1_scores 20 = .ok (.iload_n 3, 1) := by decide +kernel
theorem dX1_scores_21 : decode cX1_scores 21 = .ok (.invokevirtual 102, 3) := by decide +kernel
theorem dX1_scores_24 : decode cX1_scores 24 = .ok (.invokevirtual 105, 3) := by decide +kernel
theorem dX1_scores_27 : decode cX1_scores 27 = .ok (.ireturn, 1) := by decide +kernel
theorem dX1_isMissed_0 : decode cX1_isMissed 0 = .ok (.iload_n 1, 1) := by decide +kernel
theorem dX1_isMissed_1 : decode cX1_isMissed 1 = .ok (.bipush 9, 2) := by decide +kernel
theorem dX1_isMissed_3 : decode cX1_isMissed 3 = .ok (.if_icmp .ne 5, 3) := by decide +kernel
theorem dX1_isMissed_6 : decode cX1_isMissed 6 = .ok (.iconst 1, 1) := by decide +kernel
theorem dX1_isMissed_7 : decode cX1_isMissed 7 = .ok (.ireturn, 1) := by decide +kernel
theorem dX1_isMissed_8 : decode cX1_isMissed 8 = .ok (.aload_n 0, 1) := by decide +kernel
theorem dX1_isMissed_9 : decode cX1_isMissed 9 = .ok (.iload_n 1, 1) := by decide +kernel
theorem dX1_isMissed_10 : decode cX1_isMissed 10 = .ok (.invokevirtual 95, 3) := by decide +kernel
theorem dX1_isMissed_13 : decode cX1_isMissed 13 = .ok (.istore 4, 2) := by decide +kernel
theorem dX1_isMissed_15 : decode cX1_isMissed 15 = .ok (.iload_n 1, 1) := by decide +kernel
theorem dX1_isMissed_16 : decode cX1_isMissed 16 = .ok (.bipush 8, 2) := by decide +kernel
theorem dX1_isMissed_18 : decode cX1_isMissed 18 = .ok (.if_icmp .ne 20, 3) := by decide +kernel
theorem dX1_isMissed_21 : decode cX1_isMissed 21 = .ok (.bipush 99, 2) := by decide +kernel
theorem dX1_isMissed_23 : decode cX1_isMissed 23 = .ok (.aload_n 0, 1) := by decide +kernel
theorem dX1_isMissed_24 : decode cX1_isMissed 24 = .ok (.getfield 18, 3) := by decide +kernel
theorem dX1_isMissed_27 : decode cX1_isMissed 27 = .ok (.iload 4, 2) := by decide +kernel
theorem dX1_isMissed_29 : decode cX1_isMissed 29 = .ok (.iaload, 1) := by decide +kernel
theorem dX1_isMissed_30 : decode cX1_isMissed 30 = .ok (.iconst 3, 1) := by decide +kernel
theorem dX1_isMissed_31 : decode cX1_isMissed 31 = .ok (.iadd, 1) := by decide +kernel
theorem dX1_isMissed_32 : decode cX1_isMissed 32 = .ok (.invokestatic 109, 3) := by decide +kernel
theorem dX1_isMissed_35 : decode cX1_isMissed 35 = .ok (.goto 10, 3) := by decide +kernel
theorem dX1_isMissed_38 : decode cX1_isMissed 38 = .ok (.aload_n 0, 1) := by decide +kernel
theorem dX1_isMissed_39 : decode cX1_isMissed 39 = .ok (.getfield 18, 3) := by decide +kernel
theorem dX1_isMissed_42 : decode cX1_isMissed 42 = .ok (.iload 4, 2) := by decide +kernel
theorem dX1_isMissed_44 : decode cX1_isMissed 44 = .ok (.iaload, 1) := by decide +kernel
theorem dX1_isMissed_45 : decode cX1_isMissed 45 = .ok (.istore 5, 2) := by decide +kernel
theorem dX1_isMissed_47 : decode cX1_isMissed 47 = .ok (.aload_n 0, 1) := by decide +kernel
theorem dX1_isMissed_48 : decode cX1_isMissed 48 = .ok (.getfield 9, 3) := by decide +kernel
theorem dX1_isMissed_51 : decode cX1_isMissed 51 = .ok (.iload 4, 2) := by decide +kernel
theorem dX1_isMissed_53 : decode cX1_isMissed 53 = .ok (.iaload, 1) := by decide +kernel
theorem dX1_isMissed_54 : decode cX1_isMissed 54 = .ok (.iload_n 2, 1) := by decide +kernel
theorem dX1_isMissed_55 : decode cX1_isMissed 55 = .ok (.invokestatic 86, 3) := by decide +kernel
theorem dX1_isMissed_58 : decode cX1_isMissed 58 = .ok (.aload_n 0, 1) := by decide +kernel
theorem dX1_isMissed_59 : decode cX1_isMissed 59 = .ok (.iload_n 3, 1) := by decide +kernel
theorem dX1_isMissed_60 : decode cX1_isMissed 60 = .ok (.iload 4, 2) := by decide +kernel
theorem dX1_isMissed_62 : decode cX1_isMissed 62 = .ok (.iload 5, 2) := by decide +kernel
theorem dX1_isMissed_64 : decode cX1_isMissed 64 = .ok (.invokevirtual 112, 3) := by decide +kernel
theorem dX1_isMissed_67 : decode cX1_isMissed 67 = .ok (.if_icmp .le 7, 3) := by decide +kernel
theorem dX1_isMissed_70 : decode cX1_isMissed 70 = .ok (.iconst 1, 1) := by decide +kernel
theorem dX1_isMissed_71 : decode cX1_isMissed 71 = .ok (.goto 4, 3) := by decide +kernel
theorem dX1_isMissed_74 : decode cX1_isMissed 74 = .ok (.iconst 0, 1) := by decide +kernel
theorem dX1_isMissed_75 : decode cX1_isMissed 75 = .ok (.ireturn, 1) := by decide +kernel
theorem dX1_firstScoring_0 : decode cX1_firstScoring 0 = .ok (.iconst 0, 1) := by decide +kernel
theorem dX1_firstScoring_1 : decode cX1_firstScoring 1 = .ok (.istore_n 1, 1) := by decide +kernel
theorem dX1_firstScoring_2 : decode cX1_firstScoring 2 = .ok (.iload_n 1, 1) := by decide +kernel
theorem dX1_firstScoring_3 : decode cX1_firstScoring 3 = .ok (.aload_n 0, 1) := by decide +kernel
theorem dX1_firstScoring_4 : decode cX1_firstScoring 4 = .ok (.getfield 45, 3) := by decide +kernel
theorem dX1_firstScoring_7 : decode cX1_firstScoring 7 = .ok (.if_icmp .ge 39, 3) := by decide +kernel
theorem dX1_firstScoring_10 : decode cX1_firstScoring 10 = .ok (.iconst 0, 1) := by decide +kernel
theorem dX1_firstScoring_11 : decode cX1_firstScoring 11 = .ok (.istore_n 2, 1) := by decide +kernel
theorem dX1_firstScoring_12 : decode cX1_firstScoring 12 = .ok (.iload_n 2, 1) := by decide +kernel
theorem dX1_firstScoring_13 : decode cX1_firstScoring 13 = .ok (.bipush 9, 2) := by decide +kernel
theorem dX1_firstScoring_15 : decode cX1_firstScoring 15 = .ok (.if_icmp .ge 25, 3) := by decide +kernel
theorem dX1_firstScoring_18 : decode cX1_firstScoring 18 = .ok (.aload_n 0, 1) := by decide +kernel
theorem dX1_firstScoring_19 : decode cX1_firstScoring 19 = .ok (.iload_n 1, 1) := by decide +kernel
theorem dX1_firstScoring_20 : decode cX1_firstScoring 20 = .ok (.iload_n 2, 1) := by decide +kernel
theorem dX1_firstScoring_21 : decode cX1_firstScoring 21 = .ok (.invokevirtual 116, 3) := by decide +kernel
theorem dX1_firstScoring_24 : decode cX1_firstScoring 24 = .ok (.ifCond .eq 10, 3) := by decide +kernel
theorem dX1_firstScoring_27 : decode cX1_firstScoring 27 = .ok (.bipush 10, 2) := by decide +kernel
theorem dX1_firstScoring_29 : decode cX1_firstScoring 29 = .ok (.iload_n 1, 1) := by decide +kernel
theorem dX1_firstScoring_30 : decode cX1_firstScoring 30 = .ok (.imul, 1) := by decide +kernel
theorem dX1_firstScoring_31 : decode cX1_firstScoring 31 = .ok (.iload_n 2, 1) := by decide +kernel
theorem dX1_firstScoring_32 : decode cX1_firstScoring 32 = .ok (.iadd, 1) := by decide +kernel
theorem dX1_firstScoring_33 : decode cX1_firstScoring 33 = .ok (.ireturn, 1) := by decide +kernel
theorem dX1_firstScoring_34 : decode cX1_firstScoring 34 = .ok (.iinc 2 1, 3) := by decide +kernel
theorem dX1_firstScoring_37 : decode cX1_firstScoring 37 = .ok (.goto (-25), 3) := by decide +kernel
theorem dX1_firstScoring_40 : decode cX1_firstScoring 40 = .ok (.iinc 1 1, 3) := by decide +kernel
theorem dX1_firstScoring_43 : decode cX1_firstScoring 43 = .ok (.goto (-41), 3) := by decide +kernel
theorem dX1_firstScoring_46 : decode cX1_firstScoring 46 = .ok (.bipush (-4), 2) := by decide +kernel
theorem dX1_firstScoring_48 : decode cX1_firstScoring 48 = .ok (.ireturn, 1) := by decide +kernel
theorem dX1_strike_0 : decode cX1_strike 0 = .ok (.aload_n 0, 1) := by decide +kernel
theorem dX1_strike_1 : decode cX1_strike 1 = .ok (.getfield 35, 3) := by decide +kernel
theorem dX1_strike_4 : decode cX1_strike 4 = .ok (.iload_n 1, 1) := by decide +kernel
theorem dX1_strike_5 : decode cX1_strike 5 = .ok (.aaload, 1) := by decide +kernel
theorem dX1_strike_6 : decode cX1_strike 6 = .ok (.astore_n 3, 1) := by decide +kernel
theorem dX1_strike_7 : decode cX1_strike 7 = .ok (.aload_n 3, 1) := by decide +kernel
theorem dX1_strike_8 : decode cX1_strike 8 = .ok (.iload_n 2, 1) := by decide +kernel
theorem dX1_strike_9 : decode cX1_strike 9 = .ok (.aload_n 0, 1) := by decide +kernel
theorem dX1_strike_10 : decode cX1_strike 10 = .ok (.getfield 52, 3) := by decide +kernel
theorem dX1_strike_13 : decode cX1_strike 13 = .ok (.invokevirtual 73, 3) := by decide +kernel
theorem dX1_strike_16 : decode cX1_strike 16 = .ok (.istore 4, 2) := by decide +kernel
theorem dX1_strike_18 : decode cX1_strike 18 = .ok (.aload_n 3, 1) := by decide +kernel
theorem dX1_strike_19 : decode cX1_strike 19 = .ok (.iload 4, 2) := by decide +kernel
theorem dX1_strike_21 : decode cX1_strike 21 = .ok (.invokevirtual 102, 3) := by decide +kernel
theorem dX1_strike_24 : decode cX1_strike 24 = .ok (.istore 5, 2) := by decide +kernel
theorem dX1_strike_26 : decode cX1_strike 26 = .ok (.aload_n 0, 1) := by decide +kernel
theorem dX1_strike_27 : decode cX1_strike 27 = .ok (.iload 4, 2) := by decide +kernel
theorem dX1_strike_29 : decode cX1_strike 29 = .ok (.invokevirtual 92, 3) := by decide +kernel
theorem dX1_strike_32 : decode cX1_strike 32 = .ok (.istore 6, 2) := by decide +kernel
theorem dX1_strike_34 : decode cX1_strike 34 = .ok (.aload_n 0, 1) := by decide +kernel
theorem dX1_strike_35 : decode cX1_strike 35 = .ok (.iload 6, 2) := by decide +kernel
theorem dX1_strike_37 : decode cX1_strike 37 = .ok (.iload 4, 2) := by decide +kernel
theorem dX1_strike_39 : decode cX1_strike 39 = .ok (.iload 5, 2) := by decide +kernel
theorem dX1_strike_41 : decode cX1_strike 41 = .ok (.invokevirtual 105, 3) := by decide +kernel
theorem dX1_strike_44 : decode cX1_strike 44 = .ok (.istore 7, 2) := by decide +kernel
theorem dX1_strike_46 : decode cX1_strike 46 = .ok (.aload_n 0, 1) := by decide +kernel
theorem dX1_strike_47 : decode cX1_strike 47 = .ok (.iload 6, 2) := by decide +kernel
theorem dX1_strike_49 : decode cX1_strike 49 = .ok (.invokevirtual 95, 3) := by decide +kernel
theorem dX1_strike_52 : decode cX1_strike 52 = .ok (.istore 8, 2) := by decide +kernel
theorem dX1_strike_54 : decode cX1_strike 54 = .ok (.aload_n 0, 1) := by decide +kernel
theorem dX1_strike_55 : decode cX1_strike 55 = .ok (.dup, 1) := by decide +kernel
theorem dX1_strike_56 : decode cX1_strike 56 = .ok (.getfield 55, 3) := by decide +kernel
theorem dX1_strike_59 : decode cX1_strike 59 = .ok (.iconst 1, 1) := by decide +kernel
theorem dX1_strike_60 : decode cX1_strike 60 = .ok (.iadd, 1) := by decide +kernel
theorem dX1_strike_61 : decode cX1_strike 61 = .ok (.putfield 55, 3) := by decide +kernel
theorem dX1_strike_64 : decode cX1_strike 64 = .ok (.aload_n 0, 1) := by decide +kernel
theorem dX1_strike_65 : decode cX1_strike 65 = .ok (.aload_n 0, 1) := by decide +kernel
theorem dX1_strike_66 : decode cX1_strike 66 = .ok (.getfield 49, 3) := by decide +kernel
theorem dX1_strike_69 : decode cX1_strike 69 = .ok (.aload_n 3, 1) := by decide +kernel
theorem dX1_strike_70 : decode cX1_strike 70 = .ok (.invokevirtual 119, 3) := by decide +kernel
theorem dX1_strike_73 : decode cX1_strike 73 = .ok (.invokevirtual 122, 3) := by decide +kernel
theorem dX1_strike_76 : decode cX1_strike 76 = .ok (.iload 6, 2) := by decide +kernel
theorem dX1_strike_78 : decode cX1_strike 78 = .ok (.bipush 8, 2) := by decide +kernel
theorem dX1_strike_80 : decode cX1_strike 80 = .ok (.if_icmp .ne 20, 3) := by decide +kernel
theorem dX1_strike_83 : decode cX1_strike 83 = .ok (.aload_n 0, 1) := by decide +kernel
theorem dX1_strike_84 : decode cX1_strike 84 = .ok (.iload 8, 2) := by decide +kernel
theorem dX1_strike_86 : decode cX1_strike 86 = .ok (.iconst 3, 1) := by decide +kernel
theorem dX1_strike_87 : decode cX1_strike 87 = .ok (.invokevirtual 122, 3) := by decide +kernel
theorem dX1_strike_90 : decode cX1_strike 90 = .ok (.aload_n 0, 1) := by decide +kernel
theorem dX1_strike_91 : decode cX1_strike 91 = .ok (.iload 8, 2) := by decide +kernel
theorem dX1_strike_93 : decode cX1_strike 93 = .ok (.invokestatic 126, 3) := by decide +kernel
theorem dX1_strike_96 : decode cX1_strike 96 = .ok (.iconst 3, 1) := by decide +kernel
theorem dX1_strike_97 : decode cX1_strike 97 = .ok (.invokevirtual 122, 3) := by decide +kernel
theorem dX1_strike_100 : decode cX1_strike 100 = .ok (.iload 7, 2) := by decide +kernel
theorem dX1_strike_102 : decode cX1_strike 102 = .ok (.ifCond .eq 33, 3) := by decide +kernel
theorem dX1_strike_105 : decode cX1_strike 105 = .ok (.aload_n 0, 1) := by decide +kernel
theorem dX1_strike_106 : decode cX1_strike 106 = .ok (.getfield 30, 3) := by decide +kernel
theorem dX1_strike_109 : decode cX1_strike 109 = .ok (.aload_n 0, 1) := by decide +kernel
theorem dX1_strike_110 : decode cX1_strike 110 = .ok (.getfield 49, 3) := by decide +kernel
theorem dX1_strike_113 : decode cX1_strike 113 = .ok (.iconst 2, 1) := by decide +kernel
theorem dX1_strike_114 : decode cX1_strike 114 = .ok (.idiv, 1) := by decide +kernel
theorem dX1_strike_115 : decode cX1_strike 115 = .ok (.dup2, 1) := by decide +kernel
theorem dX1_strike_116 : decode cX1_strike 116 = .ok (.iaload, 1) := by decide +kernel
theorem dX1_strike_117 : decode cX1_strike 117 = .ok (.iconst 1, 1) := by decide +kernel
theorem dX1_strike_118 : decode cX1_strike 118 = .ok (.iadd, 1) := by decide +kernel
theorem dX1_strike_119 : decode cX1_strike 119 = .ok (.iastore, 1) := by decide +kernel
theorem dX1_strike_120 : decode cX1_strike 120 = .ok (.aload_n 0, 1) := by decide +kernel
theorem dX1_strike_121 : decode cX1_strike 121 = .ok (.aload_n 0, 1) := by decide +kernel
theorem dX1_strike_122 : decode cX1_strike 122 = .ok (.getfield 49, 3) := by decide +kernel
theorem dX1_strike_125 : decode cX1_strike 125 = .ok (.iconst 2, 1) := by decide +kernel
theorem dX1_strike_126 : decode cX1_strike 126 = .ok (.idiv, 1) := by decide +kernel
theorem dX1_strike_127 : decode cX1_strike 127 = .ok (.iconst 2, 1) := by decide +kernel
theorem dX1_strike_128 : decode cX1_strike 128 = .ok (.imul, 1) := by decide +kernel
theorem dX1_strike_129 : decode cX1_strike 129 = .ok (.putfield 49, 3) := by decide +kernel
theorem dX1_strike_132 : decode cX1_strike 132 = .ok (.goto 19, 3) := by decide +kernel
theorem dX1_strike_135 : decode cX1_strike 135 = .ok (.aload_n 0, 1) := by decide +kernel
theorem dX1_strike_136 : decode cX1_strike 136 = .ok (.iload 8, 2) := by decide +kernel
theorem dX1_strike_138 : decode cX1_strike 138 = .ok (.iload 4, 2) := by decide +kernel
theorem dX1_strike_140 : decode cX1_strike 140 = .ok (.invokevirtual 129, 3) := by decide +kernel
theorem dX1_strike_143 : decode cX1_strike 143 = .ok (.aload_n 0, 1) := by decide +kernel
theorem dX1_strike_144 : decode cX1_strike 144 = .ok (.iload 8, 2) := by decide +kernel
theorem dX1_strike_146 : decode cX1_strike 146 = .ok (.iload 5, 2) := by decide +kernel
theorem dX1_strike_148 : decode cX1_strike 148 = .ok (.invokevirtual 132, 3) := by decide +kernel
theorem dX1_strike_151 : decode cX1_strike 151 = .ok (.iload 7, 2) := by decide +kernel
theorem dX1_strike_153 : decode cX1_strike 153 = .ok (.ireturn, 1) := by decide +kernel
theorem dX1_take_0 : decode cX1_take 0 = .ok (.aload_n 0, 1) := by decide +kernel
theorem dX1_take_1 : decode cX1_take 1 = .ok (.iload_n 1, 1) := by decide +kernel
theorem dX1_take_2 : decode cX1_take 2 = .ok (.aload_n 0, 1) := by decide +kernel
theorem dX1_take_3 : decode cX1_take 3 = .ok (.getfield 9, 3) := by decide +kernel
theorem dX1_take_6 : decode cX1_take 6 = .ok (.iload_n 1, 1) := by decide +kernel
theorem dX1_take_7 : decode cX1_take 7 = .ok (.iaload, 1) := by decide +kernel
theorem dX1_take_8 : decode cX1_take 8 = .ok (.iload_n 2, 1) := by decide +kernel
theorem dX1_take_9 : decode cX1_take 9 = .ok (.invokestatic 86, 3) := by decide +kernel
theorem dX1_take_12 : decode cX1_take 12 = .ok (.invokevirtual 122, 3) := by decide +kernel
theorem dX1_take_15 : decode cX1_take 15 = .ok (.aload_n 0, 1) := by decide +kernel
theorem dX1_take_16 : decode cX1_take 16 = .ok (.getfield 9, 3) := by decide +kernel
theorem dX1_take_19 : decode cX1_take 19 = .ok (.iload_n 1, 1) := by decide +kernel
theorem dX1_take_20 : decode cX1_take 20 = .ok (.iload_n 2, 1) := by decide +kernel
theorem dX1_take_21 : decode cX1_take 21 = .ok (.iastore, 1) := by decide +kernel
theorem dX1_take_22 : decode cX1_take 22 = .ok (.aload_n 0, 1) := by decide +kernel
theorem dX1_take_23 : decode cX1_take 23 = .ok (.iload_n 1, 1) := by decide +kernel
theorem dX1_take_24 : decode cX1_take 24 = .ok (.putfield 49, 3) := by decide +kernel
theorem dX1_take_27 : decode cX1_take 27 = .ok (.return_, 1) := by decide +kernel
theorem dX1_sendPartner_0 : decode cX1_sendPartner 0 = .ok (.iload_n 1, 1) := by decide +kernel
theorem dX1_sendPartner_1 : decode cX1_sendPartner 1 = .ok (.invokestatic 126, 3) := by decide +kernel
theorem dX1_sendPartner_4 : decode cX1_sendPartner 4 = .ok (.istore_n 3, 1) := by decide +kernel
theorem dX1_sendPartner_5 : decode cX1_sendPartner 5 = .ok (.aload_n 0, 1) := by decide +kernel
theorem dX1_sendPartner_6 : decode cX1_sendPartner 6 = .ok (.getfield 9, 3) := by decide +kernel
theorem dX1_sendPartner_9 : decode cX1_sendPartner 9 = .ok (.iload_n 3, 1) := by decide +kernel
theorem dX1_sendPartner_10 : decode cX1_sendPartner 10 = .ok (.iaload, 1) := by decide +kernel
theorem dX1_sendPartner_11 : decode cX1_sendPartner 11 = .ok (.istore 4, 2) := by decide +kernel
theorem dX1_sendPartner_13 : decode cX1_sendPartner 13 = .ok (.aload_n 0, 1) := by decide +kernel
theorem dX1_sendPartner_14 : decode cX1_sendPartner 14 = .ok (.iload_n 1, 1) := by decide +kernel
theorem dX1_sendPartner_15 : decode cX1_sendPartner 15 = .ok (.invokevirtual 135, 3) := by decide +kernel
theorem dX1_sendPartner_18 : decode cX1_sendPartner 18 = .ok (.istore 5, 2) := by decide +kernel
theorem dX1_sendPartner_20 : decode cX1_sendPartner 20 = .ok (.aload_n 0, 1) := by decide +kernel
theorem dX1_sendPartner_21 : decode cX1_sendPartner 21 = .ok (.iload_n 2, 1) := by decide +kernel
theorem dX1_sendPartner_22 : decode cX1_sendPartner 22 = .ok (.iload_n 3, 1) := by decide +kernel
theorem dX1_sendPartner_23 : decode cX1_sendPartner 23 = .ok (.aload_n 0, 1) := by decide +kernel
theorem dX1_sendPartner_24 : decode cX1_sendPartner 24 = .ok (.getfield 18, 3) := by decide +kernel
theorem dX1_sendPartner_27 : decode cX1_sendPartner 27 = .ok (.iload_n 3, 1) := by decide +kernel
theorem dX1_sendPartner_28 : decode cX1_sendPartner 28 = .ok (.iaload, 1) := by decide +kernel
theorem dX1_sendPartner_29 : decode cX1_sendPartner 29 = .ok (.invokevirtual 112, 3) := by decide +kernel
theorem dX1_sendPartner_32 : decode cX1_sendPartner 32 = .ok (.istore 6, 2) := by decide +kernel
theorem dX1_sendPartner_34 : decode cX1_sendPartner 34 = .ok (.iload 4, 2) := by decide +kernel
theorem dX1_sendPartner_36 : decode cX1_sendPartner 36 = .ok (.iconst 3, 1) := by decide +kernel
theorem dX1_sendPartner_37 : decode cX1_sendPartner 37 = .ok (.irem, 1) := by decide +kernel
theorem dX1_sendPartner_38 : decode cX1_sendPartner 38 = .ok (.iload 5, 2) := by decide +kernel
theorem dX1_sendPartner_40 : decode cX1_sendPartner 40 = .ok (.iconst 3, 1) := by decide +kernel
theorem dX1_sendPartner_41 : decode cX1_sendPartner 41 = .ok (.irem, 1) := by decide +kernel
theorem dX1_sendPartner_42 : decode cX1_sendPartner 42 = .ok (.iload 6, 2) := by decide +kernel
theorem dX1_sendPartner_44 : decode cX1_sendPartner 44 = .ok (.invokestatic 138, 3) := by decide +kernel
theorem dX1_sendPartner_47 : decode cX1_sendPartner 47 = .ok (.istore 7, 2) := by decide +kernel
theorem dX1_sendPartner_49 : decode cX1_sendPartner 49 = .ok (.iload 6, 2) := by decide +kernel
theorem dX1_sendPartner_51 : decode cX1_sendPartner 51 = .ok (.iload 7, 2) := by decide +kernel
theorem dX1_sendPartner_53 : decode cX1_sendPartner 53 = .ok (.iload 4, 2) := by decide +kernel
theorem dX1_sendPartner_55 : decode cX1_sendPartner 55 = .ok (.iconst 3, 1) := by decide +kernel
theorem dX1_sendPartner_56 : decode cX1_sendPartner 56 = .ok (.irem, 1) := by decide +kernel
theorem dX1_sendPartner_57 : decode cX1_sendPartner 57 = .ok (.isub, 1) := by decide +kernel
theorem dX1_sendPartner_58 : decode cX1_sendPartner 58 = .ok (.invokestatic 141, 3) := by decide +kernel
theorem dX1_sendPartner_61 : decode cX1_sendPartner 61 = .ok (.isub, 1) := by decide +kernel
theorem dX1_sendPartner_62 : decode cX1_sendPartner 62 = .ok (.istore 8, 2) := by decide +kernel
theorem dX1_sendPartner_64 : decode cX1_sendPartner 64 = .ok (.aload_n 0, 1) := by decide +kernel
theorem dX1_sendPartner_65 : decode cX1_sendPartner 65 = .ok (.getfield 9, 3) := by decide +kernel
theorem dX1_sendPartner_68 : decode cX1_sendPartner 68 = .ok (.iload_n 3, 1) := by decide +kernel
theorem dX1_sendPartner_69 : decode cX1_sendPartner 69 = .ok (.iconst 3, 1) := by decide +kernel
theorem dX1_sendPartner_70 : decode cX1_sendPartner 70 = .ok (.iload 4, 2) := by decide +kernel
theorem dX1_sendPartner_72 : decode cX1_sendPartner 72 = .ok (.iconst 3, 1) := by decide +kernel
theorem dX1_sendPartner_73 : decode cX1_sendPartner 73 = .ok (.idiv, 1) := by decide +kernel
theorem dX1_sendPartner_74 : decode cX1_sendPartner 74 = .ok (.iload 5, 2) := by decide +kernel
theorem dX1_sendPartner_76 : decode cX1_sendPartner 76 = .ok (.iconst 3, 1) := by decide +kernel
theorem dX1_sendPartner_77 : decode cX1_sendPartner 77 = .ok (.idiv, 1) := by decide +kernel
theorem dX1_sendPartner_78 : decode cX1_sendPartner 78 = .ok (.iload 8, 2) := by decide +kernel
theorem dX1_sendPartner_80 : decode cX1_sendPartner 80 = .ok (.invokestatic 138, 3) := by decide +kernel
theorem dX1_sendPartner_83 : decode cX1_sendPartner 83 = .ok (.imul, 1) := by decide +kernel
theorem dX1_sendPartner_84 : decode cX1_sendPartner 84 = .ok (.iload 7, 2) := by decide +kernel
theorem dX1_sendPartner_86 : decode cX1_sendPartner 86 = .ok (.iadd, 1) := by decide +kernel
theorem dX1_sendPartner_87 : decode cX1_sendPartner 87 = .ok (.iastore, 1) := by decide +kernel
theorem dX1_sendPartner_88 : decode cX1_sendPartner 88 = .ok (.return_, 1) := by decide +kernel
theorem dX1_weary_0 : decode cX1_weary 0 = .ok (.aload_n 0, 1) := by decide +kernel
theorem dX1_weary_1 : decode cX1_weary 1 = .ok (.getfield 18, 3) := by decide +kernel
theorem dX1_weary_4 : decode cX1_weary 4 = .ok (.iload_n 1, 1) := by decide +kernel
theorem dX1_weary_5 : decode cX1_weary 5 = .ok (.bipush 99, 2) := by decide +kernel
theorem dX1_weary_7 : decode cX1_weary 7 = .ok (.aload_n 0, 1) := by decide +kernel
theorem dX1_weary_8 : decode cX1_weary 8 = .ok (.getfield 18, 3) := by decide +kernel
theorem dX1_weary_11 : decode cX1_weary 11 = .ok (.iload_n 1, 1) := by decide +kernel
theorem dX1_weary_12 : decode cX1_weary 12 = .ok (.iaload, 1) := by decide +kernel
theorem dX1_weary_13 : decode cX1_weary 13 = .ok (.iload_n 2, 1) := by decide +kernel
theorem dX1_weary_14 : decode cX1_weary 14 = .ok (.iadd, 1) := by decide +kernel
theorem dX1_weary_15 : decode cX1_weary 15 = .ok (.invokestatic 109, 3) := by decide +kernel
theorem dX1_weary_18 : decode cX1_weary 18 = .ok (.iastore, 1) := by decide +kernel
theorem dX1_weary_19 : decode cX1_weary 19 = .ok (.return_, 1) := by decide +kernel
theorem dX1_partnerOf_0 : decode cX1_partnerOf 0 = .ok (.iload_n 0, 1) := by decide +kernel
theorem dX1_partnerOf_1 : decode cX1_partnerOf 1 = .ok (.iconst 1, 1) := by decide +kernel
theorem dX1_partnerOf_2 : decode cX1_partnerOf 2 = .ok (.ixor, 1) := by decide +kernel
theorem dX1_partnerOf_3 : decode cX1_partnerOf 3 = .ok (.ireturn, 1) := by decide +kernel
theorem dX1_placeBy_0 : decode cX1_placeBy 0 = .ok (.aload_n 0, 1) := by decide +kernel
theorem dX1_placeBy_1 : decode cX1_placeBy 1 = .ok (.getfield 24, 3) := by decide +kernel
theorem dX1_placeBy_4 : decode cX1_placeBy 4 = .ok (.iload_n 1, 1) := by decide +kernel
theorem dX1_placeBy_5 : decode cX1_placeBy 5 = .ok (.iconst 2, 1) := by decide +kernel
theorem dX1_placeBy_6 : decode cX1_placeBy 6 = .ok (.idiv, 1) := by decide +kernel
theorem dX1_placeBy_7 : decode cX1_placeBy 7 = .ok (.iaload, 1) := by decide +kernel
theorem dX1_placeBy_8 : decode cX1_placeBy 8 = .ok (.ifCond .ne 18, 3) := by decide +kernel
theorem dX1_placeBy_11 : decode cX1_placeBy 11 = .ok (.iconst 3, 1) := by decide +kernel
theorem dX1_placeBy_12 : decode cX1_placeBy 12 = .ok (.iconst 2, 1) := by decide +kernel
theorem dX1_placeBy_13 : decode cX1_placeBy 13 = .ok (.aload_n 0, 1) := by decide +kernel
theorem dX1_placeBy_14 : decode cX1_placeBy 14 = .ok (.getfield 9, 3) := by decide +kernel
theorem dX1_placeBy_17 : decode cX1_placeBy 17 = .ok (.iload_n 1, 1) := by decide +kernel
theorem dX1_placeBy_18 : decode cX1_placeBy 18 = .ok (.iaload, 1) := by decide +kernel
theorem dX1_placeBy_19 : decode cX1_placeBy 19 = .ok (.iconst 3, 1) := by decide +kernel
theorem dX1_placeBy_20 : decode cX1_placeBy 20 = .ok (.irem, 1) := by decide +kernel
theorem dX1_placeBy_21 : decode cX1_placeBy 21 = .ok (.isub, 1) := by decide +kernel
theorem dX1_placeBy_22 : decode cX1_placeBy 22 = .ok (.iadd, 1) := by decide +kernel
theorem dX1_placeBy_23 : decode cX1_placeBy 23 = .ok (.goto 17, 3) := by decide +kernel
theorem dX1_placeBy_26 : decode cX1_placeBy 26 = .ok (.iconst 3, 1) := by decide +kernel
theorem dX1_placeBy_27 : decode cX1_placeBy 27 = .ok (.iconst 2, 1) := by decide +kernel
theorem dX1_placeBy_28 : decode cX1_placeBy 28 = .ok (.aload_n 0, 1) := by decide +kernel
theorem dX1_placeBy_29 : decode cX1_placeBy 29 = .ok (.getfield 9, 3) := by decide +kernel
theorem dX1_placeBy_32 : decode cX1_placeBy 32 = .ok (.iload_n 1, 1) := by decide +kernel
theorem dX1_placeBy_33 : decode cX1_placeBy 33 = .ok (.iaload, 1) := by decide +kernel
theorem dX1_placeBy_34 : decode cX1_placeBy 34 = .ok (.iconst 3, 1) := by decide +kernel
theorem dX1_placeBy_35 : decode cX1_placeBy 35 = .ok (.idiv, 1) := by decide +kernel
theorem dX1_placeBy_36 : decode cX1_placeBy 36 = .ok (.isub, 1) := by decide +kernel
theorem dX1_placeBy_37 : decode cX1_placeBy 37 = .ok (.imul, 1) := by decide +kernel
theorem dX1_placeBy_38 : decode cX1_placeBy 38 = .ok (.iconst 1, 1) := by decide +kernel
theorem dX1_placeBy_39 : decode cX1_placeBy 39 = .ok (.iadd, 1) := by decide +kernel
theorem dX1_placeBy_40 : decode cX1_placeBy 40 = .ok (.ireturn, 1) := by decide +kernel
theorem dX1_outOfPlace_0 : decode cX1_outOfPlace 0 = .ok (.aload_n 0, 1) := by decide +kernel
theorem dX1_outOfPlace_1 : decode cX1_outOfPlace 1 = .ok (.getfield 49, 3) := by decide +kernel
theorem dX1_outOfPlace_4 : decode cX1_outOfPlace 4 = .ok (.iconst 2, 1) := by decide +kernel
theorem dX1_outOfPlace_5 : decode cX1_outOfPlace 5 = .ok (.idiv, 1) := by decide +kernel
theorem dX1_outOfPlace_6 : decode cX1_outOfPlace 6 = .ok (.iload_n 1, 1) := by decide +kernel
theorem dX1_outOfPlace_7 : decode cX1_outOfPlace 7 = .ok (.if_icmp .ne 10, 3) := by decide +kernel
theorem dX1_outOfPlace_10 : decode cX1_outOfPlace 10 = .ok (.aload_n 0, 1) := by decide +kernel
theorem dX1_outOfPlace_11 : decode cX1_outOfPlace 11 = .ok (.getfield 49, 3) := by decide +kernel
theorem dX1_outOfPlace_14 : decode cX1_outOfPlace 14 = .ok (.goto 6, 3) := by decide +kernel
theorem dX1_outOfPlace_17 : decode cX1_outOfPlace 17 = .ok (.iconst 2, 1) := by decide +kernel
theorem dX1_outOfPlace_18 : decode cX1_outOfPlace 18 = .ok (.iload_n 1, 1) := by decide +kernel
theorem dX1_outOfPlace_19 : decode cX1_outOfPlace 19 = .ok (.imul, 1) := by decide +kernel
theorem dX1_outOfPlace_20 : decode cX1_outOfPlace 20 = .ok (.istore_n 2, 1) := by decide +kernel
theorem dX1_outOfPlace_21 : decode cX1_outOfPlace 21 = .ok (.aload_n 0, 1) := by decide +kernel
theorem dX1_outOfPlace_22 : decode cX1_outOfPlace 22 = .ok (.getfield 9, 3) := by decide +kernel
theorem dX1_outOfPlace_25 : decode cX1_outOfPlace 25 = .ok (.iload_n 2, 1) := by decide +kernel
theorem dX1_outOfPlace_26 : decode cX1_outOfPlace 26 = .ok (.invokestatic 126, 3) := by decide +kernel
theorem dX1_outOfPlace_29 : decode cX1_outOfPlace 29 = .ok (.iaload, 1) := by decide +kernel
theorem dX1_outOfPlace_30 : decode cX1_outOfPlace 30 = .ok (.aload_n 0, 1) := by decide +kernel
theorem dX1_outOfPlace_31 : decode cX1_outOfPlace 31 = .ok (.iload_n 2, 1) := by decide +kernel
theorem dX1_outOfPlace_32 : decode cX1_outOfPlace 32 = .ok (.invokevirtual 135, 3) := by decide +kernel
theorem dX1_outOfPlace_35 : decode cX1_outOfPlace 35 = .ok (.invokestatic 86, 3) := by decide +kernel
theorem dX1_outOfPlace_38 : decode cX1_outOfPlace 38 = .ok (.ireturn, 1) := by decide +kernel
theorem dX1_nearer_0 : decode cX1_nearer 0 = .ok (.iload_n 1, 1) := by decide +kernel
theorem dX1_nearer_1 : decode cX1_nearer 1 = .ok (.iload_n 0, 1) := by decide +kernel
theorem dX1_nearer_2 : decode cX1_nearer 2 = .ok (.if_icmp .le 13, 3) := by decide +kernel
theorem dX1_nearer_5 : decode cX1_nearer 5 = .ok (.iload_n 1, 1) := by decide +kernel
theorem dX1_nearer_6 : decode cX1_nearer 6 = .ok (.iload_n 0, 1) := by decide +kernel
theorem dX1_nearer_7 : decode cX1_nearer 7 = .ok (.iload_n 2, 1) := by decide +kernel
theorem dX1_nearer_8 : decode cX1_nearer 8 = .ok (.iadd, 1) := by decide +kernel
theorem dX1_nearer_9 : decode cX1_nearer 9 = .ok (.invokestatic 109, 3) := by decide +kernel
theorem dX1_nearer_12 : decode cX1_nearer 12 = .ok (.goto 10, 3) := by decide +kernel
theorem dX1_nearer_15 : decode cX1_nearer 15 = .ok (.iload_n 1, 1) := by decide +kernel
theorem dX1_nearer_16 : decode cX1_nearer 16 = .ok (.iload_n 0, 1) := by decide +kernel
theorem dX1_nearer_17 : decode cX1_nearer 17 = .ok (.iload_n 2, 1) := by decide +kernel
theorem dX1_nearer_18 : decode cX1_nearer 18 = .ok (.isub, 1) := by decide +kernel
theorem dX1_nearer_19 : decode cX1_nearer 19 = .ok (.invokestatic 77, 3) := by decide +kernel
theorem dX1_nearer_22 : decode cX1_nearer 22 = .ok (.ireturn, 1) := by decide +kernel
theorem dX1_allTired_0 : decode cX1_allTired 0 = .ok (.aload_n 0, 1) := by decide +kernel
theorem dX1_allTired_1 : decode cX1_allTired 1 = .ok (.getfield 18, 3) := by decide +kernel
theorem dX1_allTired_4 : decode cX1_allTired 4 = .ok (.iconst 0, 1) := by decide +kernel
theorem dX1_allTired_5 : decode cX1_allTired 5 = .ok (.iaload, 1) := by decide +kernel
theorem dX1_allTired_6 : decode cX1_allTired 6 = .ok (.aload_n 0, 1) := by decide +kernel
theorem dX1_allTired_7 : decode cX1_allTired 7 = .ok (.getfield 18, 3) := by decide +kernel
theorem dX1_allTired_10 : decode cX1_allTired 10 = .ok (.iconst 1, 1) := by decide +kernel
theorem dX1_allTired_11 : decode cX1_allTired 11 = .ok (.iaload, 1) := by decide +kernel
theorem dX1_allTired_12 : decode cX1_allTired 12 = .ok (.iadd, 1) := by decide +kernel
theorem dX1_allTired_13 : decode cX1_allTired 13 = .ok (.aload_n 0, 1) := by decide +kernel
theorem dX1_allTired_14 : decode cX1_allTired 14 = .ok (.getfield 18, 3) := by decide +kernel
theorem dX1_allTired_17 : decode cX1_allTired 17 = .ok (.iconst 2, 1) := by decide +kernel
theorem dX1_allTired_18 : decode cX1_allTired 18 = .ok (.iaload, 1) := by decide +kernel
theorem dX1_allTired_19 : decode cX1_allTired 19 = .ok (.iadd, 1) := by decide +kernel
theorem dX1_allTired_20 : decode cX1_allTired 20 = .ok (.aload_n 0, 1) := by decide +kernel
theorem dX1_allTired_21 : decode cX1_allTired 21 = .ok (.getfield 18, 3) := by decide +kernel
theorem dX1_allTired_24 : decode cX1_allTired 24 = .ok (.iconst 3, 1) := by decide +kernel
theorem dX1_allTired_25 : decode cX1_allTired 25 = .ok (.iaload, 1) := by decide +kernel
theorem dX1_allTired_26 : decode cX1_allTired 26 = .ok (.iadd, 1) := by decide +kernel
theorem dX1_allTired_27 : decode cX1_allTired 27 = .ok (.ireturn, 1) := by decide +kernel
theorem dX1_leftOnes_0 : decode cX1_leftOnes 0 = .ok (.aload_n 0, 1) := by decide +kernel
theorem dX1_leftOnes_1 : decode cX1_leftOnes 1 = .ok (.getfield 21, 3) := by decide +kernel
theorem dX1_leftOnes_4 : decode cX1_leftOnes 4 = .ok (.iconst 0, 1) := by decide +kernel
theorem dX1_leftOnes_5 : decode cX1_leftOnes 5 = .ok (.iaload, 1) := by decide +kernel
theorem dX1_leftOnes_6 : decode cX1_leftOnes 6 = .ok (.aload_n 0, 1) := by decide +kernel
theorem dX1_leftOnes_7 : decode cX1_leftOnes 7 = .ok (.getfield 21, 3) := by decide +kernel
theorem dX1_leftOnes_10 : decode cX1_leftOnes 10 = .ok (.iconst 1, 1) := by decide +kernel
theorem dX1_leftOnes_11 : decode cX1_leftOnes 11 = .ok (.iaload, 1) := by decide +kernel
theorem dX1_leftOnes_12 : decode cX1_leftOnes 12 = .ok (.iconst 1, 1) := by decide +kernel
theorem dX1_leftOnes_13 : decode cX1_leftOnes 13 = .ok (.ishl, 1) := by decide +kernel
theorem dX1_leftOnes_14 : decode cX1_leftOnes 14 = .ok (.ior, 1) := by decide +kernel
theorem dX1_leftOnes_15 : decode cX1_leftOnes 15 = .ok (.aload_n 0, 1) := by decide +kernel
theorem dX1_leftOnes_16 : decode cX1_leftOnes 16 = .ok (.getfield 21, 3) := by decide +kernel
theorem dX1_leftOnes_19 : decode cX1_leftOnes 19 = .ok (.iconst 2, 1) := by decide +kernel
theorem dX1_leftOnes_20 : decode cX1_leftOnes 20 = .ok (.iaload, 1) := by decide +kernel
theorem dX1_leftOnes_21 : decode cX1_leftOnes 21 = .ok (.iconst 2, 1) := by decide +kernel
theorem dX1_leftOnes_22 : decode cX1_leftOnes 22 = .ok (.ishl, 1) := by decide +kernel
theorem dX1_leftOnes_23 : decode cX1_leftOnes 23 = .ok (.ior, 1) := by decide +kernel
theorem dX1_leftOnes_24 : decode cX1_leftOnes 24 = .ok (.aload_n 0, 1) := by decide +kernel
theorem dX1_leftOnes_25 : decode cX1_leftOnes 25 = .ok (.getfield 21, 3) := by decide +kernel
theorem dX1_leftOnes_28 : decode cX1_leftOnes 28 = .ok (.iconst 3, 1) := by decide +kernel
theorem dX1_leftOnes_29 : decode cX1_leftOnes 29 = .ok (.iaload, 1) := by decide +kernel
theorem dX1_leftOnes_30 : decode cX1_leftOnes 30 = .ok (.iconst 3, 1) := by decide +kernel
theorem dX1_leftOnes_31 : decode cX1_leftOnes 31 = .ok (.ishl, 1) := by decide +kernel
theorem dX1_leftOnes_32 : decode cX1_leftOnes 32 = .ok (.ior, 1) := by decide +kernel
theorem dX1_leftOnes_33 : decode cX1_leftOnes 33 = .ok (.ireturn, 1) := by decide +kernel
theorem dX2_wrongByte_0 : decode cX2_wrongByte 0 = .ok (.iconst 0, 1) := by decide +kernel
theorem dX2_wrongByte_1 : decode cX2_wrongByte 1 = .ok (.istore_n 1, 1) := by decide +kernel
theorem dX2_wrongByte_2 : decode cX2_wrongByte 2 = .ok (.aload_n 0, 1) := by decide +kernel
theorem dX2_wrongByte_3 : decode cX2_wrongByte 3 = .ok (.iload_n 1, 1) := by decide +kernel
theorem dX2_wrongByte_4 : decode cX2_wrongByte 4 = .ok (.invokevirtual 9, 3) := by decide +kernel
theorem dX2_wrongByte_7 : decode cX2_wrongByte 7 = .ok (.invokestatic 15, 3) := by decide +kernel
theorem dX2_wrongByte_10 : decode cX2_wrongByte 10 = .ok (.istore_n 2, 1) := by decide +kernel
theorem dX2_wrongByte_11 : decode cX2_wrongByte 11 = .ok (.iload_n 2, 1) := by decide +kernel
theorem dX2_wrongByte_12 : decode cX2_wrongByte 12 = .ok (.ifCond .ne 5, 3) := by decide +kernel
theorem dX2_wrongByte_15 : decode cX2_wrongByte 15 = .ok (.iload_n 1, 1) := by decide +kernel
theorem dX2_wrongByte_16 : decode cX2_wrongByte 16 = .ok (.ireturn, 1) := by decide +kernel
theorem dX2_wrongByte_17 : decode cX2_wrongByte 17 = .ok (.iconst 1, 1) := by decide +kernel
theorem dX2_wrongByte_18 : decode cX2_wrongByte 18 = .ok (.istore_n 3, 1) := by decide +kernel
theorem dX2_wrongByte_19 : decode cX2_wrongByte 19 = .ok (.iload_n 3, 1) := by decide +kernel
theorem dX2_wrongByte_20 : decode cX2_wrongByte 20 = .ok (.iload_n 2, 1) := by decide +kernel
theorem dX2_wrongByte_21 : decode cX2_wrongByte 21 = .ok (.if_icmp .gt 28, 3) := by decide +kernel
theorem dX2_wrongByte_24 : decode cX2_wrongByte 24 = .ok (.aload_n 0, 1) := by decide +kernel
theorem dX2_wrongByte_25 : decode cX2_wrongByte 25 = .ok (.iload_n 1, 1) := by decide +kernel
theorem dX2_wrongByte_26 : decode cX2_wrongByte 26 = .ok (.iload_n 3, 1) := by decide +kernel
theorem dX2_wrongByte_27 : decode cX2_wrongByte 27 = .ok (.iadd, 1) := by decide +kernel
theorem dX2_wrongByte_28 : decode cX2_wrongByte 28 = .ok (.invokevirtual 20, 3) := by decide +kernel
theorem dX2_wrongByte_31 : decode cX2_wrongByte 31 = .ok (.bipush 10, 2) := by decide +kernel
theorem dX2_wrongByte_33 : decode cX2_wrongByte 33 = .ok (.invokestatic 23, 3) := by decide +kernel
theorem dX2_wrongByte_36 : decode cX2_wrongByte 36 = .ok (.ifCond .ne 7, 3) := by decide +kernel
theorem dX2_wrongByte_39 : decode cX2_wrongByte 39 = .ok (.iload_n 1, 1) := by decide +kernel
theorem dX2_wrongByte_40 : decode cX2_wrongByte 40 = .ok (.iload_n 3, 1) := by decide +kernel
theorem dX2_wrongByte_41 : decode cX2_wrongByte 41 = .ok (.iadd, 1) := by decide +kernel
theorem dX2_wrongByte_42 : decode cX2_wrongByte 42 = .ok (.ireturn, 1) := by decide +kernel
theorem dX2_wrongByte_43 : decode cX2_wrongByte 43 = .ok (.iinc 3 1, 3) := by decide +kernel
theorem dX2_wrongByte_46 : decode cX2_wrongByte 46 = .ok (.goto (-27), 3) := by decide +kernel
theorem dX2_wrongByte_49 : decode cX2_wrongByte 49 = .ok (.aload_n 0, 1) := by decide +kernel
theorem dX2_wrongByte_50 : decode cX2_wrongByte 50 = .ok (.iload_n 1, 1) := by decide +kernel
theorem dX2_wrongByte_51 : decode cX2_wrongByte 51 = .ok (.iload_n 2, 1) := by decide +kernel
theorem dX2_wrongByte_52 : decode cX2_wrongByte 52 = .ok (.iadd, 1) := by decide +kernel
theorem dX2_wrongByte_53 : decode cX2_wrongByte 53 = .ok (.iconst 1, 1) := by decide +kernel
theorem dX2_wrongByte_54 : decode cX2_wrongByte 54 = .ok (.iadd, 1) := by decide +kernel
theorem dX2_wrongByte_55 : decode cX2_wrongByte 55 = .ok (.invokevirtual 9, 3) := by decide +kernel
theorem dX2_wrongByte_58 : decode cX2_wrongByte 58 = .ok (.bipush 59, 2) := by decide +kernel
theorem dX2_wrongByte_60 : decode cX2_wrongByte 60 = .ok (.if_icmp .eq 9, 3) := by decide +kernel
theorem dX2_wrongByte_63 : decode cX2_wrongByte 63 = .ok (.iload_n 1, 1) := by decide +kernel
theorem dX2_wrongByte_64 : decode cX2_wrongByte 64 = .ok (.iload_n 2, 1) := by decide +kernel
theorem dX2_wrongByte_65 : decode cX2_wrongByte 65 = .ok (.iadd, 1) := by decide +kernel
theorem dX2_wrongByte_66 : decode cX2_wrongByte 66 = .ok (.iconst 1, 1) := by decide +kernel
theorem dX2_wrongByte_67 : decode cX2_wrongByte 67 = .ok (.iadd, 1) := by decide +kernel
theorem dX2_wrongByte_68 : decode cX2_wrongByte 68 = .ok (.ireturn, 1) := by decide +kernel
theorem dX2_wrongByte_69 : decode cX2_wrongByte 69 = .ok (.iload_n 1, 1) := by decide +kernel
theorem dX2_wrongByte_70 : decode cX2_wrongByte 70 = .ok (.iload_n 2, 1) := by decide +kernel
theorem dX2_wrongByte_71 : decode cX2_wrongByte 71 = .ok (.iconst 2, 1) := by decide +kernel
theorem dX2_wrongByte_72 : decode cX2_wrongByte 72 = .ok (.iadd, 1) := by decide +kernel
theorem dX2_wrongByte_73 : decode cX2_wrongByte 73 = .ok (.iadd, 1) := by decide +kernel
theorem dX2_wrongByte_74 : decode cX2_wrongByte 74 = .ok (.istore_n 1, 1) := by decide +kernel
theorem dX2_wrongByte_75 : decode cX2_wrongByte 75 = .ok (.iload_n 1, 1) := by decide +kernel
theorem dX2_wrongByte_76 : decode cX2_wrongByte 76 = .ok (.aload_n 0, 1) := by decide +kernel
theorem dX2_wrongByte_77 : decode cX2_wrongByte 77 = .ok (.getfield 27, 3) := by decide +kernel
theorem dX2_wrongByte_80 : decode cX2_wrongByte 80 = .ok (.if_icmp .lt (-78), 3) := by decide +kernel
theorem dX2_wrongByte_83 : decode cX2_wrongByte 83 = .ok (.iconst (-1), 1) := by decide +kernel
theorem dX2_wrongByte_84 : decode cX2_wrongByte 84 = .ok (.ireturn, 1) := by decide +kernel
theorem dX2_wrongStatement_0 : decode cX2_wrongStatement 0 = .ok (.iconst 0, 1) := by decide +kernel
theorem dX2_wrongStatement_1 : decode cX2_wrongStatement 1 = .ok (.istore_n 2, 1) := by decide +kernel
theorem dX2_wrongStatement_2 : decode cX2_wrongStatement 2 = .ok (.iload_n 2, 1) := by decide +kernel
theorem dX2_wrongStatement_3 : decode cX2_wrongStatement 3 = .ok (.aload_n 0, 1) := by decide +kernel
theorem dX2_wrongStatement_4 : decode cX2_wrongStatement 4 = .ok (.getfield 27, 3) := by decide +kernel
theorem dX2_wrongStatement_7 : decode cX2_wrongStatement 7 = .ok (.if_icmp .ge 30, 3) := by decide +kernel
theorem dX2_wrongStatement_10 : decode cX2_wrongStatement 10 = .ok (.aload_n 0, 1) := by decide +kernel
theorem dX2_wrongStatement_11 : decode cX2_wrongStatement 11 = .ok (.iload_n 2, 1) := by decide +kernel
theorem dX2_wrongStatement_12 : decode cX2_wrongStatement 12 = .ok (.aload_n 1, 1) := by decide +kernel
theorem dX2_wrongStatement_13 : decode cX2_wrongStatement 13 = .ok (.invokestatic 31, 3) := by decide +kernel
theorem dX2_wrongStatement_16 : decode cX2_wrongStatement 16 = .ok (.ifCond .ge 5, 3) := by decide +kernel
theorem dX2_wrongStatement_19 : decode cX2_wrongStatement 19 = .ok (.iload_n 2, 1) := by decide +kernel
theorem dX2_wrongStatement_20 : decode cX2_wrongStatement 20 = .ok (.ireturn, 1) := by decide +kernel
theorem dX2_wrongStatement_21 : decode cX2_wrongStatement 21 = .ok (.iload_n 2, 1) := by decide +kernel
theorem dX2_wrongStatement_22 : decode cX2_wrongStatement 22 = .ok (.aload_n 0, 1) := by decide +kernel
theorem dX2_wrongStatement_23 : decode cX2_wrongStatement 23 = .ok (.iload_n 2, 1) := by decide +kernel
theorem dX2_wrongStatement_24 : decode cX2_wrongStatement 24 = .ok (.invokevirtual 9, 3) := by decide +kernel
theorem dX2_wrongStatement_27 : decode cX2_wrongStatement 27 = .ok (.invokestatic 15, 3) := by decide +kernel
theorem dX2_wrongStatement_30 : decode cX2_wrongStatement 30 = .ok (.iconst 2, 1) := by decide +kernel
theorem dX2_wrongStatement_31 : decode cX2_wrongStatement 31 = .ok (.iadd, 1) := by decide +kernel
theorem dX2_wrongStatement_32 : decode cX2_wrongStatement 32 = .ok (.iadd, 1) := by decide +kernel
theorem dX2_wrongStatement_33 : decode cX2_wrongStatement 33 = .ok (.istore_n 2, 1) := by decide +kernel
theorem dX2_wrongStatement_34 : decode cX2_wrongStatement 34 = .ok (.goto (-32), 3) := by decide +kernel
theorem dX2_wrongStatement_37 : decode cX2_wrongStatement 37 = .ok (.iconst (-1), 1) := by decide +kernel
theorem dX2_wrongStatement_38 : decode cX2_wrongStatement 38 = .ok (.ireturn, 1) := by decide +kernel
theorem dX2_statements_0 : decode cX2_statements 0 = .ok (.iconst 0, 1) := by decide +kernel
theorem dX2_statements_1 : decode cX2_statements 1 = .ok (.istore_n 1, 1) := by decide +kernel
theorem dX2_statements_2 : decode cX2_statements 2 = .ok (.iconst 0, 1) := by decide +kernel
theorem dX2_statements_3 : decode cX2_statements 3 = .ok (.istore_n 2, 1) := by decide +kernel
theorem dX2_statements_4 : decode cX2_statements 4 = .ok (.iload_n 2, 1) := by decide +kernel
theorem dX2_statements_5 : decode cX2_statements 5 = .ok (.aload_n 0, 1) := by decide +kernel
theorem dX2_statements_6 : decode cX2_statements 6 = .ok (.getfield 27, 3) := by decide +kernel
theorem dX2_statements_9 : decode cX2_statements 9 = .ok (.if_icmp .ge 22, 3) := by decide +kernel
theorem dX2_statements_12 : decode cX2_statements 12 = .ok (.aload_n 0, 1) := by decide +kernel
theorem dX2_statements_13 : decode cX2_statements 13 = .ok (.iload_n 2, 1) := by decide +kernel
theorem dX2_statements_14 : decode cX2_statements 14 = .ok (.invokevirtual 9, 3) := by decide +kernel
theorem dX2_statements_17 : decode cX2_statements 17 = .ok (.bipush 59, 2) := by decide +kernel
theorem dX2_statements_19 : decode cX2_statements 19 = .ok (.if_icmp .ne 6, 3) := by decide +kernel
theorem dX2_statements_22 : decode cX2_statements 22 = .ok (.iinc 1 1, 3) := by decide +kernel
theorem dX2_statements_25 : decode cX2_statements 25 = .ok (.iinc 2 1, 3) := by decide +kernel
theorem dX2_statements_28 : decode cX2_statements 28 = .ok (.goto (-24), 3) := by decide +kernel
theorem dX2_statements_31 : decode cX2_statements 31 = .ok (.iload_n 1, 1) := by decide +kernel
theorem dX2_statements_32 : decode cX2_statements 32 = .ok (.ireturn, 1) := by decide +kernel
theorem dX2_digitsBehind_0 : decode cX2_digitsBehind 0 = .ok (.iload_n 0, 1) := by decide +kernel
theorem dX2_digitsBehind_1 : decode cX2_digitsBehind 1 = .ok (.tableswitch 113 98 120 #[109, 113, 107, 113, 109, 113, 109, 113, 113, 113, 107, 113, 113, 113, 111, 113, 113, 113, 111, 113, 113, 113, 109], 107) := by decide +kernel
theorem dX2_digitsBehind_108 : decode cX2_digitsBehind 108 = .ok (.iconst 1, 1) := by decide +kernel
theorem dX2_digitsBehind_109 : decode cX2_digitsBehind 109 = .ok (.ireturn, 1) := by decide +kernel
theorem dX2_digitsBehind_110 : decode cX2_digitsBehind 110 = .ok (.iconst 2, 1) := by decide +kernel
theorem dX2_digitsBehind_111 : decode cX2_digitsBehind 111 = .ok (.ireturn, 1) := by decide +kernel
theorem dX2_digitsBehind_112 : decode cX2_digitsBehind 112 = .ok (.iconst 3, 1) := by decide +kernel
theorem dX2_digitsBehind_113 : decode cX2_digitsBehind 113 = .ok (.ireturn, 1) := by decide +kernel
theorem dX2_digitsBehind_114 : decode cX2_digitsBehind 114 = .ok (.iconst 0, 1) := by decide +kernel
theorem dX2_digitsBehind_115 : decode cX2_digitsBehind 115 = .ok (.ireturn, 1) := by decide +kernel
theorem dX2_tell_0 : decode cX2_tell 0 = .ok (.aload_n 0, 1) := by decide +kernel
theorem dX2_tell_1 : decode cX2_tell 1 = .ok (.iload_n 1, 1) := by decide +kernel
theorem dX2_tell_2 : decode cX2_tell 2 = .ok (.iconst 1, 1) := by decide +kernel
theorem dX2_tell_3 : decode cX2_tell 3 = .ok (.iadd, 1) := by decide +kernel
theorem dX2_tell_4 : decode cX2_tell 4 = .ok (.invokevirtual 20, 3) := by decide +kernel
theorem dX2_tell_7 : decode cX2_tell 7 = .ok (.istore_n 3, 1) := by decide +kernel
theorem dX2_tell_8 : decode cX2_tell 8 = .ok (.aload_n 0, 1) := by decide +kernel
theorem dX2_tell_9 : decode cX2_tell 9 = .ok (.iload_n 1, 1) := by decide +kernel
theorem dX2_tell_10 : decode cX2_tell 10 = .ok (.iconst 2, 1) := by decide +kernel
theorem dX2_tell_11 : decode cX2_tell 11 = .ok (.iadd, 1) := by decide +kernel
theorem dX2_tell_12 : decode cX2_tell 12 = .ok (.invokevirtual 20, 3) := by decide +kernel
theorem dX2_tell_15 : decode cX2_tell 15 = .ok (.istore 4, 2) := by decide +kernel
theorem dX2_tell_17 : decode cX2_tell 17 = .ok (.aload_n 0, 1) := by decide +kernel
theorem dX2_tell_18 : decode cX2_tell 18 = .ok (.iload_n 1, 1) := by decide +kernel
theorem dX2_tell_19 : decode cX2_tell 19 = .ok (.iconst 3, 1) := by decide +kernel
theorem dX2_tell_20 : decode cX2_tell 20 = .ok (.iadd, 1) := by decide +kernel
theorem dX2_tell_21 : decode cX2_tell 21 = .ok (.invokevirtual 20, 3) := by decide +kernel
theorem dX2_tell_24 : decode cX2_tell 24 = .ok (.istore 5, 2) := by decide +kernel
theorem dX2_tell_26 : decode cX2_tell 26 = .ok (.aload_n 0, 1) := by decide +kernel
theorem dX2_tell_27 : decode cX2_tell 27 = .ok (.iload_n 1, 1) := by decide +kernel
theorem dX2_tell_28 : decode cX2_tell 28 = .ok (.invokevirtual 9, 3) := by decide +kernel
theorem dX2_tell_31 : decode cX2_tell 31 = .ok (.tableswitch 167 98 116 #[89, 167, 161, 167, 143, 167, 152, 167, 167, 167, 137, 167, 167, 167, 113, 167, 167, 167, 123], 89) := by decide +kernel
theorem dX2_tell_120 : decode cX2_tell 120 = .ok (.iload_n 3, 1) := by decide +kernel
theorem dX2_tell_121 : decode cX2_tell 121 = .ok (.bipush 8, 2) := by decide +kernel
theorem dX2_tell_123 : decode cX2_tell 123 = .ok (.invokestatic 23, 3) := by decide +kernel
theorem dX2_tell_126 : decode cX2_tell 126 = .ok (.ifCond .eq 16, 3) := by decide +kernel
theorem dX2_tell_129 : decode cX2_tell 129 = .ok (.aload_n 2, 1) := by decide +kernel
theorem dX2_tell_130 : decode cX2_tell 130 = .ok (.iload_n 3, 1) := by decide +kernel
theorem dX2_tell_131 : decode cX2_tell 131 = .ok (.iload 4, 2) := by decide +kernel
theorem dX2_tell_133 : decode cX2_tell 133 = .ok (.invokestatic 35, 3) := by decide +kernel
theorem dX2_tell_136 : decode cX2_tell 136 = .ok (.invokevirtual 41, 3) := by decide +kernel
theorem dX2_tell_139 : decode cX2_tell 139 = .ok (.goto 4, 3) := by decide +kernel
theorem dX2_tell_142 : decode cX2_tell 142 = .ok (.iconst (-1), 1) := by decide +kernel
theorem dX2_tell_143 : decode cX2_tell 143 = .ok (.ireturn, 1) := by decide +kernel
theorem dX2_tell_144 : decode cX2_tell 144 = .ok (.aload_n 2, 1) := by decide +kernel
theorem dX2_tell_145 : decode cX2_tell 145 = .ok (.iload_n 3, 1) := by decide +kernel
theorem dX2_tell_146 : decode cX2_tell 146 = .ok (.iload 4, 2) := by decide +kernel
theorem dX2_tell_148 : decode cX2_tell 148 = .ok (.iload 5, 2) := by decide +kernel
theorem dX2_tell_150 : decode cX2_tell 150 = .ok (.invokevirtual 47, 3) := by decide +kernel
theorem dX2_tell_153 : decode cX2_tell 153 = .ok (.ireturn, 1) := by decide +kernel
theorem dX2_tell_154 : decode cX2_tell 154 = .ok (.aload_n 2, 1) := by decide +kernel
theorem dX2_tell_155 : decode cX2_tell 155 = .ok (.iload_n 3, 1) := by decide +kernel
theorem dX2_tell_156 : decode cX2_tell 156 = .ok (.bipush 10, 2) := by decide +kernel
theorem dX2_tell_158 : decode cX2_tell 158 = .ok (.iload 4, 2) := by decide +kernel
theorem dX2_tell_160 : decode cX2_tell 160 = .ok (.imul, 1) := by decide +kernel
theorem dX2_tell_161 : decode cX2_tell 161 = .ok (.iload 5, 2) := by decide +kernel
theorem dX2_tell_163 : decode cX2_tell 163 = .ok (.iadd, 1) := by decide +kernel
theorem dX2_tell_164 : decode cX2_tell 164 = .ok (.invokevirtual 51, 3) := by decide +kernel
theorem dX2_tell_167 : decode cX2_tell 167 = .ok (.ireturn, 1) := by decide +kernel
theorem dX2_tell_168 : decode cX2_tell 168 = .ok (.aload_n 2, 1) := by decide +kernel
theorem dX2_tell_169 : decode cX2_tell 169 = .ok (.iload_n 3, 1) := by decide +kernel
theorem dX2_tell_170 : decode cX2_tell 170 = .ok (.invokevirtual 55, 3) := by decide +kernel
theorem dX2_tell_173 : decode cX2_tell 173 = .ok (.ireturn, 1) := by decide +kernel
theorem dX2_tell_174 : decode cX2_tell 174 = .ok (.aload_n 2, 1) := by decide +kernel
theorem dX2_tell_175 : decode cX2_tell 175 = .ok (.iload_n 3, 1) := by decide +kernel
theorem dX2_tell_176 : decode cX2_tell 176 = .ok (.iconst 0, 1) := by decide +kernel
theorem dX2_tell_177 : decode cX2_tell 177 = .ok (.iload 4, 2) := by decide +kernel
theorem dX2_tell_179 : decode cX2_tell 179 = .ok (.invokevirtual 58, 3) := by decide +kernel
theorem dX2_tell_182 : decode cX2_tell 182 = .ok (.ireturn, 1) := by decide +kernel
theorem dX2_tell_183 : decode cX2_tell 183 = .ok (.aload_n 2, 1) := by decide +kernel
theorem dX2_tell_184 : decode cX2_tell 184 = .ok (.iload_n 3, 1) := by decide +kernel
theorem dX2_tell_185 : decode cX2_tell 185 = .ok (.iconst 1, 1) := by decide +kernel
theorem dX2_tell_186 : decode cX2_tell 186 = .ok (.iload 4, 2) := by decide +kernel
theorem dX2_tell_188 : decode cX2_tell 188 = .ok (.invokevirtual 58, 3) := by decide +kernel
theorem dX2_tell_191 : decode cX2_tell 191 = .ok (.ireturn, 1) := by decide +kernel
theorem dX2_tell_192 : decode cX2_tell 192 = .ok (.aload_n 2, 1) := by decide +kernel
theorem dX2_tell_193 : decode cX2_tell 193 = .ok (.iload_n 3, 1) := by decide +kernel
theorem dX2_tell_194 : decode cX2_tell 194 = .ok (.invokevirtual 61, 3) := by decide +kernel
theorem dX2_tell_197 : decode cX2_tell 197 = .ok (.ireturn, 1) := by decide +kernel
theorem dX2_tell_198 : decode cX2_tell 198 = .ok (.aload_n 2, 1) := by decide +kernel
theorem dX2_tell_199 : decode cX2_tell 199 = .ok (.iload_n 3, 1) := by decide +kernel
theorem dX2_tell_200 : decode cX2_tell 200 = .ok (.iload 4, 2) := by decide +kernel
theorem dX2_tell_202 : decode cX2_tell 202 = .ok (.invokevirtual 64, 3) := by decide +kernel
theorem dX2_tell_205 : decode cX2_tell 205 = .ok (.istore 6, 2) := by decide +kernel
theorem dX2_tell_207 : decode cX2_tell 207 = .ok (.iload 6, 2) := by decide +kernel
theorem dX2_tell_209 : decode cX2_tell 209 = .ok (.ifCond .ne 11, 3) := by decide +kernel
theorem dX2_tell_212 : decode cX2_tell 212 = .ok (.aload_n 2, 1) := by decide +kernel
theorem dX2_tell_213 : decode cX2_tell 213 = .ok (.iload_n 3, 1) := by decide +kernel
theorem dX2_tell_214 : decode cX2_tell 214 = .ok (.iload 4, 2) := by decide +kernel
theorem dX2_tell_216 : decode cX2_tell 216 = .ok (.invokevirtual 67, 3) := by decide +kernel
theorem dX2_tell_219 : decode cX2_tell 219 = .ok (.pop, 1) := by decide +kernel
theorem dX2_tell_220 : decode cX2_tell 220 = .ok (.iload 6, 2) := by decide +kernel
theorem dX2_tell_222 : decode cX2_tell 222 = .ok (.ireturn, 1) := by decide +kernel
theorem dX3_init_0 : decode cX3_init 0 = .ok (.aload_n 0, 1) := by decide +kernel
theorem dX3_init_1 : decode cX3_init 1 = .ok (.iload_n 1, 1) := by decide +kernel
theorem dX3_init_2 : decode cX3_init 2 = .ok (.invokespecial 1, 3) := by decide +kernel
theorem dX3_init_5 : decode cX3_init 5 = .ok (.return_, 1) := by decide +kernel
theorem dX3_kind_0 : decode cX3_kind 0 = .ok (.iconst 2, 1) := by decide +kernel
theorem dX3_kind_1 : decode cX3_kind 1 = .ok (.ireturn, 1) := by decide +kernel
theorem dX3_timeTo_0 : decode cX3_timeTo 0 = .ok (.iload_n 1, 1) := by decide +kernel
theorem dX3_timeTo_1 : decode cX3_timeTo 1 = .ok (.iconst 3, 1) := by decide +kernel
theorem dX3_timeTo_2 : decode cX3_timeTo 2 = .ok (.idiv, 1) := by decide +kernel
theorem dX3_timeTo_3 : decode cX3_timeTo 3 = .ok (.ifCond .ne 7, 3) := by decide +kernel
theorem dX3_timeTo_6 : decode cX3_timeTo 6 = .ok (.iconst 2, 1) := by decide +kernel
theorem dX3_timeTo_7 : decode cX3_timeTo 7 = .ok (.goto 8, 3) := by decide +kernel
theorem dX3_timeTo_10 : decode cX3_timeTo 10 = .ok (.aload_n 0, 1) := by decide +kernel
theorem dX3_timeTo_11 : decode cX3_timeTo 11 = .ok (.iload_n 1, 1) := by decide +kernel
theorem dX3_timeTo_12 : decode cX3_timeTo 12 = .ok (.invokespecial 7, 3) := by decide +kernel
theorem dX3_timeTo_15 : decode cX3_timeTo 15 = .ok (.ireturn, 1) := by decide +kernel
theorem dX3_effort_0 : decode cX3_effort 0 = .ok (.aload_n 0, 1) := by decide +kernel
theorem dX3_effort_1 : decode cX3_effort 1 = .ok (.invokespecial 11, 3) := by decide +kernel
theorem dX3_effort_4 : decode cX3_effort 4 = .ok (.aload_n 0, 1) := by decide +kernel
theorem dX3_effort_5 : decode cX3_effort 5 = .ok (.getfield 15, 3) := by decide +kernel
theorem dX3_effort_8 : decode cX3_effort 8 = .ok (.iconst 3, 1) := by decide +kernel
theorem dX3_effort_9 : decode cX3_effort 9 = .ok (.idiv, 1) := by decide +kernel
theorem dX3_effort_10 : decode cX3_effort 10 = .ok (.iadd, 1) := by decide +kernel
theorem dX3_effort_11 : decode cX3_effort 11 = .ok (.ireturn, 1) := by decide +kernel
theorem dX3_price_0 : decode cX3_price 0 = .ok (.aload_n 0, 1) := by decide +kernel
theorem dX3_price_1 : decode cX3_price 1 = .ok (.invokespecial 21, 3) := by decide +kernel
theorem dX3_price_4 : decode cX3_price 4 = .ok (.aload_n 0, 1) := by decide +kernel
theorem dX3_price_5 : decode cX3_price 5 = .ok (.getfield 15, 3) := by decide +kernel
theorem dX3_price_8 : decode cX3_price 8 = .ok (.iadd, 1) := by decide +kernel
theorem dX3_price_9 : decode cX3_price 9 = .ok (.ireturn, 1) := by decide +kernel
theorem dX3_fail_0 : decode cX3_fail 0 = .ok (.aload_n 0, 1) := by decide +kernel
theorem dX3_fail_1 : decode cX3_fail 1 = .ok (.getfield 15, 3) := by decide +kernel
theorem dX3_fail_4 : decode cX3_fail 4 = .ok (.ifCond .eq 13, 3) := by decide +kernel
theorem dX3_fail_7 : decode cX3_fail 7 = .ok (.new 24, 3) := by decide +kernel
theorem dX3_fail_10 : decode cX3_fail 10 = .ok (.dup, 1) := by decide +kernel
theorem dX3_fail_11 : decode cX3_fail 11 = .ok (.ldc 26, 2) := by decide +kernel
theorem dX3_fail_13 : decode cX3_fail 13 = .ok (.invokespecial 28, 3) := by decide +kernel
theorem dX3_fail_16 : decode cX3_fail 16 = .ok (.athrow, 1) := by decide +kernel
theorem dX3_fail_17 : decode cX3_fail 17 = .ok (.return_, 1) := by decide +kernel
theorem dX4_init_0 : decode cX4_init 0 = .ok (.aload_n 0, 1) := by decide +kernel
theorem dX4_init_1 : decode cX4_init 1 = .ok (.iload_n 1, 1) := by decide +kernel
theorem dX4_init_2 : decode cX4_init 2 = .ok (.invokespecial 1, 3) := by decide +kernel
theorem dX4_init_5 : decode cX4_init 5 = .ok (.return_, 1) := by decide +kernel
theorem dX4_kind_0 : decode cX4_kind 0 = .ok (.iconst 5, 1) := by decide +kernel
theorem dX4_kind_1 : decode cX4_kind 1 = .ok (.ireturn, 1) := by decide +kernel
theorem dX4_timeTo_0 : decode cX4_timeTo 0 = .ok (.aload_n 0, 1) := by decide +kernel
theorem dX4_timeTo_1 : decode cX4_timeTo 1 = .ok (.iload_n 1, 1) := by decide +kernel
theorem dX4_timeTo_2 : decode cX4_timeTo 2 = .ok (.invokespecial 7, 3) := by decide +kernel
theorem dX4_timeTo_5 : decode cX4_timeTo 5 = .ok (.iconst 2, 1) := by decide +kernel
theorem dX4_timeTo_6 : decode cX4_timeTo 6 = .ok (.idiv, 1) := by decide +kernel
theorem dX4_timeTo_7 : decode cX4_timeTo 7 = .ok (.ireturn, 1) := by decide +kernel
theorem dX4_effort_0 : decode cX4_effort 0 = .ok (.aload_n 0, 1) := by decide +kernel
theorem dX4_effort_1 : decode cX4_effort 1 = .ok (.invokespecial 11, 3) := by decide +kernel
theorem dX4_effort_4 : decode cX4_effort 4 = .ok (.iconst 1, 1) := by decide +kernel
theorem dX4_effort_5 : decode cX4_effort 5 = .ok (.isub, 1) := by decide +kernel
theorem dX4_effort_6 : decode cX4_effort 6 = .ok (.ireturn, 1) := by decide +kernel
theorem dX4_price_0 : decode cX4_price 0 = .ok (.aload_n 0, 1) := by decide +kernel
theorem dX4_price_1 : decode cX4_price 1 = .ok (.invokespecial 15, 3) := by decide +kernel
theorem dX4_price_4 : decode cX4_price 4 = .ok (.iconst 2, 1) := by decide +kernel
theorem dX4_price_5 : decode cX4_price 5 = .ok (.iadd, 1) := by decide +kernel
theorem dX4_price_6 : decode cX4_price 6 = .ok (.ireturn, 1) := by decide +kernel
theorem dX5_init_0 : decode cX5_init 0 = .ok (.aload_n 0, 1) := by decide +kernel
theorem dX5_init_1 : decode cX5_init 1 = .ok (.iload_n 1, 1) := by decide +kernel
theorem dX5_init_2 : decode cX5_init 2 = .ok (.invokespecial 1, 3) := by decide +kernel
theorem dX5_init_5 : decode cX5_init 5 = .ok (.return_, 1) := by decide +kernel
theorem dX5_kind_0 : decode cX5_kind 0 = .ok (.iconst 3, 1) := by decide +kernel
theorem dX5_kind_1 : decode cX5_kind 1 = .ok (.ireturn, 1) := by decide +kernel
theorem dX5_timeTo_0 : decode cX5_timeTo 0 = .ok (.aload_n 0, 1) := by decide +kernel
theorem dX5_timeTo_1 : decode cX5_timeTo 1 = .ok (.iload_n 1, 1) := by decide +kernel
theorem dX5_timeTo_2 : decode cX5_timeTo 2 = .ok (.invokespecial 7, 3) := by decide +kernel
theorem dX5_timeTo_5 : decode cX5_timeTo 5 = .ok (.iconst 3, 1) := by decide +kernel
theorem dX5_timeTo_6 : decode cX5_timeTo 6 = .ok (.iadd, 1) := by decide +kernel
theorem dX5_timeTo_7 : decode cX5_timeTo 7 = .ok (.ireturn, 1) := by decide +kernel
theorem dX5_effort_0 : decode cX5_effort 0 = .ok (.aload_n 0, 1) := by decide +kernel
theorem dX5_effort_1 : decode cX5_effort 1 = .ok (.invokespecial 11, 3) := by decide +kernel
theorem dX5_effort_4 : decode cX5_effort 4 = .ok (.iconst 1, 1) := by decide +kernel
theorem dX5_effort_5 : decode cX5_effort 5 = .ok (.iadd, 1) := by decide +kernel
theorem dX5_effort_6 : decode cX5_effort 6 = .ok (.ireturn, 1) := by decide +kernel
theorem dX5_price_0 : decode cX5_price 0 = .ok (.iconst 1, 1) := by decide +kernel
theorem dX5_price_1 : decode cX5_price 1 = .ok (.ireturn, 1) := by decide +kernel
theorem dX5_fail_0 : decode cX5_fail 0 = .ok (.return_, 1) := by decide +kernel
theorem dX6_init_0 : decode cX6_init 0 = .ok (.aload_n 0, 1) := by decide +kernel
theorem dX6_init_1 : decode cX6_init 1 = .ok (.iload_n 1, 1) := by decide +kernel
theorem dX6_init_2 : decode cX6_init 2 = .ok (.invokespecial 1, 3) := by decide +kernel
theorem dX6_init_5 : decode cX6_init 5 = .ok (.return_, 1) := by decide +kernel
theorem dX6_kind_0 : decode cX6_kind 0 = .ok (.iconst 4, 1) := by decide +kernel
theorem dX6_kind_1 : decode cX6_kind 1 = .ok (.ireturn, 1) := by decide +kernel
theorem dX6_timeTo_0 : decode cX6_timeTo 0 = .ok (.aload_n 0, 1) := by decide +kernel
theorem dX6_timeTo_1 : decode cX6_timeTo 1 = .ok (.iload_n 1, 1) := by decide +kernel
theorem dX6_timeTo_2 : decode cX6_timeTo 2 = .ok (.invokespecial 7, 3) := by decide +kernel
theorem dX6_timeTo_5 : decode cX6_timeTo 5 = .ok (.iconst 1, 1) := by decide +kernel
theorem dX6_timeTo_6 : decode cX6_timeTo 6 = .ok (.isub, 1) := by decide +kernel
theorem dX6_timeTo_7 : decode cX6_timeTo 7 = .ok (.ireturn, 1) := by decide +kernel
theorem dX6_price_0 : decode cX6_price 0 = .ok (.aload_n 0, 1) := by decide +kernel
theorem dX6_price_1 : decode cX6_price 1 = .ok (.invokespecial 11, 3) := by decide +kernel
theorem dX6_price_4 : decode cX6_price 4 = .ok (.iconst 2, 1) := by decide +kernel
theorem dX6_price_5 : decode cX6_price 5 = .ok (.idiv, 1) := by decide +kernel
theorem dX6_price_6 : decode cX6_price 6 = .ok (.ireturn, 1) := by decide +kernel
theorem dX6_fail_0 : decode cX6_fail 0 = .ok (.aload_n 0, 1) := by decide +kernel
theorem dX6_fail_1 : decode cX6_fail 1 = .ok (.getfield 15, 3) := by decide +kernel
theorem dX6_fail_4 : decode cX6_fail 4 = .ok (.ifCond .eq 13, 3) := by decide +kernel
theorem dX6_fail_7 : decode cX6_fail 7 = .ok (.new 21, 3) := by decide +kernel
theorem dX6_fail_10 : decode cX6_fail 10 = .ok (.dup, 1) := by decide +kernel
theorem dX6_fail_11 : decode cX6_fail 11 = .ok (.ldc 23, 2) := by decide +kernel
theorem dX6_fail_13 : decode cX6_fail 13 = .ok (.invokespecial 25, 3) := by decide +kernel
theorem dX6_fail_16 : decode cX6_fail 16 = .ok (.athrow, 1) := by decide +kernel
theorem dX6_fail_17 : decode cX6_fail 17 = .ok (.return_, 1) := by decide +kernel
theorem dX7_init_0 : decode cX7_init 0 = .ok (.aload_n 0, 1) := by decide +kernel
theorem dX7_init_1 : decode cX7_init 1 = .ok (.invokespecial 3, 3) := by decide +kernel
theorem dX7_init_4 : decode cX7_init 4 = .ok (.aload_n 0, 1) := by decide +kernel
theorem dX7_init_5 : decode cX7_init 5 = .ok (.bipush 100, 2) := by decide +kernel
theorem dX7_init_7 : decode cX7_init 7 = .ok (.newarray .int, 2) := by decide +kernel
theorem dX7_init_9 : decode cX7_init 9 = .ok (.putfield 9, 3) := by decide +kernel
theorem dX7_init_12 : decode cX7_init 12 = .ok (.aload_n 0, 1) := by decide +kernel
theorem dX7_init_13 : decode cX7_init 13 = .ok (.iconst (-1), 1) := by decide +kernel
theorem dX7_init_14 : decode cX7_init 14 = .ok (.putfield 15, 3) := by decide +kernel
theorem dX7_init_17 : decode cX7_init 17 = .ok (.return_, 1) := by decide +kernel
theorem dX7_isRow_0 : decode cX7_isRow 0 = .ok (.aload_n 0, 1) := by decide +kernel
theorem dX7_isRow_1 : decode cX7_isRow 1 = .ok (.getfield 15, 3) := by decide +kernel
theorem dX7_isRow_4 : decode cX7_isRow 4 = .ok (.iconst (-1), 1) := by decide +kernel
theorem dX7_isRow_5 : decode cX7_isRow 5 = .ok (.if_icmp .eq 7, 3) := by decide +kernel
theorem dX7_isRow_8 : decode cX7_isRow 8 = .ok (.iconst 1, 1) := by decide +kernel
theorem dX7_isRow_9 : decode cX7_isRow 9 = .ok (.goto 4, 3) := by decide +kernel
theorem dX7_isRow_12 : decode cX7_isRow 12 = .ok (.iconst 0, 1) := by decide +kernel
theorem dX7_isRow_13 : decode cX7_isRow 13 = .ok (.ireturn, 1) := by decide +kernel
theorem dX7_isBare_0 : decode cX7_isBare 0 = .ok (.aload_n 0, 1) := by decide +kernel
theorem dX7_isBare_1 : decode cX7_isBare 1 = .ok (.getfield 19, 3) := by decide +kernel
theorem dX7_isBare_4 : decode cX7_isBare 4 = .ok (.ifnonnull 14, 3) := by decide +kernel
theorem dX7_isBare_7 : decode cX7_isBare 7 = .ok (.aload_n 0, 1) := by decide +kernel
theorem dX7_isBare_8 : decode cX7_isBare 8 = .ok (.invokevirtual 23, 3) := by decide +kernel
theorem dX7_isBare_11 : decode cX7_isBare 11 = .ok (.ifCond .ne 7, 3) := by decide +kernel
theorem dX7_isBare_14 : decode cX7_isBare 14 = .ok (.iconst 1, 1) := by decide +kernel
theorem dX7_isBare_15 : decode cX7_isBare 15 = .ok (.goto 4, 3) := by decide +kernel
theorem dX7_isBare_18 : decode cX7_isBare 18 = .ok (.iconst 0, 1) := by decide +kernel
theorem dX7_isBare_19 : decode cX7_isBare 19 = .ok (.ireturn, 1) := by decide +kernel
theorem dX7_clear_0 : decode cX7_clear 0 = .ok (.aload_n 0, 1) := by decide +kernel
theorem dX7_clear_1 : decode cX7_clear 1 = .ok (.aconst_null, 1) := by decide +kernel
theorem dX7_clear_2 : decode cX7_clear 2 = .ok (.putfield 19, 3) := by decide +kernel
theorem dX7_clear_5 : decode cX7_clear 5 = .ok (.aload_n 0, 1) := by decide +kernel
theorem dX7_clear_6 : decode cX7_clear 6 = .ok (.iconst (-1), 1) := by decide +kernel
theorem dX7_clear_7 : decode cX7_clear 7 = .ok (.putfield 15, 3) := by decide +kernel
theorem dX7_clear_10 : decode cX7_clear 10 = .ok (.return_, 1) := by decide +kernel
theorem dX7_hold_0 : decode cX7_hold 0 = .ok (.aload_n 0, 1) := by decide +kernel
theorem dX7_hold_1 : decode cX7_hold 1 = .ok (.invokevirtual 27, 3) := by decide +kernel
theorem dX7_hold_4 : decode cX7_hold 4 = .ok (.aload_n 0, 1) := by decide +kernel
theorem dX7_hold_5 : decode cX7_hold 5 = .ok (.aload_n 1, 1) := by decide +kernel
theorem dX7_hold_6 : decode cX7_hold 6 = .ok (.putfield 19, 3) := by decide +kernel
theorem dX7_hold_9 : decode cX7_hold 9 = .ok (.return_, 1) := by decide +kernel
theorem dX7_lay_0 : decode cX7_lay 0 = .ok (.aload_n 0, 1) := by decide +kernel
theorem dX7_lay_1 : decode cX7_lay 1 = .ok (.invokevirtual 27, 3) := by decide +kernel
theorem dX7_lay_4 : decode cX7_lay 4 = .ok (.aload_n 0, 1) := by decide +kernel
theorem dX7_lay_5 : decode cX7_lay 5 = .ok (.iload_n 1, 1) := by decide +kernel
theorem dX7_lay_6 : decode cX7_lay 6 = .ok (.putfield 15, 3) := by decide +kernel
theorem dX7_lay_9 : decode cX7_lay 9 = .ok (.aload_n 0, 1) := by decide +kernel
theorem dX7_lay_10 : decode cX7_lay 10 = .ok (.iload_n 2, 1) := by decide +kernel
theorem dX7_lay_11 : decode cX7_lay 11 = .ok (.putfield 30, 3) := by decide +kernel
theorem dX7_lay_14 : decode cX7_lay 14 = .ok (.iconst 0, 1) := by decide +kernel
theorem dX7_lay_15 : decode cX7_lay 15 = .ok (.istore_n 3, 1) := by decide +kernel
theorem dX7_lay_16 : decode cX7_lay 16 = .ok (.iload_n 3, 1) := by decide +kernel
theorem dX7_lay_17 : decode cX7_lay 17 = .ok (.iload_n 2, 1) := by decide +kernel
theorem dX7_lay_18 : decode cX7_lay 18 = .ok (.if_icmp .ge 16, 3) := by decide +kernel
theorem dX7_lay_21 : decode cX7_lay 21 = .ok (.aload_n 0, 1) := by decide +kernel
theorem dX7_lay_22 : decode cX7_lay 22 = .ok (.getfield 9, 3) := by decide +kernel
theorem dX7_lay_25 : decode cX7_lay 25 = .ok (.iload_n 3, 1) := by decide +kernel
theorem dX7_lay_26 : decode cX7_lay 26 = .ok (.iconst 0, 1) := by decide +kernel
theorem dX7_lay_27 : decode cX7_lay 27 = .ok (.iastore, 1) := by decide +kernel
theorem dX7_lay_28 : decode cX7_lay 28 = .ok (.iinc 3 1, 3) := by decide +kernel
theorem dX7_lay_31 : decode cX7_lay 31 = .ok (.goto (-15), 3) := by decide +kernel
theorem dX7_lay_34 : decode cX7_lay 34 = .ok (.return_, 1) := by decide +kernel
theorem dX7_fitted_0 : decode cX7_fitted 0 = .ok (.aload_n 0, 1) := by decide +kernel
theorem dX7_fitted_1 : decode cX7_fitted 1 = .ok (.getfield 15, 3) := by decide +kernel
theorem dX7_fitted_4 : decode cX7_fitted 4 = .ok (.ifCond .ne 6, 3) := by decide +kernel
theorem dX7_fitted_7 : decode cX7_fitted 7 = .ok (.iload_n 1, 1) := by decide +kernel
theorem dX7_fitted_8 : decode cX7_fitted 8 = .ok (.i2b, 1) := by decide +kernel
theorem dX7_fitted_9 : decode cX7_fitted 9 = .ok (.ireturn, 1) := by decide +kernel
theorem dX7_fitted_10 : decode cX7_fitted 10 = .ok (.aload_n 0, 1) := by decide +kernel
theorem dX7_fitted_11 : decode cX7_fitted 11 = .ok (.getfield 15, 3) := by decide +kernel
theorem dX7_fitted_14 : decode cX7_fitted 14 = .ok (.iconst 1, 1) := by decide +kernel
theorem dX7_fitted_15 : decode cX7_fitted 15 = .ok (.if_icmp .ne 8, 3) := by decide +kernel
theorem dX7_fitted_18 : decode cX7_fitted 18 = .ok (.iload_n 1, 1) := by decide +kernel
theorem dX7_fitted_19 : decode cX7_fitted 19 = .ok (.i2s, 1) := by decide +kernel
theorem dX7_fitted_20 : decode cX7_fitted 20 = .ok (.goto 4, 3) := by decide +kernel
theorem dX7_fitted_23 : decode cX7_fitted 23 = .ok (.iload_n 1, 1) := by decide +kernel
theorem dX7_fitted_24 : decode cX7_fitted 24 = .ok (.ireturn, 1) := by decide +kernel
theorem dX7_least_0 : decode cX7_least 0 = .ok (.aload_n 0, 1) := by decide +kernel
theorem dX7_least_1 : decode cX7_least 1 = .ok (.getfield 15, 3) := by decide +kernel
theorem dX7_least_4 : decode cX7_least 4 = .ok (.ifCond .ne 6, 3) := by decide +kernel
theorem dX7_least_7 : decode cX7_least 7 = .ok (.bipush (-128), 2) := by decide +kernel
theorem dX7_least_9 : decode cX7_least 9 = .ok (.ireturn, 1) := by decide +kernel
theorem dX7_least_10 : decode cX7_least 10 = .ok (.aload_n 0, 1) := by decide +kernel
theorem dX7_least_11 : decode cX7_least 11 = .ok (.getfield 15, 3) := by decide +kernel
theorem dX7_least_14 : decode cX7_least 14 = .ok (.iconst 1, 1) := by decide +kernel
theorem dX7_least_15 : decode cX7_least 15 = .ok (.if_icmp .ne 9, 3) := by decide +kernel
theorem dX7_least_18 : decode cX7_least 18 = .ok (.sipush (-32768), 3) := by decide +kernel
theorem dX7_least_21 : decode cX7_least 21 = .ok (.goto 5, 3) := by decide +kernel
theorem dX7_least_24 : decode cX7_least 24 = .ok (.ldc 33, 2) := by decide +kernel
theorem dX7_least_26 : decode cX7_least 26 = .ok (.ireturn, 1) := by decide +kernel
theorem dX7_spans_0 : decode cX7_spans 0 = .ok (.iload_n 2, 1) := by decide +kernel
theorem dX7_spans_1 : decode cX7_spans 1 = .ok (.ifCond .lt 21, 3) := by decide +kernel
theorem dX7_spans_4 : decode cX7_spans 4 = .ok (.iload_n 1, 1) := by decide +kernel
theorem dX7_spans_5 : decode cX7_spans 5 = .ok (.ifCond .lt 17, 3) := by decide +kernel
theorem dX7_spans_8 : decode cX7_spans 8 = .ok (.iload_n 1, 1) := by decide +kernel
theorem dX7_spans_9 : decode cX7_spans 9 = .ok (.aload_n 0, 1) := by decide +kernel
theorem dX7_spans_10 : decode cX7_spans 10 = .ok (.getfield 30, 3) := by decide +kernel
theorem dX7_spans_13 : decode cX7_spans 13 = .ok (.iload_n 2, 1) := by decide +kernel
theorem dX7_spans_14 : decode cX7_spans 14 = .ok (.isub, 1) := by decide +kernel
theorem dX7_spans_15 : decode cX7_spans 15 = .ok (.if_icmp .gt 7, 3) := by decide +kernel
theorem dX7_spans_18 : decode cX7_spans 18 = .ok (.iconst 1, 1) := by decide +kernel
theorem dX7_spans_19 : decode cX7_spans 19 = .ok (.goto 4, 3) := by decide +kernel
theorem dX7_spans_22 : decode cX7_spans 22 = .ok (.iconst 0, 1) := by decide +kernel
theorem dX7_spans_23 : decode cX7_spans 23 = .ok (.ireturn, 1) := by decide +kernel
theorem dX7_allows_0 : decode cX7_allows 0 = .ok (.aload_n 0, 1) := by decide +kernel
theorem dX7_allows_1 : decode cX7_allows 1 = .ok (.getfield 9, 3) := by decide +kernel
theorem dX7_allows_4 : decode cX7_allows 4 = .ok (.iload_n 1, 1) := by decide +kernel
theorem dX7_allows_5 : decode cX7_allows 5 = .ok (.iaload, 1) := by decide +kernel
theorem dX7_allows_6 : decode cX7_allows 6 = .ok (.iload_n 2, 1) := by decide +kernel
theorem dX7_allows_7 : decode cX7_allows 7 = .ok (.if_icmp .eq 16, 3) := by decide +kernel
theorem dX7_allows_10 : decode cX7_allows 10 = .ok (.aload_n 0, 1) := by decide +kernel
theorem dX7_allows_11 : decode cX7_allows 11 = .ok (.getfield 9, 3) := by decide +kernel
theorem dX7_allows_14 : decode cX7_allows 14 = .ok (.iload_n 1, 1) := by decide +kernel
theorem dX7_allows_15 : decode cX7_allows 15 = .ok (.iaload, 1) := by decide +kernel
theorem dX7_allows_16 : decode cX7_allows 16 = .ok (.aload_n 0, 1) := by decide +kernel
theorem dX7_allows_17 : decode cX7_allows 17 = .ok (.invokevirtual 34, 3) := by decide +kernel
theorem dX7_allows_20 : decode cX7_allows 20 = .ok (.if_icmp .ne 7, 3) := by decide +kernel
theorem dX7_allows_23 : decode cX7_allows 23 = .ok (.iconst 1, 1) := by decide +kernel
theorem dX7_allows_24 : decode cX7_allows 24 = .ok (.goto 4, 3) := by decide +kernel
theorem dX7_allows_27 : decode cX7_allows 27 = .ok (.iconst 0, 1) := by decide +kernel
theorem dX7_allows_28 : decode cX7_allows 28 = .ok (.ireturn, 1) := by decide +kernel
theorem dX7_byteAt_0 : decode cX7_byteAt 0 = .ok (.iload_n 1, 1) := by decide +kernel
theorem dX7_byteAt_1 : decode cX7_byteAt 1 = .ok (.aload_n 0, 1) := by decide +kernel
theorem dX7_byteAt_2 : decode cX7_byteAt 2 = .ok (.getfield 30, 3) := by decide +kernel
theorem dX7_byteAt_5 : decode cX7_byteAt 5 = .ok (.invokestatic 38, 3) := by decide +kernel
theorem dX7_byteAt_8 : decode cX7_byteAt 8 = .ok (.ifCond .eq 12, 3) := by decide +kernel
theorem dX7_byteAt_11 : decode cX7_byteAt 11 = .ok (.aload_n 0, 1) := by decide +kernel
theorem dX7_byteAt_12 : decode cX7_byteAt 12 = .ok (.getfield 9, 3) := by decide +kernel
theorem dX7_byteAt_15 : decode cX7_byteAt 15 = .ok (.iload_n 1, 1) := by decide +kernel
theorem dX7_byteAt_16 : decode cX7_byteAt 16 = .ok (.iaload, 1) := by decide +kernel
theorem dX7_byteAt_17 : decode cX7_byteAt 17 = .ok (.goto 4, 3) := by decide +kernel
theorem dX7_byteAt_20 : decode cX7_byteAt 20 = .ok (.iconst 0, 1) := by decide +kernel
theorem dX7_byteAt_21 : decode cX7_byteAt 21 = .ok (.ireturn, 1) := by decide +kernel
theorem dX7_digitAt_0 : decode cX7_digitAt 0 = .ok (.aload_n 0, 1) := by decide +kernel
theorem dX7_digitAt_1 : decode cX7_digitAt 1 = .ok (.iload_n 1, 1) := by decide +kernel
theorem dX7_digitAt_2 : decode cX7_digitAt 2 = .ok (.invokevirtual 42, 3) := by decide +kernel
theorem dX7_digitAt_5 : decode cX7_digitAt 5 = .ok (.bipush 48, 2) := by decide +kernel
theorem dX7_digitAt_7 : decode cX7_digitAt 7 = .ok (.isub, 1) := by decide +kernel
theorem dX7_digitAt_8 : decode cX7_digitAt 8 = .ok (.ireturn, 1) := by decide +kernel
theorem dX8_init_0 : decode cX8_init 0 = .ok (.aload_n 0, 1) := by decide +kernel
theorem dX8_init_1 : decode cX8_init 1 = .ok (.iload_n 1, 1) := by decide +kernel
theorem dX8_init_2 : decode cX8_init 2 = .ok (.invokespecial 1, 3) := by decide +kernel
theorem dX8_init_5 : decode cX8_init 5 = .ok (.return_, 1) := by decide +kernel
theorem dX8_kind_0 : decode cX8_kind 0 = .ok (.iconst 1, 1) := by decide +kernel
theorem dX8_kind_1 : decode cX8_kind 1 = .ok (.ireturn, 1) := by decide +kernel
theorem dX8_timeTo_0 : decode cX8_timeTo 0 = .ok (.aload_n 0, 1) := by decide +kernel
theorem dX8_timeTo_1 : decode cX8_timeTo 1 = .ok (.getfield 7, 3) := by decide +kernel
theorem dX8_timeTo_4 : decode cX8_timeTo 4 = .ok (.iconst 5, 1) := by decide +kernel
theorem dX8_timeTo_5 : decode cX8_timeTo 5 = .ok (.if_icmp .lt 7, 3) := by decide +kernel
theorem dX8_timeTo_8 : decode cX8_timeTo 8 = .ok (.iconst 1, 1) := by decide +kernel
theorem dX8_timeTo_9 : decode cX8_timeTo 9 = .ok (.goto 4, 3) := by decide +kernel
theorem dX8_timeTo_12 : decode cX8_timeTo 12 = .ok (.iconst 2, 1) := by decide +kernel
theorem dX8_timeTo_13 : decode cX8_timeTo 13 = .ok (.ireturn, 1) := by decide +kernel
theorem dX8_effort_0 : decode cX8_effort 0 = .ok (.iconst 5, 1) := by decide +kernel
theorem dX8_effort_1 : decode cX8_effort 1 = .ok (.ireturn, 1) := by decide +kernel
theorem dX8_price_0 : decode cX8_price 0 = .ok (.bipush 6, 2) := by decide +kernel
theorem dX8_price_2 : decode cX8_price 2 = .ok (.ireturn, 1) := by decide +kernel
theorem dX9_init_0 : decode cX9_init 0 = .ok (.aload_n 0, 1) := by decide +kernel
theorem dX9_init_1 : decode cX9_init 1 = .ok (.invokespecial 1, 3) := by decide +kernel
theorem dX9_init_4 : decode cX9_init 4 = .ok (.aload_n 0, 1) := by decide +kernel
theorem dX9_init_5 : decode cX9_init 5 = .ok (.iload_n 1, 1) := by decide +kernel
theorem dX9_init_6 : decode cX9_init 6 = .ok (.putfield 7, 3) := by decide +kernel
theorem dX9_init_9 : decode cX9_init 9 = .ok (.return_, 1) := by decide +kernel
theorem dX9_of_0 : decode cX9_of 0 = .ok (.iload_n 0, 1) := by decide +kernel
theorem dX9_of_1 : decode cX9_of 1 = .ok (.tableswitch 106 1 7 #[43, 52, 61, 70, 79, 88, 97], 43) := by decide +kernel
theorem dX9_of_44 : decode cX9_of 44 = .ok (.new 13, 3) := by decide +kernel
theorem dX9_of_47 : decode cX9_of 47 = .ok (.dup, 1) := by decide +kernel
theorem dX9_of_48 : decode cX9_of 48 = .ok (.iload_n 1, 1) := by decide +kernel
theorem dX9_of_49 : decode cX9_of 49 = .ok (.invokespecial 15, 3) := by decide +kernel
theorem dX9_of_52 : decode cX9_of 52 = .ok (.areturn, 1) := by decide +kernel
theorem dX9_of_53 : decode cX9_of 53 = .ok (.new 18, 3) := by decide +kernel
theorem dX9_of_56 : decode cX9_of 56 = .ok (.dup, 1) := by decide +kernel
theorem dX9_of_57 : decode cX9_of 57 = .ok (.iload_n 1, 1) := by decide +kernel
theorem dX9_of_58 : decode cX9_of 58 = .ok (.invokespecial 20, 3) := by decide +kernel
theorem dX9_of_61 : decode cX9_of 61 = .ok (.areturn, 1) := by decide +kernel
theorem dX9_of_62 : decode cX9_of 62 = .ok (.new 21, 3) := by decide +kernel
theorem dX9_of_65 : decode cX9_of 65 = .ok (.dup, 1) := by decide +kernel
theorem dX9_of_66 : decode cX9_of 66 = .ok (.iload_n 1, 1) := by decide +kernel
theorem dX9_of_67 : decode cX9_of 67 = .ok (.invokespecial 23, 3) := by decide +kernel
theorem dX9_of_70 : decode cX9_of 70 = .ok (.areturn, 1) := by decide +kernel
theorem dX9_of_71 : decode cX9_of 71 = .ok (.new 24, 3) := by decide +kernel
theorem dX9_of_74 : decode cX9_of 74 = .ok (.dup, 1) := by decide +kernel
theorem dX9_of_75 : decode cX9_of 75 = .ok (.iload_n 1, 1) := by decide +kernel
theorem dX9_of_76 : decode cX9_of 76 = .ok (.invokespecial 26, 3) := by decide +kernel
theorem dX9_of_79 : decode cX9_of 79 = .ok (.areturn, 1) := by decide +kernel
theorem dX9_of_80 : decode cX9_of 80 = .ok (.new 27, 3) := by decide +kernel
theorem dX9_of_83 : decode cX9_of 83 = .ok (.dup, 1) := by decide +kernel
theorem dX9_of_84 : decode cX9_of 84 = .ok (.iload_n 1, 1) := by decide +kernel
theorem dX9_of_85 : decode cX9_of 85 = .ok (.invokespecial 29, 3) := by decide +kernel
theorem dX9_of_88 : decode cX9_of 88 = .ok (.areturn, 1) := by decide +kernel
theorem dX9_of_89 : decode cX9_of 89 = .ok (.new 30, 3) := by decide +kernel
theorem dX9_of_92 : decode cX9_of 92 = .ok (.dup, 1) := by decide +kernel
theorem dX9_of_93 : decode cX9_of 93 = .ok (.iload_n 1, 1) := by decide +kernel
theorem dX9_of_94 : decode cX9_of 94 = .ok (.invokespecial 32, 3) := by decide +kernel
theorem dX9_of_97 : decode cX9_of 97 = .ok (.areturn, 1) := by decide +kernel
theorem dX9_of_98 : decode cX9_of 98 = .ok (.new 33, 3) := by decide +kernel
theorem dX9_of_101 : decode cX9_of 101 = .ok (.dup, 1) := by decide +kernel
theorem dX9_of_102 : decode cX9_of 102 = .ok (.iload_n 1, 1) := by decide +kernel
theorem dX9_of_103 : decode cX9_of 103 = .ok (.invokespecial 35, 3) := by decide +kernel
theorem dX9_of_106 : decode cX9_of 106 = .ok (.areturn, 1) := by decide +kernel
theorem dX9_of_107 : decode cX9_of 107 = .ok (.new 8, 3) := by decide +kernel
theorem dX9_of_110 : decode cX9_of 110 = .ok (.dup, 1) := by decide +kernel
theorem dX9_of_111 : decode cX9_of 111 = .ok (.iload_n 1, 1) := by decide +kernel
theorem dX9_of_112 : decode cX9_of 112 = .ok (.invokespecial 36, 3) := by decide +kernel
theorem dX9_of_115 : decode cX9_of 115 = .ok (.areturn, 1) := by decide +kernel
theorem dX9_kind_0 : decode cX9_kind 0 = .ok (.iconst 0, 1) := by decide +kernel
theorem dX9_kind_1 : decode cX9_kind 1 = .ok (.ireturn, 1) := by decide +kernel
theorem dX9_timeTo_0 : decode cX9_timeTo 0 = .ok (.iconst 3, 1) := by decide +kernel
theorem dX9_timeTo_1 : decode cX9_timeTo 1 = .ok (.ireturn, 1) := by decide +kernel
theorem dX9_effort_0 : decode cX9_effort 0 = .ok (.iconst 1, 1) := by decide +kernel
theorem dX9_effort_1 : decode cX9_effort 1 = .ok (.ireturn, 1) := by decide +kernel
theorem dX9_landing_0 : decode cX9_landing 0 = .ok (.iload_n 1, 1) := by decide +kernel
theorem dX9_landing_1 : decode cX9_landing 1 = .ok (.ireturn, 1) := by decide +kernel
theorem dX9_price_0 : decode cX9_price 0 = .ok (.iconst 2, 1) := by decide +kernel
theorem dX9_price_1 : decode cX9_price 1 = .ok (.ireturn, 1) := by decide +kernel
theorem dX9_fail_0 : decode cX9_fail 0 = .ok (.aload_n 0, 1) := by decide +kernel
theorem dX9_fail_1 : decode cX9_fail 1 = .ok (.getfield 7, 3) := by decide +kernel
theorem dX9_fail_4 : decode cX9_fail 4 = .ok (.ifCond .eq 13, 3) := by decide +kernel
theorem dX9_fail_7 : decode cX9_fail 7 = .ok (.new 37, 3) := by decide +kernel
theorem dX9_fail_10 : decode cX9_fail 10 = .ok (.dup, 1) := by decide +kernel
theorem dX9_fail_11 : decode cX9_fail 11 = .ok (.ldc 39, 2) := by decide +kernel
theorem dX9_fail_13 : decode cX9_fail 13 = .ok (.invokespecial 41, 3) := by decide +kernel
theorem dX9_fail_16 : decode cX9_fail 16 = .ok (.athrow, 1) := by decide +kernel
theorem dX9_fail_17 : decode cX9_fail 17 = .ok (.return_, 1) := by decide +kernel
theorem dX10_init_0 : decode cX10_init 0 = .ok (.aload_n 0, 1) := by decide +kernel
theorem dX10_init_1 : decode cX10_init 1 = .ok (.iload_n 1, 1) := by decide +kernel
theorem dX10_init_2 : decode cX10_init 2 = .ok (.invokespecial 1, 3) := by decide +kernel
theorem dX10_init_5 : decode cX10_init 5 = .ok (.return_, 1) := by decide +kernel
theorem dX10_kind_0 : decode cX10_kind 0 = .ok (.bipush 7, 2) := by decide +kernel
theorem dX10_kind_2 : decode cX10_kind 2 = .ok (.ireturn, 1) := by decide +kernel
theorem dX10_timeTo_0 : decode cX10_timeTo 0 = .ok (.aload_n 0, 1) := by decide +kernel
theorem dX10_timeTo_1 : decode cX10_timeTo 1 = .ok (.iload_n 1, 1) := by decide +kernel
theorem dX10_timeTo_2 : decode cX10_timeTo 2 = .ok (.invokespecial 7, 3) := by decide +kernel
theorem dX10_timeTo_5 : decode cX10_timeTo 5 = .ok (.iconst 1, 1) := by decide +kernel
theorem dX10_timeTo_6 : decode cX10_timeTo 6 = .ok (.iadd, 1) := by decide +kernel
theorem dX10_timeTo_7 : decode cX10_timeTo 7 = .ok (.ireturn, 1) := by decide +kernel
theorem dX10_landing_0 : decode cX10_landing 0 = .ok (.iconst 0, 1) := by decide +kernel
theorem dX10_landing_1 : decode cX10_landing 1 = .ok (.iconst 2, 1) := by decide +kernel
theorem dX10_landing_2 : decode cX10_landing 2 = .ok (.iload_n 1, 1) := by decide +kernel
theorem dX10_landing_3 : decode cX10_landing 3 = .ok (.iconst 3, 1) := by decide +kernel
theorem dX10_landing_4 : decode cX10_landing 4 = .ok (.irem, 1) := by decide +kernel
theorem dX10_landing_5 : decode cX10_landing 5 = .ok (.iload_n 2, 1) := by decide +kernel
theorem dX10_landing_6 : decode cX10_landing 6 = .ok (.iadd, 1) := by decide +kernel
theorem dX10_landing_7 : decode cX10_landing 7 = .ok (.invokestatic 11, 3) := by decide +kernel
theorem dX10_landing_10 : decode cX10_landing 10 = .ok (.invokestatic 17, 3) := by decide +kernel
theorem dX10_landing_13 : decode cX10_landing 13 = .ok (.istore_n 3, 1) := by decide +kernel
theorem dX10_landing_14 : decode cX10_landing 14 = .ok (.iload_n 1, 1) := by decide +kernel
theorem dX10_landing_15 : decode cX10_landing 15 = .ok (.iconst 3, 1) := by decide +kernel
theorem dX10_landing_16 : decode cX10_landing 16 = .ok (.idiv, 1) := by decide +kernel
theorem dX10_landing_17 : decode cX10_landing 17 = .ok (.iconst 3, 1) := by decide +kernel
theorem dX10_landing_18 : decode cX10_landing 18 = .ok (.imul, 1) := by decide +kernel
theorem dX10_landing_19 : decode cX10_landing 19 = .ok (.iload_n 3, 1) := by decide +kernel
theorem dX10_landing_20 : decode cX10_landing 20 = .ok (.iadd, 1) := by decide +kernel
theorem dX10_landing_21 : decode cX10_landing 21 = .ok (.ireturn, 1) := by decide +kernel
theorem dX10_price_0 : decode cX10_price 0 = .ok (.iconst 0, 1) := by decide +kernel
theorem dX10_price_1 : decode cX10_price 1 = .ok (.ireturn, 1) := by decide +kernel
theorem dX11_init_0 : decode cX11_init 0 = .ok (.aload_n 0, 1) := by decide +kernel
theorem dX11_init_1 : decode cX11_init 1 = .ok (.invokespecial 3, 3) := by decide +kernel
theorem dX11_init_4 : decode cX11_init 4 = .ok (.aload_n 0, 1) := by decide +kernel
theorem dX11_init_5 : decode cX11_init 5 = .ok (.new 9, 3) := by decide +kernel
theorem dX11_init_8 : decode cX11_init 8 = .ok (.dup, 1) := by decide +kernel
theorem dX11_init_9 : decode cX11_init 9 = .ok (.invokespecial 11, 3) := by decide +kernel
theorem dX11_init_12 : decode cX11_init 12 = .ok (.putfield 12, 3) := by decide +kernel
theorem dX11_init_15 : decode cX11_init 15 = .ok (.aload_n 0, 1) := by decide +kernel
theorem dX11_init_16 : decode cX11_init 16 = .ok (.new 9, 3) := by decide +kernel
theorem dX11_init_19 : decode cX11_init 19 = .ok (.dup, 1) := by decide +kernel
theorem dX11_init_20 : decode cX11_init 20 = .ok (.invokespecial 11, 3) := by decide +kernel
theorem dX11_init_23 : decode cX11_init 23 = .ok (.putfield 16, 3) := by decide +kernel
theorem dX11_init_26 : decode cX11_init 26 = .ok (.aload_n 0, 1) := by decide +kernel
theorem dX11_init_27 : decode cX11_init 27 = .ok (.new 9, 3) := by decide +kernel
theorem dX11_init_30 : decode cX11_init 30 = .ok (.dup, 1) := by decide +kernel
theorem dX11_init_31 : decode cX11_init 31 = .ok (.invokespecial 11, 3) := by decide +kernel
theorem dX11_init_34 : decode cX11_init 34 = .ok (.putfield 19, 3) := by decide +kernel
theorem dX11_init_37 : decode cX11_init 37 = .ok (.aload_n 0, 1) := by decide +kernel
theorem dX11_init_38 : decode cX11_init 38 = .ok (.bipush 8, 2) := by decide +kernel
theorem dX11_init_40 : decode cX11_init 40 = .ok (.anewarray 22, 3) := by decide +kernel
theorem dX11_init_43 : decode cX11_init 43 = .ok (.putfield 24, 3) := by decide +kernel
theorem dX11_init_46 : decode cX11_init 46 = .ok (.aload_n 0, 1) := by decide +kernel
theorem dX11_init_47 : decode cX11_init 47 = .ok (.bipush 8, 2) := by decide +kernel
theorem dX11_init_49 : decode cX11_init 49 = .ok (.anewarray 28, 3) := by decide +kernel
theorem dX11_init_52 : decode cX11_init 52 = .ok (.putfield 30, 3) := by decide +kernel
theorem dX11_init_55 : decode cX11_init 55 = .ok (.aload_n 0, 1) := by decide +kernel
theorem dX11_init_56 : decode cX11_init 56 = .ok (.iconst 4, 1) := by decide +kernel
theorem dX11_init_57 : decode cX11_init 57 = .ok (.newarray .int, 2) := by decide +kernel
theorem dX11_init_59 : decode cX11_init 59 = .ok (.putfield 34, 3) := by decide +kernel
theorem dX11_init_62 : decode cX11_init 62 = .ok (.aload_n 0, 1) := by decide +kernel
theorem dX11_init_63 : decode cX11_init 63 = .ok (.iconst 4, 1) := by decide +kernel
theorem dX11_init_64 : decode cX11_init 64 = .ok (.newarray .int, 2) := by decide +kernel
theorem dX11_init_66 : decode cX11_init 66 = .ok (.putfield 38, 3) := by decide +kernel
theorem dX11_init_69 : decode cX11_init 69 = .ok (.iconst 0, 1) := by decide +kernel
theorem dX11_init_70 : decode cX11_init 70 = .ok (.istore_n 1, 1) := by decide +kernel
theorem dX11_init_71 : decode cX11_init 71 = .ok (.iload_n 1, 1) := by decide +kernel
theorem dX11_init_72 : decode cX11_init 72 = .ok (.bipush 8, 2) := by decide +kernel
theorem dX11_init_74 : decode cX11_init 74 = .ok (.if_icmp .ge 22, 3) := by decide +kernel
theorem dX11_init_77 : decode cX11_init 77 = .ok (.aload_n 0, 1) := by decide +kernel
theorem dX11_init_78 : decode cX11_init 78 = .ok (.getfield 24, 3) := by decide +kernel
theorem dX11_init_81 : decode cX11_init 81 = .ok (.iload_n 1, 1) := by decide +kernel
theorem dX11_init_82 : decode cX11_init 82 = .ok (.new 22, 3) := by decide +kernel
theorem dX11_init_85 : decode cX11_init 85 = .ok (.dup, 1) := by decide +kernel
theorem dX11_init_86 : decode cX11_init 86 = .ok (.invokespecial 41, 3) := by decide +kernel
theorem dX11_init_89 : decode cX11_init 89 = .ok (.aastore, 1) := by decide +kernel
theorem dX11_init_90 : decode cX11_init 90 = .ok (.iinc 1 1, 3) := by decide +kernel
theorem dX11_init_93 : decode cX11_init 93 = .ok (.goto (-22), 3) := by decide +kernel
theorem dX11_init_96 : decode cX11_init 96 = .ok (.iconst 0, 1) := by decide +kernel
theorem dX11_init_97 : decode cX11_init 97 = .ok (.istore_n 1, 1) := by decide +kernel
theorem dX11_init_98 : decode cX11_init 98 = .ok (.iload_n 1, 1) := by decide +kernel
theorem dX11_init_99 : decode cX11_init 99 = .ok (.bipush 8, 2) := by decide +kernel
theorem dX11_init_101 : decode cX11_init 101 = .ok (.if_icmp .ge 20, 3) := by decide +kernel
theorem dX11_init_104 : decode cX11_init 104 = .ok (.aload_n 0, 1) := by decide +kernel
theorem dX11_init_105 : decode cX11_init 105 = .ok (.getfield 30, 3) := by decide +kernel
theorem dX11_init_108 : decode cX11_init 108 = .ok (.iload_n 1, 1) := by decide +kernel
theorem dX11_init_109 : decode cX11_init 109 = .ok (.iload_n 1, 1) := by decide +kernel
theorem dX11_init_110 : decode cX11_init 110 = .ok (.iconst 0, 1) := by decide +kernel
theorem dX11_init_111 : decode cX11_init 111 = .ok (.invokestatic 42, 3) := by decide +kernel
theorem dX11_init_114 : decode cX11_init 114 = .ok (.aastore, 1) := by decide +kernel
theorem dX11_init_115 : decode cX11_init 115 = .ok (.iinc 1 1, 3) := by decide +kernel
theorem dX11_init_118 : decode cX11_init 118 = .ok (.goto (-20), 3) := by decide +kernel
theorem dX11_init_121 : decode cX11_init 121 = .ok (.return_, 1) := by decide +kernel
theorem dX11_court_0 : decode cX11_court 0 = .ok (.aload_n 0, 1) := by decide +kernel
theorem dX11_court_1 : decode cX11_court 1 = .ok (.iload_n 1, 1) := by decide +kernel
theorem dX11_court_2 : decode cX11_court 2 = .ok (.iconst 1, 1) := by decide +kernel
theorem dX11_court_3 : decode cX11_court 3 = .ok (.invokevirtual 46, 3) := by decide +kernel
theorem dX11_court_6 : decode cX11_court 6 = .ok (.istore_n 2, 1) := by decide +kernel
theorem dX11_court_7 : decode cX11_court 7 = .ok (.iload_n 2, 1) := by decide +kernel
theorem dX11_court_8 : decode cX11_court 8 = .ok (.ifCond .eq 5, 3) := by decide +kernel
theorem dX11_court_11 : decode cX11_court 11 = .ok (.iload_n 2, 1) := by decide +kernel
theorem dX11_court_12 : decode cX11_court 12 = .ok (.ireturn, 1) := by decide +kernel
theorem dX11_court_13 : decode cX11_court 13 = .ok (.aload_n 0, 1) := by decide +kernel
theorem dX11_court_14 : decode cX11_court 14 = .ok (.getfield 24, 3) := by decide +kernel
theorem dX11_court_17 : decode cX11_court 17 = .ok (.iload_n 1, 1) := by decide +kernel
theorem dX11_court_18 : decode cX11_court 18 = .ok (.aaload, 1) := by decide +kernel
theorem dX11_court_19 : decode cX11_court 19 = .ok (.astore_n 3, 1) := by decide +kernel
theorem dX11_court_20 : decode cX11_court 20 = .ok (.aload_n 3, 1) := by decide +kernel
theorem dX11_court_21 : decode cX11_court 21 = .ok (.getfield 50, 3) := by decide +kernel
theorem dX11_court_24 : decode cX11_court 24 = .ok (.ifCond .eq 6, 3) := by decide +kernel
theorem dX11_court_27 : decode cX11_court 27 = .ok (.bipush (-12), 2) := by decide +kernel
theorem dX11_court_29 : decode cX11_court 29 = .ok (.ireturn, 1) := by decide +kernel
theorem dX11_court_30 : decode cX11_court 30 = .ok (.aload_n 3, 1) := by decide +kernel
theorem dX11_court_31 : decode cX11_court 31 = .ok (.invokestatic 54, 3) := by decide +kernel
theorem dX11_court_34 : decode cX11_court 34 = .ok (.istore 4, 2) := by decide +kernel
theorem dX11_court_36 : decode cX11_court 36 = .ok (.iload 4, 2) := by decide +kernel
theorem dX11_court_38 : decode cX11_court 38 = .ok (.ifCond .lt 10, 3) := by decide +kernel
theorem dX11_court_41 : decode cX11_court 41 = .ok (.sipush (-1000), 3) := by decide +kernel
theorem dX11_court_44 : decode cX11_court 44 = .ok (.iload 4, 2) := by decide +kernel
theorem dX11_court_46 : decode cX11_court 46 = .ok (.isub, 1) := by decide +kernel
theorem dX11_court_47 : decode cX11_court 47 = .ok (.ireturn, 1) := by decide +kernel
theorem dX11_court_48 : decode cX11_court 48 = .ok (.aload_n 0, 1) := by decide +kernel
theorem dX11_court_49 : decode cX11_court 49 = .ok (.getfield 16, 3) := by decide +kernel
theorem dX11_court_52 : decode cX11_court 52 = .ok (.aload_n 0, 1) := by decide +kernel
theorem dX11_court_53 : decode cX11_court 53 = .ok (.getfield 12, 3) := by decide +kernel
theorem dX11_court_56 : decode cX11_court 56 = .ok (.invokevirtual 60, 3) := by decide +kernel
theorem dX11_court_59 : decode cX11_court 59 = .ok (.aload_n 3, 1) := by decide +kernel
theorem dX11_court_60 : decode cX11_court 60 = .ok (.aload_n 0, 1) := by decide +kernel
theorem dX11_court_61 : decode cX11_court 61 = .ok (.getfield 16, 3) := by decide +kernel
theorem dX11_court_64 : decode cX11_court 64 = .ok (.invokestatic 64, 3) := by decide +kernel
theorem dX11_court_67 : decode cX11_court 67 = .ok (.istore 4, 2) := by decide +kernel
theorem dX11_court_69 : decode cX11_court 69 = .ok (.iload 4, 2) := by decide +kernel
theorem dX11_court_71 : decode cX11_court 71 = .ok (.ifCond .lt 10, 3) := by decide +kernel
theorem dX11_court_74 : decode cX11_court 74 = .ok (.sipush (-2000), 3) := by decide +kernel
theorem dX11_court_77 : decode cX11_court 77 = .ok (.iload 4, 2) := by decide +kernel
theorem dX11_court_79 : decode cX11_court 79 = .ok (.isub, 1) := by decide +kernel
theorem dX11_court_80 : decode cX11_court 80 = .ok (.ireturn, 1) := by decide +kernel
theorem dX11_court_81 : decode cX11_court 81 = .ok (.aload_n 0, 1) := by decide +kernel
theorem dX11_court_82 : decode cX11_court 82 = .ok (.getfield 12, 3) := by decide +kernel
theorem dX11_court_85 : decode cX11_court 85 = .ok (.aload_n 0, 1) := by decide +kernel
theorem dX11_court_86 : decode cX11_court 86 = .ok (.getfield 16, 3) := by decide +kernel
theorem dX11_court_89 : decode cX11_court 89 = .ok (.invokevirtual 60, 3) := by decide +kernel
theorem dX11_court_92 : decode cX11_court 92 = .ok (.aload_n 3, 1) := by decide +kernel
theorem dX11_court_93 : decode cX11_court 93 = .ok (.invokestatic 68, 3) := by decide +kernel
theorem dX11_court_96 : decode cX11_court 96 = .ok (.ireturn, 1) := by decide +kernel
theorem dX11_stroke_0 : decode cX11_stroke 0 = .ok (.aload_n 0, 1) := by decide +kernel
theorem dX11_stroke_1 : decode cX11_stroke 1 = .ok (.getfield 12, 3) := by decide +kernel
theorem dX11_stroke_4 : decode cX11_stroke 4 = .ok (.iload_n 1, 1) := by decide +kernel
theorem dX11_stroke_5 : decode cX11_stroke 5 = .ok (.invokevirtual 71, 3) := by decide +kernel
theorem dX11_stroke_8 : decode cX11_stroke 8 = .ok (.ifCond .ne 5, 3) := by decide +kernel
theorem dX11_stroke_11 : decode cX11_stroke 11 = .ok (.iconst (-1), 1) := by decide +kernel
theorem dX11_stroke_12 : decode cX11_stroke 12 = .ok (.ireturn, 1) := by decide +kernel
theorem dX11_stroke_13 : decode cX11_stroke 13 = .ok (.aload_n 0, 1) := by decide +kernel
theorem dX11_stroke_14 : decode cX11_stroke 14 = .ok (.getfield 12, 3) := by decide +kernel
theorem dX11_stroke_17 : decode cX11_stroke 17 = .ok (.getfield 75, 3) := by decide +kernel
theorem dX11_stroke_20 : decode cX11_stroke 20 = .ok (.iload_n 1, 1) := by decide +kernel
theorem dX11_stroke_21 : decode cX11_stroke 21 = .ok (.aaload, 1) := by decide +kernel
theorem dX11_stroke_22 : decode cX11_stroke 22 = .ok (.astore_n 3, 1) := by decide +kernel
theorem dX11_stroke_23 : decode cX11_stroke 23 = .ok (.iload_n 2, 1) := by decide +kernel
theorem dX11_stroke_24 : decode cX11_stroke 24 = .ok (.tableswitch 64 0 4 #[36, 41, 46, 51, 57], 36) := by decide +kernel
theorem dX11_stroke_60 : decode cX11_stroke 60 = .ok (.aload_n 3, 1) := by decide +kernel
theorem dX11_stroke_61 : decode cX11_stroke 61 = .ok (.invokevirtual 78, 3) := by decide +kernel
theorem dX11_stroke_64 : decode cX11_stroke 64 = .ok (.ireturn, 1) := by decide +kernel
theorem dX11_stroke_65 : decode cX11_stroke 65 = .ok (.aload_n 3, 1) := by decide +kernel
theorem dX11_stroke_66 : decode cX11_stroke 66 = .ok (.getfield 82, 3) := by decide +kernel
theorem dX11_stroke_69 : decode cX11_stroke 69 = .ok (.ireturn, 1) := by decide +kernel
theorem dX11_stroke_70 : decode cX11_stroke 70 = .ok (.aload_n 3, 1) := by decide +kernel
theorem dX11_stroke_71 : decode cX11_stroke 71 = .ok (.invokevirtual 85, 3) := by decide +kernel
theorem dX11_stroke_74 : decode cX11_stroke 74 = .ok (.ireturn, 1) := by decide +kernel
theorem dX11_stroke_75 : decode cX11_stroke 75 = .ok (.aload_n 3, 1) := by decide +kernel
theorem dX11_stroke_76 : decode cX11_stroke 76 = .ok (.iconst 0, 1) := by decide +kernel
theorem dX11_stroke_77 : decode cX11_stroke 77 = .ok (.invokevirtual 88, 3) := by decide +kernel
theorem dX11_stroke_80 : decode cX11_stroke 80 = .ok (.ireturn, 1) := by decide +kernel
theorem dX11_stroke_81 : decode cX11_stroke 81 = .ok (.aload_n 3, 1) := by decide +kernel
theorem dX11_stroke_82 : decode cX11_stroke 82 = .ok (.bipush 8, 2) := by decide +kernel
theorem dX11_stroke_84 : decode cX11_stroke 84 = .ok (.invokevirtual 88, 3) := by decide +kernel
theorem dX11_stroke_87 : decode cX11_stroke 87 = .ok (.ireturn, 1) := by decide +kernel
theorem dX11_stroke_88 : decode cX11_stroke 88 = .ok (.iconst (-1), 1) := by decide +kernel
theorem dX11_stroke_89 : decode cX11_stroke 89 = .ok (.ireturn, 1) := by decide +kernel
theorem dX11_player_0 : decode cX11_player 0 = .ok (.iload_n 1, 1) := by decide +kernel
theorem dX11_player_1 : decode cX11_player 1 = .ok (.iconst 4, 1) := by decide +kernel
theorem dX11_player_2 : decode cX11_player 2 = .ok (.invokestatic 92, 3) := by decide +kernel
theorem dX11_player_5 : decode cX11_player 5 = .ok (.ifCond .ne 5, 3) := by decide +kernel
theorem dX11_player_8 : decode cX11_player 8 = .ok (.iconst (-1), 1) := by decide +kernel
theorem dX11_player_9 : decode cX11_player 9 = .ok (.ireturn, 1) := by decide +kernel
theorem dX11_player_10 : decode cX11_player 10 = .ok (.iload_n 2, 1) := by decide +kernel
theorem dX11_player_11 : decode cX11_player 11 = .ok (.tableswitch 92 0 4 #[33, 43, 53, 63, 73], 33) := by decide +kernel
theorem dX11_player_44 : decode cX11_player 44 = .ok (.aload_n 0, 1) := by decide +kernel
theorem dX11_player_45 : decode cX11_player 45 = .ok (.getfield 12, 3) := by decide +kernel
theorem dX11_player_48 : decode cX11_player 48 = .ok (.getfield 96, 3) := by decide +kernel
theorem dX11_player_51 : decode cX11_player 51 = .ok (.iload_n 1, 1) := by decide +kernel
theorem dX11_player_52 : decode cX11_player 52 = .ok (.iaload, 1) := by decide +kernel
theorem dX11_player_53 : decode cX11_player 53 = .ok (.ireturn, 1) := by decide +kernel
theorem dX11_player_54 : decode cX11_player 54 = .ok (.aload_n 0, 1) := by decide +kernel
theorem dX11_player_55 : decode cX11_player 55 = .ok (.getfield 12, 3) := by decide +kernel
theorem dX11_player_58 : decode cX11_player 58 = .ok (.getfield 99, 3) := by decide +kernel
theorem dX11_player_61 : decode cX11_player 61 = .ok (.iload_n 1, 1) := by decide +kernel
theorem dX11_player_62 : decode cX11_player 62 = .ok (.iaload, 1) := by decide +kernel
theorem dX11_player_63 : decode cX11_player 63 = .ok (.ireturn, 1) := by decide +kernel
theorem dX11_player_64 : decode cX11_player 64 = .ok (.aload_n 0, 1) := by decide +kernel
theorem dX11_player_65 : decode cX11_player 65 = .ok (.getfield 12, 3) := by decide +kernel
theorem dX11_player_68 : decode cX11_player 68 = .ok (.getfield 102, 3) := by decide +kernel
theorem dX11_player_71 : decode cX11_player 71 = .ok (.iload_n 1, 1) := by decide +kernel
theorem dX11_player_72 : decode cX11_player 72 = .ok (.iaload, 1) := by decide +kernel
theorem dX11_player_73 : decode cX11_player 73 = .ok (.ireturn, 1) := by decide +kernel
theorem dX11_player_74 : decode cX11_player 74 = .ok (.aload_n 0, 1) := by decide +kernel
theorem dX11_player_75 : decode cX11_player 75 = .ok (.getfield 12, 3) := by decide +kernel
theorem dX11_player_78 : decode cX11_player 78 = .ok (.getfield 105, 3) := by decide +kernel
theorem dX11_player_81 : decode cX11_player 81 = .ok (.iload_n 1, 1) := by decide +kernel
theorem dX11_player_82 : decode cX11_player 82 = .ok (.iaload, 1) := by decide +kernel
theorem dX11_player_83 : decode cX11_player 83 = .ok (.ireturn, 1) := by decide +kernel
theorem dX11_player_84 : decode cX11_player 84 = .ok (.aload_n 0, 1) := by decide +kernel
theorem dX11_player_85 : decode cX11_player 85 = .ok (.getfield 12, 3) := by decide +kernel
theorem dX11_player_88 : decode cX11_player 88 = .ok (.iconst 1, 1) := by decide +kernel
theorem dX11_player_89 : decode cX11_player 89 = .ok (.iload_n 1, 1) := by decide +kernel
theorem dX11_player_90 : decode cX11_player 90 = .ok (.aload_n 0, 1) := by decide +kernel
theorem dX11_player_91 : decode cX11_player 91 = .ok (.getfield 12, 3) := by decide +kernel
theorem dX11_player_94 : decode cX11_player 94 = .ok (.getfield 102, 3) := by decide +kernel
theorem dX11_player_97 : decode cX11_player 97 = .ok (.iload_n 1, 1) := by decide +kernel
theorem dX11_player_98 : decode cX11_player 98 = .ok (.iaload, 1) := by decide +kernel
theorem dX11_player_99 : decode cX11_player 99 = .ok (.invokevirtual 108, 3) := by decide +kernel
theorem dX11_player_102 : decode cX11_player 102 = .ok (.ireturn, 1) := by decide +kernel
theorem dX11_player_103 : decode cX11_player 103 = .ok (.iconst (-1), 1) := by decide +kernel
theorem dX11_player_104 : decode cX11_player 104 = .ok (.ireturn, 1) := by decide +kernel
theorem dX11_side_0 : decode cX11_side 0 = .ok (.iload_n 1, 1) := by decide +kernel
theorem dX11_side_1 : decode cX11_side 1 = .ok (.iconst 2, 1) := by decide +kernel
theorem dX11_side_2 : decode cX11_side 2 = .ok (.invokestatic 92, 3) := by decide +kernel
theorem dX11_side_5 : decode cX11_side 5 = .ok (.ifCond .ne 5, 3) := by decide +kernel
theorem dX11_side_8 : decode cX11_side 8 = .ok (.iconst (-1), 1) := by decide +kernel
theorem dX11_side_9 : decode cX11_side 9 = .ok (.ireturn, 1) := by decide +kernel
theorem dX11_side_10 : decode cX11_side 10 = .ok (.iload_n 2, 1) := by decide +kernel
theorem dX11_side_11 : decode cX11_side 11 = .ok (.tableswitch 68 0 3 #[29, 39, 49, 59], 29) := by decide +kernel
theorem dX11_side_40 : decode cX11_side 40 = .ok (.aload_n 0, 1) := by decide +kernel
theorem dX11_side_41 : decode cX11_side 41 = .ok (.getfield 12, 3) := by decide +kernel
theorem dX11_side_44 : decode cX11_side 44 = .ok (.getfield 112, 3) := by decide +kernel
theorem dX11_side_47 : decode cX11_side 47 = .ok (.iload_n 1, 1) := by decide +kernel
theorem dX11_side_48 : decode cX11_side 48 = .ok (.iaload, 1) := by decide +kernel
theorem dX11_side_49 : decode cX11_side 49 = .ok (.ireturn, 1) := by decide +kernel
theorem dX11_side_50 : decode cX11_side 50 = .ok (.aload_n 0, 1) := by decide +kernel
theorem dX11_side_51 : decode cX11_side 51 = .ok (.getfield 12, 3) := by decide +kernel
theorem dX11_side_54 : decode cX11_side 54 = .ok (.getfield 115, 3) := by decide +kernel
theorem dX11_side_57 : decode cX11_side 57 = .ok (.iload_n 1, 1) := by decide +kernel
theorem dX11_side_58 : decode cX11_side 58 = .ok (.iaload, 1) := by decide +kernel
theorem dX11_side_59 : decode cX11_side 59 = .ok (.ireturn, 1) := by decide +kernel
theorem dX11_side_60 : decode cX11_side 60 = .ok (.aload_n 0, 1) := by decide +kernel
theorem dX11_side_61 : decode cX11_side 61 = .ok (.getfield 12, 3) := by decide +kernel
theorem dX11_side_64 : decode cX11_side 64 = .ok (.getfield 118, 3) := by decide +kernel
theorem dX11_side_67 : decode cX11_side 67 = .ok (.iload_n 1, 1) := by decide +kernel
theorem dX11_side_68 : decode cX11_side 68 = .ok (.iaload, 1) := by decide +kernel
theorem dX11_side_69 : decode cX11_side 69 = .ok (.ireturn, 1) := by decide +kernel
theorem dX11_side_70 : decode cX11_side 70 = .ok (.aload_n 0, 1) := by decide +kernel
theorem dX11_side_71 : decode cX11_side 71 = .ok (.getfield 12, 3) := by decide +kernel
theorem dX11_side_74 : decode cX11_side 74 = .ok (.iload_n 1, 1) := by decide +kernel
theorem dX11_side_75 : decode cX11_side 75 = .ok (.invokevirtual 121, 3) := by decide +kernel
theorem dX11_side_78 : decode cX11_side 78 = .ok (.ireturn, 1) := by decide +kernel
theorem dX11_side_79 : decode cX11_side 79 = .ok (.iconst (-1), 1) := by decide +kernel
theorem dX11_side_80 : decode cX11_side 80 = .ok (.ireturn, 1) := by decide +kernel
theorem dX11_learns_0 : decode cX11_learns 0 = .ok (.aload_n 0, 1) := by decide +kernel
theorem dX11_learns_1 : decode cX11_learns 1 = .ok (.iload_n 1, 1) := by decide +kernel
theorem dX11_learns_2 : decode cX11_learns 2 = .ok (.iconst 0, 1) := by decide +kernel
theorem dX11_learns_3 : decode cX11_learns 3 = .ok (.invokevirtual 46, 3) := by decide +kernel
theorem dX11_learns_6 : decode cX11_learns 6 = .ok (.istore_n 2, 1) := by decide +kernel
theorem dX11_learns_7 : decode cX11_learns 7 = .ok (.iload_n 2, 1) := by decide +kernel
theorem dX11_learns_8 : decode cX11_learns 8 = .ok (.ifCond .eq 7, 3) := by decide +kernel
theorem dX11_learns_11 : decode cX11_learns 11 = .ok (.iload_n 2, 1) := by decide +kernel
theorem dX11_learns_12 : decode cX11_learns 12 = .ok (.goto 19, 3) := by decide +kernel
theorem dX11_learns_15 : decode cX11_learns 15 = .ok (.aload_n 0, 1) := by decide +kernel
theorem dX11_learns_16 : decode cX11_learns 16 = .ok (.getfield 12, 3) := by decide +kernel
theorem dX11_learns_19 : decode cX11_learns 19 = .ok (.aload_n 0, 1) := by decide +kernel
theorem dX11_learns_20 : decode cX11_learns 20 = .ok (.getfield 24, 3) := by decide +kernel
theorem dX11_learns_23 : decode cX11_learns 23 = .ok (.iload_n 1, 1) := by decide +kernel
theorem dX11_learns_24 : decode cX11_learns 24 = .ok (.aaload, 1) := by decide +kernel
theorem dX11_learns_25 : decode cX11_learns 25 = .ok (.getfield 124, 3) := by decide +kernel
theorem dX11_learns_28 : decode cX11_learns 28 = .ok (.invokevirtual 128, 3) := by decide +kernel
theorem dX11_learns_31 : decode cX11_learns 31 = .ok (.ireturn, 1) := by decide +kernel
theorem dX11_stands_0 : decode cX11_stands 0 = .ok (.aload_n 0, 1) := by decide +kernel
theorem dX11_stands_1 : decode cX11_stands 1 = .ok (.getfield 12, 3) := by decide +kernel
theorem dX11_stands_4 : decode cX11_stands 4 = .ok (.iload_n 1, 1) := by decide +kernel
theorem dX11_stands_5 : decode cX11_stands 5 = .ok (.iload_n 2, 1) := by decide +kernel
theorem dX11_stands_6 : decode cX11_stands 6 = .ok (.iload_n 3, 1) := by decide +kernel
theorem dX11_stands_7 : decode cX11_stands 7 = .ok (.invokevirtual 132, 3) := by decide +kernel
theorem dX11_stands_10 : decode cX11_stands 10 = .ok (.ireturn, 1) := by decide +kernel
theorem dX11_tires_0 : decode cX11_tires 0 = .ok (.aload_n 0, 1) := by decide +kernel
theorem dX11_tires_1 : decode cX11_tires 1 = .ok (.getfield 12, 3) := by decide +kernel
theorem dX11_tires_4 : decode cX11_tires 4 = .ok (.iload_n 1, 1) := by decide +kernel
theorem dX11_tires_5 : decode cX11_tires 5 = .ok (.iload_n 2, 1) := by decide +kernel
theorem dX11_tires_6 : decode cX11_tires 6 = .ok (.invokevirtual 135, 3) := by decide +kernel
theorem dX11_tires_9 : decode cX11_tires 9 = .ok (.ireturn, 1) := by decide +kernel
theorem dX11_hands_0 : decode cX11_hands 0 = .ok (.aload_n 0, 1) := by decide +kernel
theorem dX11_hands_1 : decode cX11_hands 1 = .ok (.getfield 12, 3) := by decide +kernel
theorem dX11_hands_4 : decode cX11_hands 4 = .ok (.iload_n 1, 1) := by decide +kernel
theorem dX11_hands_5 : decode cX11_hands 5 = .ok (.invokevirtual 139, 3) := by decide +kernel
theorem dX11_hands_8 : decode cX11_hands 8 = .ok (.ireturn, 1) := by decide +kernel
theorem dX11_forms_0 : decode cX11_forms 0 = .ok (.aload_n 0, 1) := by decide +kernel
theorem dX11_forms_1 : decode cX11_forms 1 = .ok (.getfield 12, 3) := by decide +kernel
theorem dX11_forms_4 : decode cX11_forms 4 = .ok (.iload_n 1, 1) := by decide +kernel
theorem dX11_forms_5 : decode cX11_forms 5 = .ok (.iload_n 2, 1) := by decide +kernel
theorem dX11_forms_6 : decode cX11_forms 6 = .ok (.iload_n 3, 1) := by decide +kernel
theorem dX11_forms_7 : decode cX11_forms 7 = .ok (.invokevirtual 142, 3) := by decide +kernel
theorem dX11_forms_10 : decode cX11_forms 10 = .ok (.ireturn, 1) := by decide +kernel
theorem dX11_blows_0 : decode cX11_blows 0 = .ok (.aload_n 0, 1) := by decide +kernel
theorem dX11_blows_1 : decode cX11_blows 1 = .ok (.getfield 12, 3) := by decide +kernel
theorem dX11_blows_4 : decode cX11_blows 4 = .ok (.iload_n 1, 1) := by decide +kernel
theorem dX11_blows_5 : decode cX11_blows 5 = .ok (.invokevirtual 145, 3) := by decide +kernel
theorem dX11_blows_8 : decode cX11_blows 8 = .ok (.ireturn, 1) := by decide +kernel
theorem dX11_hit_0 : decode cX11_hit 0 = .ok (.aload_n 0, 1) := by decide +kernel
theorem dX11_hit_1 : decode cX11_hit 1 = .ok (.getfield 12, 3) := by decide +kernel
theorem dX11_hit_4 : decode cX11_hit 4 = .ok (.iload_n 1, 1) := by decide +kernel
theorem dX11_hit_5 : decode cX11_hit 5 = .ok (.iload_n 2, 1) := by decide +kernel
theorem dX11_hit_6 : decode cX11_hit 6 = .ok (.invokevirtual 148, 3) := by decide +kernel
theorem dX11_hit_9 : decode cX11_hit 9 = .ok (.istore_n 3, 1) := by decide +kernel
theorem dX11_hit_10 : decode cX11_hit 10 = .ok (.iload_n 3, 1) := by decide +kernel
theorem dX11_hit_11 : decode cX11_hit 11 = .ok (.ifCond .eq 5, 3) := by decide +kernel
theorem dX11_hit_14 : decode cX11_hit 14 = .ok (.iload_n 3, 1) := by decide +kernel
theorem dX11_hit_15 : decode cX11_hit 15 = .ok (.ireturn, 1) := by decide +kernel
theorem dX11_hit_16 : decode cX11_hit 16 = .ok (.aload_n 0, 1) := by decide +kernel
theorem dX11_hit_17 : decode cX11_hit 17 = .ok (.getfield 12, 3) := by decide +kernel
theorem dX11_hit_20 : decode cX11_hit 20 = .ok (.iload_n 1, 1) := by decide +kernel
theorem dX11_hit_21 : decode cX11_hit 21 = .ok (.iload_n 2, 1) := by decide +kernel
theorem dX11_hit_22 : decode cX11_hit 22 = .ok (.invokevirtual 151, 3) := by decide +kernel
theorem dX11_hit_25 : decode cX11_hit 25 = .ok (.pop, 1) := by decide +kernel
theorem dX11_hit_26 : decode cX11_hit 26 = .ok (.aload_n 0, 1) := by decide +kernel
theorem dX11_hit_27 : decode cX11_hit 27 = .ok (.getfield 12, 3) := by decide +kernel
theorem dX11_hit_30 : decode cX11_hit 30 = .ok (.getfield 154, 3) := by decide +kernel
theorem dX11_hit_33 : decode cX11_hit 33 = .ok (.ireturn, 1) := by decide +kernel
theorem dX11_whose_0 : decode cX11_whose 0 = .ok (.aload_n 0, 1) := by decide +kernel
theorem dX11_whose_1 : decode cX11_whose 1 = .ok (.getfield 12, 3) := by decide +kernel
theorem dX11_whose_4 : decode cX11_whose 4 = .ok (.iload_n 1, 1) := by decide +kernel
theorem dX11_whose_5 : decode cX11_whose 5 = .ok (.iload_n 2, 1) := by decide +kernel
theorem dX11_whose_6 : decode cX11_whose 6 = .ok (.invokevirtual 157, 3) := by decide +kernel
theorem dX11_whose_9 : decode cX11_whose 9 = .ok (.ifCond .eq 22, 3) := by decide +kernel
theorem dX11_whose_12 : decode cX11_whose 12 = .ok (.aload_n 0, 1) := by decide +kernel
theorem dX11_whose_13 : decode cX11_whose 13 = .ok (.getfield 12, 3) := by decide +kernel
theorem dX11_whose_16 : decode cX11_whose 16 = .ok (.aload_n 0, 1) := by decide +kernel
theorem dX11_whose_17 : decode cX11_whose 17 = .ok (.getfield 12, 3) := by decide +kernel
theorem dX11_whose_20 : decode cX11_whose 20 = .ok (.iload_n 1, 1) := by decide +kernel
theorem dX11_whose_21 : decode cX11_whose 21 = .ok (.iload_n 2, 1) := by decide +kernel
theorem dX11_whose_22 : decode cX11_whose 22 = .ok (.invokevirtual 160, 3) := by decide +kernel
theorem dX11_whose_25 : decode cX11_whose 25 = .ok (.invokevirtual 163, 3) := by decide +kernel
theorem dX11_whose_28 : decode cX11_whose 28 = .ok (.goto 4, 3) := by decide +kernel
theorem dX11_whose_31 : decode cX11_whose 31 = .ok (.iconst (-1), 1) := by decide +kernel
theorem dX11_whose_32 : decode cX11_whose 32 = .ok (.ireturn, 1) := by decide +kernel
theorem dX11_wins_0 : decode cX11_wins 0 = .ok (.aload_n 0, 1) := by decide +kernel
theorem dX11_wins_1 : decode cX11_wins 1 = .ok (.getfield 12, 3) := by decide +kernel
theorem dX11_wins_4 : decode cX11_wins 4 = .ok (.iload_n 1, 1) := by decide +kernel
theorem dX11_wins_5 : decode cX11_wins 5 = .ok (.iload_n 2, 1) := by decide +kernel
theorem dX11_wins_6 : decode cX11_wins 6 = .ok (.invokevirtual 157, 3) := by decide +kernel
theorem dX11_wins_9 : decode cX11_wins 9 = .ok (.ifCond .ne 5, 3) := by decide +kernel
theorem dX11_wins_12 : decode cX11_wins 12 = .ok (.iconst (-1), 1) := by decide +kernel
theorem dX11_wins_13 : decode cX11_wins 13 = .ok (.ireturn, 1) := by decide +kernel
theorem dX11_wins_14 : decode cX11_wins 14 = .ok (.aload_n 0, 1) := by decide +kernel
theorem dX11_wins_15 : decode cX11_wins 15 = .ok (.getfield 12, 3) := by decide +kernel
theorem dX11_wins_18 : decode cX11_wins 18 = .ok (.iload_n 1, 1) := by decide +kernel
theorem dX11_wins_19 : decode cX11_wins 19 = .ok (.iload_n 2, 1) := by decide +kernel
theorem dX11_wins_20 : decode cX11_wins 20 = .ok (.invokevirtual 166, 3) := by decide +kernel
theorem dX11_wins_23 : decode cX11_wins 23 = .ok (.ifCond .eq 7, 3) := by decide +kernel
theorem dX11_wins_26 : decode cX11_wins 26 = .ok (.iconst 1, 1) := by decide +kernel
theorem dX11_wins_27 : decode cX11_wins 27 = .ok (.goto 4, 3) := by decide +kernel
theorem dX11_wins_30 : decode cX11_wins 30 = .ok (.iconst 0, 1) := by decide +kernel
theorem dX11_wins_31 : decode cX11_wins 31 = .ok (.ireturn, 1) := by decide +kernel
theorem dX11_falls_0 : decode cX11_falls 0 = .ok (.aload_n 0, 1) := by decide +kernel
theorem dX11_falls_1 : decode cX11_falls 1 = .ok (.getfield 12, 3) := by decide +kernel
theorem dX11_falls_4 : decode cX11_falls 4 = .ok (.iload_n 1, 1) := by decide +kernel
theorem dX11_falls_5 : decode cX11_falls 5 = .ok (.iload_n 2, 1) := by decide +kernel
theorem dX11_falls_6 : decode cX11_falls 6 = .ok (.invokevirtual 157, 3) := by decide +kernel
theorem dX11_falls_9 : decode cX11_falls 9 = .ok (.ifCond .eq 15, 3) := by decide +kernel
theorem dX11_falls_12 : decode cX11_falls 12 = .ok (.aload_n 0, 1) := by decide +kernel
theorem dX11_falls_13 : decode cX11_falls 13 = .ok (.getfield 12, 3) := by decide +kernel
theorem dX11_falls_16 : decode cX11_falls 16 = .ok (.iload_n 1, 1) := by decide +kernel
theorem dX11_falls_17 : decode cX11_falls 17 = .ok (.iload_n 2, 1) := by decide +kernel
theorem dX11_falls_18 : decode cX11_falls 18 = .ok (.invokevirtual 160, 3) := by decide +kernel
theorem dX11_falls_21 : decode cX11_falls 21 = .ok (.goto 4, 3) := by decide +kernel
theorem dX11_falls_24 : decode cX11_falls 24 = .ok (.iconst (-1), 1) := by decide +kernel
theorem dX11_falls_25 : decode cX11_falls 25 = .ok (.ireturn, 1) := by decide +kernel
theorem dX11_open_0 : decode cX11_open 0 = .ok (.aload_n 0, 1) := by decide +kernel
theorem dX11_open_1 : decode cX11_open 1 = .ok (.getfield 12, 3) := by decide +kernel
theorem dX11_open_4 : decode cX11_open 4 = .ok (.iload_n 1, 1) := by decide +kernel
theorem dX11_open_5 : decode cX11_open 5 = .ok (.invokevirtual 71, 3) := by decide +kernel
theorem dX11_open_8 : decode cX11_open 8 = .ok (.ifCond .ne 5, 3) := by decide +kernel
theorem dX11_open_11 : decode cX11_open 11 = .ok (.iconst (-1), 1) := by decide +kernel
theorem dX11_open_12 : decode cX11_open 12 = .ok (.ireturn, 1) := by decide +kernel
theorem dX11_open_13 : decode cX11_open 13 = .ok (.iconst 0, 1) := by decide +kernel
theorem dX11_open_14 : decode cX11_open 14 = .ok (.istore_n 2, 1) := by decide +kernel
theorem dX11_open_15 : decode cX11_open 15 = .ok (.iconst 0, 1) := by decide +kernel
theorem dX11_open_16 : decode cX11_open 16 = .ok (.istore_n 3, 1) := by decide +kernel
theorem dX11_open_17 : decode cX11_open 17 = .ok (.iload_n 3, 1) := by decide +kernel
theorem dX11_open_18 : decode cX11_open 18 = .ok (.bipush 9, 2) := by decide +kernel
theorem dX11_open_20 : decode cX11_open 20 = .ok (.if_icmp .ge 27, 3) := by decide +kernel
theorem dX11_open_23 : decode cX11_open 23 = .ok (.aload_n 0, 1) := by decide +kernel
theorem dX11_open_24 : decode cX11_open 24 = .ok (.getfield 12, 3) := by decide +kernel
theorem dX11_open_27 : decode cX11_open 27 = .ok (.iload_n 1, 1) := by decide +kernel
theorem dX11_open_28 : decode cX11_open 28 = .ok (.iload_n 3, 1) := by decide +kernel
theorem dX11_open_29 : decode cX11_open 29 = .ok (.invokevirtual 166, 3) := by decide +kernel
theorem dX11_open_32 : decode cX11_open 32 = .ok (.ifCond .eq 9, 3) := by decide +kernel
theorem dX11_open_35 : decode cX11_open 35 = .ok (.iload_n 2, 1) := by decide +kernel
theorem dX11_open_36 : decode cX11_open 36 = .ok (.iconst 1, 1) := by decide +kernel
theorem dX11_open_37 : decode cX11_open 37 = .ok (.iload_n 3, 1) := by decide +kernel
theorem dX11_open_38 : decode cX11_open 38 = .ok (.ishl, 1) := by decide +kernel
theorem dX11_open_39 : decode cX11_open 39 = .ok (.ior, 1) := by decide +kernel
theorem dX11_open_40 : decode cX11_open 40 = .ok (.istore_n 2, 1) := by decide +kernel
theorem dX11_open_41 : decode cX11_open 41 = .ok (.iinc 3 1, 3) := by decide +kernel
theorem dX11_open_44 : decode cX11_open 44 = .ok (.goto (-27), 3) := by decide +kernel
theorem dX11_open_47 : decode cX11_open 47 = .ok (.iload_n 2, 1) := by decide +kernel
theorem dX11_open_48 : decode cX11_open 48 = .ok (.ireturn, 1) := by decide +kernel
theorem dX11_forced_0 : decode cX11_forced 0 = .ok (.aload_n 0, 1) := by decide +kernel
theorem dX11_forced_1 : decode cX11_forced 1 = .ok (.getfield 12, 3) := by decide +kernel
theorem dX11_forced_4 : decode cX11_forced 4 = .ok (.invokevirtual 169, 3) := by decide +kernel
theorem dX11_forced_7 : decode cX11_forced 7 = .ok (.ireturn, 1) := by decide +kernel
theorem dX11_farthest_0 : decode cX11_farthest 0 = .ok (.aload_n 0, 1) := by decide +kernel
theorem dX11_farthest_1 : decode cX11_farthest 1 = .ok (.getfield 12, 3) := by decide +kernel
theorem dX11_farthest_4 : decode cX11_farthest 4 = .ok (.iload_n 1, 1) := by decide +kernel
theorem dX11_farthest_5 : decode cX11_farthest 5 = .ok (.invokevirtual 71, 3) := by decide +kernel
theorem dX11_farthest_8 : decode cX11_farthest 8 = .ok (.ifCond .eq 11, 3) := by decide +kernel
theorem dX11_farthest_11 : decode cX11_farthest 11 = .ok (.iload_n 2, 1) := by decide +kernel
theorem dX11_farthest_12 : decode cX11_farthest 12 = .ok (.iconst 2, 1) := by decide +kernel
theorem dX11_farthest_13 : decode cX11_farthest 13 = .ok (.invokestatic 92, 3) := by decide +kernel
theorem dX11_farthest_16 : decode cX11_farthest 16 = .ok (.ifCond .ne 5, 3) := by decide +kernel
theorem dX11_farthest_19 : decode cX11_farthest 19 = .ok (.iconst (-1), 1) := by decide +kernel
theorem dX11_farthest_20 : decode cX11_farthest 20 = .ok (.ireturn, 1) := by decide +kernel
theorem dX11_farthest_21 : decode cX11_farthest 21 = .ok (.iconst 0, 1) := by decide +kernel
theorem dX11_farthest_22 : decode cX11_farthest 22 = .ok (.istore_n 3, 1) := by decide +kernel
theorem dX11_farthest_23 : decode cX11_farthest 23 = .ok (.iconst (-1), 1) := by decide +kernel
theorem dX11_farthest_24 : decode cX11_farthest 24 = .ok (.istore 4, 2) := by decide +kernel
theorem dX11_farthest_26 : decode cX11_farthest 26 = .ok (.iconst 0, 1) := by decide +kernel
theorem dX11_farthest_27 : decode cX11_farthest 27 = .ok (.istore 5, 2) := by decide +kernel
theorem dX11_farthest_29 : decode cX11_farthest 29 = .ok (.iload 5, 2) := by decide +kernel
theorem dX11_farthest_31 : decode cX11_farthest 31 = .ok (.bipush 9, 2) := by decide +kernel
theorem dX11_farthest_33 : decode cX11_farthest 33 = .ok (.if_icmp .ge 42, 3) := by decide +kernel
theorem dX11_farthest_36 : decode cX11_farthest 36 = .ok (.aload_n 0, 1) := by decide +kernel
theorem dX11_farthest_37 : decode cX11_farthest 37 = .ok (.getfield 12, 3) := by decide +kernel
theorem dX11_farthest_40 : decode cX11_farthest 40 = .ok (.aload_n 0, 1) := by decide +kernel
theorem dX11_farthest_41 : decode cX11_farthest 41 = .ok (.getfield 12, 3) := by decide +kernel
theorem dX11_farthest_44 : decode cX11_farthest 44 = .ok (.iload_n 1, 1) := by decide +kernel
theorem dX11_farthest_45 : decode cX11_farthest 45 = .ok (.iload 5, 2) := by decide +kernel
theorem dX11_farthest_47 : decode cX11_farthest 47 = .ok (.invokevirtual 160, 3) := by decide +kernel
theorem dX11_farthest_50 : decode cX11_farthest 50 = .ok (.invokevirtual 172, 3) := by decide +kernel
theorem dX11_farthest_53 : decode cX11_farthest 53 = .ok (.istore 6, 2) := by decide +kernel
theorem dX11_farthest_55 : decode cX11_farthest 55 = .ok (.iload 6, 2) := by decide +kernel
theorem dX11_farthest_57 : decode cX11_farthest 57 = .ok (.iload 4, 2) := by decide +kernel
theorem dX11_farthest_59 : decode cX11_farthest 59 = .ok (.if_icmp .le 10, 3) := by decide +kernel
theorem dX11_farthest_62 : decode cX11_farthest 62 = .ok (.iload 6, 2) := by decide +kernel
theorem dX11_farthest_64 : decode cX11_farthest 64 = .ok (.istore 4, 2) := by decide +kernel
theorem dX11_farthest_66 : decode cX11_farthest 66 = .ok (.iload 5, 2) := by decide +kernel
theorem dX11_farthest_68 : decode cX11_farthest 68 = .ok (.istore_n 3, 1) := by decide +kernel
theorem dX11_farthest_69 : decode cX11_farthest 69 = .ok (.iinc 5 1, 3) := by decide +kernel
theorem dX11_farthest_72 : decode cX11_farthest 72 = .ok (.goto (-43), 3) := by decide +kernel
theorem dX11_farthest_75 : decode cX11_farthest 75 = .ok (.iload_n 2, 1) := by decide +kernel
theorem dX11_farthest_76 : decode cX11_farthest 76 = .ok (.ifCond .ne 7, 3) := by decide +kernel
theorem dX11_farthest_79 : decode cX11_farthest 79 = .ok (.iload_n 3, 1) := by decide +kernel
theorem dX11_farthest_80 : decode cX11_farthest 80 = .ok (.goto 5, 3) := by decide +kernel
theorem dX11_farthest_83 : decode cX11_farthest 83 = .ok (.iload 4, 2) := by decide +kernel
theorem dX11_farthest_85 : decode cX11_farthest 85 = .ok (.ireturn, 1) := by decide +kernel
theorem dX11_atWhom_0 : decode cX11_atWhom 0 = .ok (.aload_n 0, 1) := by decide +kernel
theorem dX11_atWhom_1 : decode cX11_atWhom 1 = .ok (.getfield 12, 3) := by decide +kernel
theorem dX11_atWhom_4 : decode cX11_atWhom 4 = .ok (.iload_n 1, 1) := by decide +kernel
theorem dX11_atWhom_5 : decode cX11_atWhom 5 = .ok (.invokevirtual 71, 3) := by decide +kernel
theorem dX11_atWhom_8 : decode cX11_atWhom 8 = .ok (.ifCond .ne 5, 3) := by decide +kernel
theorem dX11_atWhom_11 : decode cX11_atWhom 11 = .ok (.iconst (-1), 1) := by decide +kernel
theorem dX11_atWhom_12 : decode cX11_atWhom 12 = .ok (.ireturn, 1) := by decide +kernel
theorem dX11_atWhom_13 : decode cX11_atWhom 13 = .ok (.bipush (-4), 2) := by decide +kernel
theorem dX11_atWhom_15 : decode cX11_atWhom 15 = .ok (.istore_n 2, 1) := by decide +kernel
theorem dX11_atWhom_16 : decode cX11_atWhom 16 = .ok (.iconst (-1), 1) := by decide +kernel
theorem dX11_atWhom_17 : decode cX11_atWhom 17 = .ok (.istore_n 3, 1) := by decide +kernel
theorem dX11_atWhom_18 : decode cX11_atWhom 18 = .ok (.iconst 0, 1) := by decide +kernel
theorem dX11_atWhom_19 : decode cX11_atWhom 19 = .ok (.istore 4, 2) := by decide +kernel
theorem dX11_atWhom_21 : decode cX11_atWhom 21 = .ok (.iload 4, 2) := by decide +kernel
theorem dX11_atWhom_23 : decode cX11_atWhom 23 = .ok (.bipush 9, 2) := by decide +kernel
theorem dX11_atWhom_25 : decode cX11_atWhom 25 = .ok (.if_icmp .ge 66, 3) := by decide +kernel
theorem dX11_atWhom_28 : decode cX11_atWhom 28 = .ok (.aload_n 0, 1) := by decide +kernel
theorem dX11_atWhom_29 : decode cX11_atWhom 29 = .ok (.getfield 16, 3) := by decide +kernel
theorem dX11_atWhom_32 : decode cX11_atWhom 32 = .ok (.aload_n 0, 1) := by decide +kernel
theorem dX11_atWhom_33 : decode cX11_atWhom 33 = .ok (.getfield 12, 3) := by decide +kernel
theorem dX11_atWhom_36 : decode cX11_atWhom 36 = .ok (.invokevirtual 60, 3) := by decide +kernel
theorem dX11_atWhom_39 : decode cX11_atWhom 39 = .ok (.aload_n 0, 1) := by decide +kernel
theorem dX11_atWhom_40 : decode cX11_atWhom 40 = .ok (.getfield 16, 3) := by decide +kernel
theorem dX11_atWhom_43 : decode cX11_atWhom 43 = .ok (.iload_n 1, 1) := by decide +kernel
theorem dX11_atWhom_44 : decode cX11_atWhom 44 = .ok (.iload 4, 2) := by decide +kernel
theorem dX11_atWhom_46 : decode cX11_atWhom 46 = .ok (.invokevirtual 151, 3) := by decide +kernel
theorem dX11_atWhom_49 : decode cX11_atWhom 49 = .ok (.istore 5, 2) := by decide +kernel
theorem dX11_atWhom_51 : decode cX11_atWhom 51 = .ok (.aload_n 0, 1) := by decide +kernel
theorem dX11_atWhom_52 : decode cX11_atWhom 52 = .ok (.getfield 16, 3) := by decide +kernel
theorem dX11_atWhom_55 : decode cX11_atWhom 55 = .ok (.getfield 102, 3) := by decide +kernel
theorem dX11_atWhom_58 : decode cX11_atWhom 58 = .ok (.aload_n 0, 1) := by decide +kernel
theorem dX11_atWhom_59 : decode cX11_atWhom 59 = .ok (.getfield 16, 3) := by decide +kernel
theorem dX11_atWhom_62 : decode cX11_atWhom 62 = .ok (.getfield 154, 3) := by decide +kernel
theorem dX11_atWhom_65 : decode cX11_atWhom 65 = .ok (.iaload, 1) := by decide +kernel
theorem dX11_atWhom_66 : decode cX11_atWhom 66 = .ok (.istore 6, 2) := by decide +kernel
theorem dX11_atWhom_68 : decode cX11_atWhom 68 = .ok (.iload 5, 2) := by decide +kernel
theorem dX11_atWhom_70 : decode cX11_atWhom 70 = .ok (.ifCond .ne 15, 3) := by decide +kernel
theorem dX11_atWhom_73 : decode cX11_atWhom 73 = .ok (.iload 6, 2) := by decide +kernel
theorem dX11_atWhom_75 : decode cX11_atWhom 75 = .ok (.iload_n 3, 1) := by decide +kernel
theorem dX11_atWhom_76 : decode cX11_atWhom 76 = .ok (.if_icmp .le 9, 3) := by decide +kernel
theorem dX11_atWhom_79 : decode cX11_atWhom 79 = .ok (.iload 6, 2) := by decide +kernel
theorem dX11_atWhom_81 : decode cX11_atWhom 81 = .ok (.istore_n 3, 1) := by decide +kernel
theorem dX11_atWhom_82 : decode cX11_atWhom 82 = .ok (.iload 4, 2) := by decide +kernel
theorem dX11_atWhom_84 : decode cX11_atWhom 84 = .ok (.istore_n 2, 1) := by decide +kernel
theorem dX11_atWhom_85 : decode cX11_atWhom 85 = .ok (.iinc 4 1, 3) := by decide +kernel
theorem dX11_atWhom_88 : decode cX11_atWhom 88 = .ok (.goto (-67), 3) := by decide +kernel
theorem dX11_atWhom_91 : decode cX11_atWhom 91 = .ok (.iload_n 2, 1) := by decide +kernel
theorem dX11_atWhom_92 : decode cX11_atWhom 92 = .ok (.ireturn, 1) := by decide +kernel
theorem dX11_fewest_0 : decode cX11_fewest 0 = .ok (.iload_n 1, 1) := by decide +kernel
theorem dX11_fewest_1 : decode cX11_fewest 1 = .ok (.iconst 2, 1) := by decide +kernel
theorem dX11_fewest_2 : decode cX11_fewest 2 = .ok (.invokestatic 92, 3) := by decide +kernel
theorem dX11_fewest_5 : decode cX11_fewest 5 = .ok (.ifCond .ne 5, 3) := by decide +kernel
theorem dX11_fewest_8 : decode cX11_fewest 8 = .ok (.iconst (-1), 1) := by decide +kernel
theorem dX11_fewest_9 : decode cX11_fewest 9 = .ok (.ireturn, 1) := by decide +kernel
theorem dX11_fewest_10 : decode cX11_fewest 10 = .ok (.aload_n 0, 1) := by decide +kernel
theorem dX11_fewest_11 : decode cX11_fewest 11 = .ok (.getfield 12, 3) := by decide +kernel
theorem dX11_fewest_14 : decode cX11_fewest 14 = .ok (.getfield 175, 3) := by decide +kernel
theorem dX11_fewest_17 : decode cX11_fewest 17 = .ok (.ifCond .ne 6, 3) := by decide +kernel
theorem dX11_fewest_20 : decode cX11_fewest 20 = .ok (.bipush (-3), 2) := by decide +kernel
theorem dX11_fewest_22 : decode cX11_fewest 22 = .ok (.ireturn, 1) := by decide +kernel
theorem dX11_fewest_23 : decode cX11_fewest 23 = .ok (.aload_n 0, 1) := by decide +kernel
theorem dX11_fewest_24 : decode cX11_fewest 24 = .ok (.getfield 12, 3) := by decide +kernel
theorem dX11_fewest_27 : decode cX11_fewest 27 = .ok (.invokevirtual 169, 3) := by decide +kernel
theorem dX11_fewest_30 : decode cX11_fewest 30 = .ok (.istore_n 2, 1) := by decide +kernel
theorem dX11_fewest_31 : decode cX11_fewest 31 = .ok (.iload_n 2, 1) := by decide +kernel
theorem dX11_fewest_32 : decode cX11_fewest 32 = .ok (.bipush (-4), 2) := by decide +kernel
theorem dX11_fewest_34 : decode cX11_fewest 34 = .ok (.if_icmp .eq 13, 3) := by decide +kernel
theorem dX11_fewest_37 : decode cX11_fewest 37 = .ok (.iload_n 1, 1) := by decide +kernel
theorem dX11_fewest_38 : decode cX11_fewest 38 = .ok (.ifCond .ne 7, 3) := by decide +kernel
theorem dX11_fewest_41 : decode cX11_fewest 41 = .ok (.iconst 1, 1) := by decide +kernel
theorem dX11_fewest_42 : decode cX11_fewest 42 = .ok (.goto 4, 3) := by decide +kernel
theorem dX11_fewest_45 : decode cX11_fewest 45 = .ok (.iload_n 2, 1) := by decide +kernel
theorem dX11_fewest_46 : decode cX11_fewest 46 = .ok (.ireturn, 1) := by decide +kernel
theorem dX11_fewest_47 : decode cX11_fewest 47 = .ok (.aload_n 0, 1) := by decide +kernel
theorem dX11_fewest_48 : decode cX11_fewest 48 = .ok (.invokevirtual 178, 3) := by decide +kernel
theorem dX11_fewest_51 : decode cX11_fewest 51 = .ok (.istore_n 3, 1) := by decide +kernel
theorem dX11_fewest_52 : decode cX11_fewest 52 = .ok (.iload_n 3, 1) := by decide +kernel
theorem dX11_fewest_53 : decode cX11_fewest 53 = .ok (.bipush (-4), 2) := by decide +kernel
theorem dX11_fewest_55 : decode cX11_fewest 55 = .ok (.if_icmp .ne 6, 3) := by decide +kernel
theorem dX11_fewest_58 : decode cX11_fewest 58 = .ok (.bipush (-4), 2) := by decide +kernel
theorem dX11_fewest_60 : decode cX11_fewest 60 = .ok (.ireturn, 1) := by decide +kernel
theorem dX11_fewest_61 : decode cX11_fewest 61 = .ok (.iload_n 1, 1) := by decide +kernel
theorem dX11_fewest_62 : decode cX11_fewest 62 = .ok (.ifCond .ne 7, 3) := by decide +kernel
theorem dX11_fewest_65 : decode cX11_fewest 65 = .ok (.iconst 3, 1) := by decide +kernel
theorem dX11_fewest_66 : decode cX11_fewest 66 = .ok (.goto 4, 3) := by decide +kernel
theorem dX11_fewest_69 : decode cX11_fewest 69 = .ok (.iload_n 3, 1) := by decide +kernel
theorem dX11_fewest_70 : decode cX11_fewest 70 = .ok (.ireturn, 1) := by decide +kernel
theorem dX11_bestForm_0 : decode cX11_bestForm 0 = .ok (.aload_n 0, 1) := by decide +kernel
theorem dX11_bestForm_1 : decode cX11_bestForm 1 = .ok (.iload_n 1, 1) := by decide +kernel
theorem dX11_bestForm_2 : decode cX11_bestForm 2 = .ok (.iconst 0, 1) := by decide +kernel
theorem dX11_bestForm_3 : decode cX11_bestForm 3 = .ok (.iload_n 2, 1) := by decide +kernel
theorem dX11_bestForm_4 : decode cX11_bestForm 4 = .ok (.invokevirtual 181, 3) := by decide +kernel
theorem dX11_bestForm_7 : decode cX11_bestForm 7 = .ok (.ireturn, 1) := by decide +kernel
theorem dX11_bestHabit_0 : decode cX11_bestHabit 0 = .ok (.aload_n 0, 1) := by decide +kernel
theorem dX11_bestHabit_1 : decode cX11_bestHabit 1 = .ok (.iload_n 1, 1) := by decide +kernel
theorem dX11_bestHabit_2 : decode cX11_bestHabit 2 = .ok (.iconst 1, 1) := by decide +kernel
theorem dX11_bestHabit_3 : decode cX11_bestHabit 3 = .ok (.iload_n 2, 1) := by decide +kernel
theorem dX11_bestHabit_4 : decode cX11_bestHabit 4 = .ok (.invokevirtual 181, 3) := by decide +kernel
theorem dX11_bestHabit_7 : decode cX11_bestHabit 7 = .ok (.ireturn, 1) := by decide +kernel
theorem dX11_change_0 : decode cX11_change 0 = .ok (.aload_n 0, 1) := by decide +kernel
theorem dX11_change_1 : decode cX11_change 1 = .ok (.getfield 12, 3) := by decide +kernel
theorem dX11_change_4 : decode cX11_change 4 = .ok (.iload_n 1, 1) := by decide +kernel
theorem dX11_change_5 : decode cX11_change 5 = .ok (.iload_n 2, 1) := by decide +kernel
theorem dX11_change_6 : decode cX11_change 6 = .ok (.invokevirtual 157, 3) := by decide +kernel
theorem dX11_change_9 : decode cX11_change 9 = .ok (.ifCond .eq 20, 3) := by decide +kernel
theorem dX11_change_12 : decode cX11_change 12 = .ok (.iload_n 3, 1) := by decide +kernel
theorem dX11_change_13 : decode cX11_change 13 = .ok (.iconst 4, 1) := by decide +kernel
theorem dX11_change_14 : decode cX11_change 14 = .ok (.invokestatic 92, 3) := by decide +kernel
theorem dX11_change_17 : decode cX11_change 17 = .ok (.ifCond .eq 12, 3) := by decide +kernel
theorem dX11_change_20 : decode cX11_change 20 = .ok (.iload 4, 2) := by decide +kernel
theorem dX11_change_22 : decode cX11_change 22 = .ok (.iconst 2, 1) := by decide +kernel
theorem dX11_change_23 : decode cX11_change 23 = .ok (.invokestatic 92, 3) := by decide +kernel
theorem dX11_change_26 : decode cX11_change 26 = .ok (.ifCond .ne 5, 3) := by decide +kernel
theorem dX11_change_29 : decode cX11_change 29 = .ok (.iconst (-1), 1) := by decide +kernel
theorem dX11_change_30 : decode cX11_change 30 = .ok (.ireturn, 1) := by decide +kernel
theorem dX11_change_31 : decode cX11_change 31 = .ok (.aload_n 0, 1) := by decide +kernel
theorem dX11_change_32 : decode cX11_change 32 = .ok (.getfield 16, 3) := by decide +kernel
theorem dX11_change_35 : decode cX11_change 35 = .ok (.aload_n 0, 1) := by decide +kernel
theorem dX11_change_36 : decode cX11_change 36 = .ok (.getfield 12, 3) := by decide +kernel
theorem dX11_change_39 : decode cX11_change 39 = .ok (.invokevirtual 60, 3) := by decide +kernel
theorem dX11_change_42 : decode cX11_change 42 = .ok (.aload_n 0, 1) := by decide +kernel
theorem dX11_change_43 : decode cX11_change 43 = .ok (.getfield 16, 3) := by decide +kernel
theorem dX11_change_46 : decode cX11_change 46 = .ok (.iload_n 1, 1) := by decide +kernel
theorem dX11_change_47 : decode cX11_change 47 = .ok (.iload_n 2, 1) := by decide +kernel
theorem dX11_change_48 : decode cX11_change 48 = .ok (.invokevirtual 151, 3) := by decide +kernel
theorem dX11_change_51 : decode cX11_change 51 = .ok (.pop, 1) := by decide +kernel
theorem dX11_change_52 : decode cX11_change 52 = .ok (.iload 4, 2) := by decide +kernel
theorem dX11_change_54 : decode cX11_change 54 = .ok (.ifCond .ne 15, 3) := by decide +kernel
theorem dX11_change_57 : decode cX11_change 57 = .ok (.aload_n 0, 1) := by decide +kernel
theorem dX11_change_58 : decode cX11_change 58 = .ok (.getfield 16, 3) := by decide +kernel
theorem dX11_change_61 : decode cX11_change 61 = .ok (.getfield 96, 3) := by decide +kernel
theorem dX11_change_64 : decode cX11_change 64 = .ok (.iload_n 3, 1) := by decide +kernel
theorem dX11_change_65 : decode cX11_change 65 = .ok (.iaload, 1) := by decide +kernel
theorem dX11_change_66 : decode cX11_change 66 = .ok (.goto 12, 3) := by decide +kernel
theorem dX11_change_69 : decode cX11_change 69 = .ok (.aload_n 0, 1) := by decide +kernel
theorem dX11_change_70 : decode cX11_change 70 = .ok (.getfield 16, 3) := by decide +kernel
theorem dX11_change_73 : decode cX11_change 73 = .ok (.getfield 102, 3) := by decide +kernel
theorem dX11_change_76 : decode cX11_change 76 = .ok (.iload_n 3, 1) := by decide +kernel
theorem dX11_change_77 : decode cX11_change 77 = .ok (.iaload, 1) := by decide +kernel
theorem dX11_change_78 : decode cX11_change 78 = .ok (.ireturn, 1) := by decide +kernel
theorem dX11_rally_0 : decode cX11_rally 0 = .ok (.iload_n 2, 1) := by decide +kernel
theorem dX11_rally_1 : decode cX11_rally 1 = .ok (.iconst 2, 1) := by decide +kernel
theorem dX11_rally_2 : decode cX11_rally 2 = .ok (.invokestatic 92, 3) := by decide +kernel
theorem dX11_rally_5 : decode cX11_rally 5 = .ok (.ifCond .ne 5, 3) := by decide +kernel
theorem dX11_rally_8 : decode cX11_rally 8 = .ok (.iconst (-1), 1) := by decide +kernel
theorem dX11_rally_9 : decode cX11_rally 9 = .ok (.ireturn, 1) := by decide +kernel
theorem dX11_rally_10 : decode cX11_rally 10 = .ok (.aload_n 0, 1) := by decide +kernel
theorem dX11_rally_11 : decode cX11_rally 11 = .ok (.iload_n 1, 1) := by decide +kernel
theorem dX11_rally_12 : decode cX11_rally 12 = .ok (.invokevirtual 184, 3) := by decide +kernel
theorem dX11_rally_15 : decode cX11_rally 15 = .ok (.istore_n 3, 1) := by decide +kernel
theorem dX11_rally_16 : decode cX11_rally 16 = .ok (.iload_n 3, 1) := by decide +kernel
theorem dX11_rally_17 : decode cX11_rally 17 = .ok (.ifCond .eq 5, 3) := by decide +kernel
theorem dX11_rally_20 : decode cX11_rally 20 = .ok (.iload_n 3, 1) := by decide +kernel
theorem dX11_rally_21 : decode cX11_rally 21 = .ok (.ireturn, 1) := by decide +kernel
theorem dX11_rally_22 : decode cX11_rally 22 = .ok (.aload_n 0, 1) := by decide +kernel
theorem dX11_rally_23 : decode cX11_rally 23 = .ok (.aload_n 0, 1) := by decide +kernel
theorem dX11_rally_24 : decode cX11_rally 24 = .ok (.getfield 24, 3) := by decide +kernel
theorem dX11_rally_27 : decode cX11_rally 27 = .ok (.iload_n 1, 1) := by decide +kernel
theorem dX11_rally_28 : decode cX11_rally 28 = .ok (.aaload, 1) := by decide +kernel
theorem dX11_rally_29 : decode cX11_rally 29 = .ok (.invokevirtual 187, 3) := by decide +kernel
theorem dX11_rally_32 : decode cX11_rally 32 = .ok (.istore 4, 2) := by decide +kernel
theorem dX11_rally_34 : decode cX11_rally 34 = .ok (.iload_n 2, 1) := by decide +kernel
theorem dX11_rally_35 : decode cX11_rally 35 = .ok (.ifCond .ne 8, 3) := by decide +kernel
theorem dX11_rally_38 : decode cX11_rally 38 = .ok (.iload 4, 2) := by decide +kernel
theorem dX11_rally_40 : decode cX11_rally 40 = .ok (.goto 7, 3) := by decide +kernel
theorem dX11_rally_43 : decode cX11_rally 43 = .ok (.aload_n 0, 1) := by decide +kernel
theorem dX11_rally_44 : decode cX11_rally 44 = .ok (.invokevirtual 190, 3) := by decide +kernel
theorem dX11_rally_47 : decode cX11_rally 47 = .ok (.ireturn, 1) := by decide +kernel
theorem dX11_ways_0 : decode cX11_ways 0 = .ok (.iload_n 2, 1) := by decide +kernel
theorem dX11_ways_1 : decode cX11_ways 1 = .ok (.iconst 4, 1) := by decide +kernel
theorem dX11_ways_2 : decode cX11_ways 2 = .ok (.invokestatic 92, 3) := by decide +kernel
theorem dX11_ways_5 : decode cX11_ways 5 = .ok (.ifCond .ne 5, 3) := by decide +kernel
theorem dX11_ways_8 : decode cX11_ways 8 = .ok (.iconst (-1), 1) := by decide +kernel
theorem dX11_ways_9 : decode cX11_ways 9 = .ok (.ireturn, 1) := by decide +kernel
theorem dX11_ways_10 : decode cX11_ways 10 = .ok (.aload_n 0, 1) := by decide +kernel
theorem dX11_ways_11 : decode cX11_ways 11 = .ok (.iload_n 1, 1) := by decide +kernel
theorem dX11_ways_12 : decode cX11_ways 12 = .ok (.invokevirtual 184, 3) := by decide +kernel
theorem dX11_ways_15 : decode cX11_ways 15 = .ok (.istore_n 3, 1) := by decide +kernel
theorem dX11_ways_16 : decode cX11_ways 16 = .ok (.iload_n 3, 1) := by decide +kernel
theorem dX11_ways_17 : decode cX11_ways 17 = .ok (.ifCond .eq 5, 3) := by decide +kernel
theorem dX11_ways_20 : decode cX11_ways 20 = .ok (.iload_n 3, 1) := by decide +kernel
theorem dX11_ways_21 : decode cX11_ways 21 = .ok (.ireturn, 1) := by decide +kernel
theorem dX11_ways_22 : decode cX11_ways 22 = .ok (.aload_n 0, 1) := by decide +kernel
theorem dX11_ways_23 : decode cX11_ways 23 = .ok (.aload_n 0, 1) := by decide +kernel
theorem dX11_ways_24 : decode cX11_ways 24 = .ok (.getfield 24, 3) := by decide +kernel
theorem dX11_ways_27 : decode cX11_ways 27 = .ok (.iload_n 1, 1) := by decide +kernel
theorem dX11_ways_28 : decode cX11_ways 28 = .ok (.aaload, 1) := by decide +kernel
theorem dX11_ways_29 : decode cX11_ways 29 = .ok (.invokevirtual 187, 3) := by decide +kernel
theorem dX11_ways_32 : decode cX11_ways 32 = .ok (.pop, 1) := by decide +kernel
theorem dX11_ways_33 : decode cX11_ways 33 = .ok (.aload_n 0, 1) := by decide +kernel
theorem dX11_ways_34 : decode cX11_ways 34 = .ok (.getfield 38, 3) := by decide +kernel
theorem dX11_ways_37 : decode cX11_ways 37 = .ok (.iload_n 2, 1) := by decide +kernel
theorem dX11_ways_38 : decode cX11_ways 38 = .ok (.iaload, 1) := by decide +kernel
theorem dX11_ways_39 : decode cX11_ways 39 = .ok (.ireturn, 1) := by decide +kernel
theorem dX11_spent_0 : decode cX11_spent 0 = .ok (.aload_n 0, 1) := by decide +kernel
theorem dX11_spent_1 : decode cX11_spent 1 = .ok (.iload_n 1, 1) := by decide +kernel
theorem dX11_spent_2 : decode cX11_spent 2 = .ok (.invokevirtual 184, 3) := by decide +kernel
theorem dX11_spent_5 : decode cX11_spent 5 = .ok (.istore_n 2, 1) := by decide +kernel
theorem dX11_spent_6 : decode cX11_spent 6 = .ok (.iload_n 2, 1) := by decide +kernel
theorem dX11_spent_7 : decode cX11_spent 7 = .ok (.ifCond .eq 5, 3) := by decide +kernel
theorem dX11_spent_10 : decode cX11_spent 10 = .ok (.iload_n 2, 1) := by decide +kernel
theorem dX11_spent_11 : decode cX11_spent 11 = .ok (.ireturn, 1) := by decide +kernel
theorem dX11_spent_12 : decode cX11_spent 12 = .ok (.aload_n 0, 1) := by decide +kernel
theorem dX11_spent_13 : decode cX11_spent 13 = .ok (.aload_n 0, 1) := by decide +kernel
theorem dX11_spent_14 : decode cX11_spent 14 = .ok (.getfield 24, 3) := by decide +kernel
theorem dX11_spent_17 : decode cX11_spent 17 = .ok (.iload_n 1, 1) := by decide +kernel
theorem dX11_spent_18 : decode cX11_spent 18 = .ok (.aaload, 1) := by decide +kernel
theorem dX11_spent_19 : decode cX11_spent 19 = .ok (.invokevirtual 187, 3) := by decide +kernel
theorem dX11_spent_22 : decode cX11_spent 22 = .ok (.pop, 1) := by decide +kernel
theorem dX11_spent_23 : decode cX11_spent 23 = .ok (.iconst 0, 1) := by decide +kernel
theorem dX11_spent_24 : decode cX11_spent 24 = .ok (.istore_n 3, 1) := by decide +kernel
theorem dX11_spent_25 : decode cX11_spent 25 = .ok (.iconst 1, 1) := by decide +kernel
theorem dX11_spent_26 : decode cX11_spent 26 = .ok (.istore 4, 2) := by decide +kernel
theorem dX11_spent_28 : decode cX11_spent 28 = .ok (.iload 4, 2) := by decide +kernel
theorem dX11_spent_30 : decode cX11_spent 30 = .ok (.iconst 4, 1) := by decide +kernel
theorem dX11_spent_31 : decode cX11_spent 31 = .ok (.if_icmp .ge 34, 3) := by decide +kernel
theorem dX11_spent_34 : decode cX11_spent 34 = .ok (.aload_n 0, 1) := by decide +kernel
theorem dX11_spent_35 : decode cX11_spent 35 = .ok (.getfield 16, 3) := by decide +kernel
theorem dX11_spent_38 : decode cX11_spent 38 = .ok (.getfield 102, 3) := by decide +kernel
theorem dX11_spent_41 : decode cX11_spent 41 = .ok (.iload 4, 2) := by decide +kernel
theorem dX11_spent_43 : decode cX11_spent 43 = .ok (.iaload, 1) := by decide +kernel
theorem dX11_spent_44 : decode cX11_spent 44 = .ok (.aload_n 0, 1) := by decide +kernel
theorem dX11_spent_45 : decode cX11_spent 45 = .ok (.getfield 16, 3) := by decide +kernel
theorem dX11_spent_48 : decode cX11_spent 48 = .ok (.getfield 102, 3) := by decide +kernel
theorem dX11_spent_51 : decode cX11_spent 51 = .ok (.iload_n 3, 1) := by decide +kernel
theorem dX11_spent_52 : decode cX11_spent 52 = .ok (.iaload, 1) := by decide +kernel
theorem dX11_spent_53 : decode cX11_spent 53 = .ok (.if_icmp .le 6, 3) := by decide +kernel
theorem dX11_spent_56 : decode cX11_spent 56 = .ok (.iload 4, 2) := by decide +kernel
theorem dX11_spent_58 : decode cX11_spent 58 = .ok (.istore_n 3, 1) := by decide +kernel
theorem dX11_spent_59 : decode cX11_spent 59 = .ok (.iinc 4 1, 3) := by decide +kernel
theorem dX11_spent_62 : decode cX11_spent 62 = .ok (.goto (-34), 3) := by decide +kernel
theorem dX11_spent_65 : decode cX11_spent 65 = .ok (.iload_n 3, 1) := by decide +kernel
theorem dX11_spent_66 : decode cX11_spent 66 = .ok (.ireturn, 1) := by decide +kernel
theorem dX11_whatIs_0 : decode cX11_whatIs 0 = .ok (.aload_n 0, 1) := by decide +kernel
theorem dX11_whatIs_1 : decode cX11_whatIs 1 = .ok (.getfield 12, 3) := by decide +kernel
theorem dX11_whatIs_4 : decode cX11_whatIs 4 = .ok (.iload_n 2, 1) := by decide +kernel
theorem dX11_whatIs_5 : decode cX11_whatIs 5 = .ok (.invokevirtual 71, 3) := by decide +kernel
theorem dX11_whatIs_8 : decode cX11_whatIs 8 = .ok (.ifCond .eq 11, 3) := by decide +kernel
theorem dX11_whatIs_11 : decode cX11_whatIs 11 = .ok (.iload_n 3, 1) := by decide +kernel
theorem dX11_whatIs_12 : decode cX11_whatIs 12 = .ok (.iconst 2, 1) := by decide +kernel
theorem dX11_whatIs_13 : decode cX11_whatIs 13 = .ok (.invokestatic 92, 3) := by decide +kernel
theorem dX11_whatIs_16 : decode cX11_whatIs 16 = .ok (.ifCond .ne 5, 3) := by decide +kernel
theorem dX11_whatIs_19 : decode cX11_whatIs 19 = .ok (.iconst (-1), 1) := by decide +kernel
theorem dX11_whatIs_20 : decode cX11_whatIs 20 = .ok (.ireturn, 1) := by decide +kernel
theorem dX11_whatIs_21 : decode cX11_whatIs 21 = .ok (.aload_n 0, 1) := by decide +kernel
theorem dX11_whatIs_22 : decode cX11_whatIs 22 = .ok (.iload_n 1, 1) := by decide +kernel
theorem dX11_whatIs_23 : decode cX11_whatIs 23 = .ok (.invokevirtual 193, 3) := by decide +kernel
theorem dX11_whatIs_26 : decode cX11_whatIs 26 = .ok (.istore 4, 2) := by decide +kernel
theorem dX11_whatIs_28 : decode cX11_whatIs 28 = .ok (.iload 4, 2) := by decide +kernel
theorem dX11_whatIs_30 : decode cX11_whatIs 30 = .ok (.ifCond .eq 6, 3) := by decide +kernel
theorem dX11_whatIs_33 : decode cX11_whatIs 33 = .ok (.iload 4, 2) := by decide +kernel
theorem dX11_whatIs_35 : decode cX11_whatIs 35 = .ok (.ireturn, 1) := by decide +kernel
theorem dX11_whatIs_36 : decode cX11_whatIs 36 = .ok (.iload_n 3, 1) := by decide +kernel
theorem dX11_whatIs_37 : decode cX11_whatIs 37 = .ok (.ifCond .ne 16, 3) := by decide +kernel
theorem dX11_whatIs_40 : decode cX11_whatIs 40 = .ok (.aload_n 0, 1) := by decide +kernel
theorem dX11_whatIs_41 : decode cX11_whatIs 41 = .ok (.aload_n 0, 1) := by decide +kernel
theorem dX11_whatIs_42 : decode cX11_whatIs 42 = .ok (.getfield 24, 3) := by decide +kernel
theorem dX11_whatIs_45 : decode cX11_whatIs 45 = .ok (.iload_n 1, 1) := by decide +kernel
theorem dX11_whatIs_46 : decode cX11_whatIs 46 = .ok (.aaload, 1) := by decide +kernel
theorem dX11_whatIs_47 : decode cX11_whatIs 47 = .ok (.invokevirtual 196, 3) := by decide +kernel
theorem dX11_whatIs_50 : decode cX11_whatIs 50 = .ok (.goto 21, 3) := by decide +kernel
theorem dX11_whatIs_53 : decode cX11_whatIs 53 = .ok (.aload_n 0, 1) := by decide +kernel
theorem dX11_whatIs_54 : decode cX11_whatIs 54 = .ok (.getfield 24, 3) := by decide +kernel
theorem dX11_whatIs_57 : decode cX11_whatIs 57 = .ok (.iload_n 1, 1) := by decide +kernel
theorem dX11_whatIs_58 : decode cX11_whatIs 58 = .ok (.aaload, 1) := by decide +kernel
theorem dX11_whatIs_59 : decode cX11_whatIs 59 = .ok (.aload_n 0, 1) := by decide +kernel
theorem dX11_whatIs_60 : decode cX11_whatIs 60 = .ok (.getfield 12, 3) := by decide +kernel
theorem dX11_whatIs_63 : decode cX11_whatIs 63 = .ok (.getfield 75, 3) := by decide +kernel
theorem dX11_whatIs_66 : decode cX11_whatIs 66 = .ok (.iload_n 2, 1) := by decide +kernel
theorem dX11_whatIs_67 : decode cX11_whatIs 67 = .ok (.aaload, 1) := by decide +kernel
theorem dX11_whatIs_68 : decode cX11_whatIs 68 = .ok (.invokestatic 199, 3) := by decide +kernel
theorem dX11_whatIs_71 : decode cX11_whatIs 71 = .ok (.ireturn, 1) := by decide +kernel
theorem dX11_habits_0 : decode cX11_habits 0 = .ok (.aload_n 0, 1) := by decide +kernel
theorem dX11_habits_1 : decode cX11_habits 1 = .ok (.iload_n 1, 1) := by decide +kernel
theorem dX11_habits_2 : decode cX11_habits 2 = .ok (.invokevirtual 193, 3) := by decide +kernel
theorem dX11_habits_5 : decode cX11_habits 5 = .ok (.istore_n 2, 1) := by decide +kernel
theorem dX11_habits_6 : decode cX11_habits 6 = .ok (.iload_n 2, 1) := by decide +kernel
theorem dX11_habits_7 : decode cX11_habits 7 = .ok (.ifCond .eq 5, 3) := by decide +kernel
theorem dX11_habits_10 : decode cX11_habits 10 = .ok (.iload_n 2, 1) := by decide +kernel
theorem dX11_habits_11 : decode cX11_habits 11 = .ok (.ireturn, 1) := by decide +kernel
theorem dX11_habits_12 : decode cX11_habits 12 = .ok (.aload_n 0, 1) := by decide +kernel
theorem dX11_habits_13 : decode cX11_habits 13 = .ok (.getfield 12, 3) := by decide +kernel
theorem dX11_habits_16 : decode cX11_habits 16 = .ok (.getfield 175, 3) := by decide +kernel
theorem dX11_habits_19 : decode cX11_habits 19 = .ok (.ifCond .ne 6, 3) := by decide +kernel
theorem dX11_habits_22 : decode cX11_habits 22 = .ok (.bipush (-3), 2) := by decide +kernel
theorem dX11_habits_24 : decode cX11_habits 24 = .ok (.ireturn, 1) := by decide +kernel
theorem dX11_habits_25 : decode cX11_habits 25 = .ok (.iconst 0, 1) := by decide +kernel
theorem dX11_habits_26 : decode cX11_habits 26 = .ok (.istore_n 3, 1) := by decide +kernel
theorem dX11_habits_27 : decode cX11_habits 27 = .ok (.aload_n 0, 1) := by decide +kernel
theorem dX11_habits_28 : decode cX11_habits 28 = .ok (.getfield 16, 3) := by decide +kernel
theorem dX11_habits_31 : decode cX11_habits 31 = .ok (.aload_n 0, 1) := by decide +kernel
theorem dX11_habits_32 : decode cX11_habits 32 = .ok (.getfield 12, 3) := by decide +kernel
theorem dX11_habits_35 : decode cX11_habits 35 = .ok (.invokevirtual 60, 3) := by decide +kernel
theorem dX11_habits_38 : decode cX11_habits 38 = .ok (.iconst 0, 1) := by decide +kernel
theorem dX11_habits_39 : decode cX11_habits 39 = .ok (.istore 4, 2) := by decide +kernel
theorem dX11_habits_41 : decode cX11_habits 41 = .ok (.iload 4, 2) := by decide +kernel
theorem dX11_habits_43 : decode cX11_habits 43 = .ok (.iconst 4, 1) := by decide +kernel
theorem dX11_habits_44 : decode cX11_habits 44 = .ok (.if_icmp .ge 49, 3) := by decide +kernel
theorem dX11_habits_47 : decode cX11_habits 47 = .ok (.aload_n 0, 1) := by decide +kernel
theorem dX11_habits_48 : decode cX11_habits 48 = .ok (.getfield 16, 3) := by decide +kernel
theorem dX11_habits_51 : decode cX11_habits 51 = .ok (.getfield 115, 3) := by decide +kernel
theorem dX11_habits_54 : decode cX11_habits 54 = .ok (.aload_n 0, 1) := by decide +kernel
theorem dX11_habits_55 : decode cX11_habits 55 = .ok (.getfield 16, 3) := by decide +kernel
theorem dX11_habits_58 : decode cX11_habits 58 = .ok (.invokevirtual 203, 3) := by decide +kernel
theorem dX11_habits_61 : decode cX11_habits 61 = .ok (.iload 4, 2) := by decide +kernel
theorem dX11_habits_63 : decode cX11_habits 63 = .ok (.iastore, 1) := by decide +kernel
theorem dX11_habits_64 : decode cX11_habits 64 = .ok (.aload_n 0, 1) := by decide +kernel
theorem dX11_habits_65 : decode cX11_habits 65 = .ok (.getfield 24, 3) := by decide +kernel
theorem dX11_habits_68 : decode cX11_habits 68 = .ok (.iload_n 1, 1) := by decide +kernel
theorem dX11_habits_69 : decode cX11_habits 69 = .ok (.aaload, 1) := by decide +kernel
theorem dX11_habits_70 : decode cX11_habits 70 = .ok (.aload_n 0, 1) := by decide +kernel
theorem dX11_habits_71 : decode cX11_habits 71 = .ok (.getfield 16, 3) := by decide +kernel
theorem dX11_habits_74 : decode cX11_habits 74 = .ok (.invokestatic 206, 3) := by decide +kernel
theorem dX11_habits_77 : decode cX11_habits 77 = .ok (.ifCond .eq 10, 3) := by decide +kernel
theorem dX11_habits_80 : decode cX11_habits 80 = .ok (.iload_n 3, 1) := by decide +kernel
theorem dX11_habits_81 : decode cX11_habits 81 = .ok (.iconst 1, 1) := by decide +kernel
theorem dX11_habits_82 : decode cX11_habits 82 = .ok (.iload 4, 2) := by decide +kernel
theorem dX11_habits_84 : decode cX11_habits 84 = .ok (.ishl, 1) := by decide +kernel
theorem dX11_habits_85 : decode cX11_habits 85 = .ok (.ior, 1) := by decide +kernel
theorem dX11_habits_86 : decode cX11_habits 86 = .ok (.istore_n 3, 1) := by decide +kernel
theorem dX11_habits_87 : decode cX11_habits 87 = .ok (.iinc 4 1, 3) := by decide +kernel
theorem dX11_habits_90 : decode cX11_habits 90 = .ok (.goto (-49), 3) := by decide +kernel
theorem dX11_habits_93 : decode cX11_habits 93 = .ok (.iload_n 3, 1) := by decide +kernel
theorem dX11_habits_94 : decode cX11_habits 94 = .ok (.ireturn, 1) := by decide +kernel
theorem dX11_two_0 : decode cX11_two 0 = .ok (.aload_n 0, 1) := by decide +kernel
theorem dX11_two_1 : decode cX11_two 1 = .ok (.getfield 12, 3) := by decide +kernel
theorem dX11_two_4 : decode cX11_two 4 = .ok (.getfield 175, 3) := by decide +kernel
theorem dX11_two_7 : decode cX11_two 7 = .ok (.ifCond .ne 6, 3) := by decide +kernel
theorem dX11_two_10 : decode cX11_two 10 = .ok (.bipush (-3), 2) := by decide +kernel
theorem dX11_two_12 : decode cX11_two 12 = .ok (.ireturn, 1) := by decide +kernel
theorem dX11_two_13 : decode cX11_two 13 = .ok (.iconst 0, 1) := by decide +kernel
theorem dX11_two_14 : decode cX11_two 14 = .ok (.istore_n 1, 1) := by decide +kernel
theorem dX11_two_15 : decode cX11_two 15 = .ok (.iload_n 1, 1) := by decide +kernel
theorem dX11_two_16 : decode cX11_two 16 = .ok (.iconst 2, 1) := by decide +kernel
theorem dX11_two_17 : decode cX11_two 17 = .ok (.if_icmp .ge 89, 3) := by decide +kernel
theorem dX11_two_20 : decode cX11_two 20 = .ok (.iconst 0, 1) := by decide +kernel
theorem dX11_two_21 : decode cX11_two 21 = .ok (.istore_n 2, 1) := by decide +kernel
theorem dX11_two_22 : decode cX11_two 22 = .ok (.iload_n 2, 1) := by decide +kernel
theorem dX11_two_23 : decode cX11_two 23 = .ok (.iconst 2, 1) := by decide +kernel
theorem dX11_two_24 : decode cX11_two 24 = .ok (.if_icmp .ge 76, 3) := by decide +kernel
theorem dX11_two_27 : decode cX11_two 27 = .ok (.aload_n 0, 1) := by decide +kernel
theorem dX11_two_28 : decode cX11_two 28 = .ok (.iconst 0, 1) := by decide +kernel
theorem dX11_two_29 : decode cX11_two 29 = .ok (.iload_n 1, 1) := by decide +kernel
theorem dX11_two_30 : decode cX11_two 30 = .ok (.iload_n 2, 1) := by decide +kernel
theorem dX11_two_31 : decode cX11_two 31 = .ok (.invokevirtual 210, 3) := by decide +kernel
theorem dX11_two_34 : decode cX11_two 34 = .ok (.aload_n 0, 1) := by decide +kernel
theorem dX11_two_35 : decode cX11_two 35 = .ok (.iconst 0, 1) := by decide +kernel
theorem dX11_two_36 : decode cX11_two 36 = .ok (.iconst 1, 1) := by decide +kernel
theorem dX11_two_37 : decode cX11_two 37 = .ok (.iload_n 1, 1) := by decide +kernel
theorem dX11_two_38 : decode cX11_two 38 = .ok (.isub, 1) := by decide +kernel
theorem dX11_two_39 : decode cX11_two 39 = .ok (.iload_n 2, 1) := by decide +kernel
theorem dX11_two_40 : decode cX11_two 40 = .ok (.invokevirtual 210, 3) := by decide +kernel
theorem dX11_two_43 : decode cX11_two 43 = .ok (.if_icmp .gt 7, 3) := by decide +kernel
theorem dX11_two_46 : decode cX11_two 46 = .ok (.iconst 1, 1) := by decide +kernel
theorem dX11_two_47 : decode cX11_two 47 = .ok (.goto 4, 3) := by decide +kernel
theorem dX11_two_50 : decode cX11_two 50 = .ok (.iconst 0, 1) := by decide +kernel
theorem dX11_two_51 : decode cX11_two 51 = .ok (.istore_n 3, 1) := by decide +kernel
theorem dX11_two_52 : decode cX11_two 52 = .ok (.aload_n 0, 1) := by decide +kernel
theorem dX11_two_53 : decode cX11_two 53 = .ok (.iconst 1, 1) := by decide +kernel
theorem dX11_two_54 : decode cX11_two 54 = .ok (.iload_n 1, 1) := by decide +kernel
theorem dX11_two_55 : decode cX11_two 55 = .ok (.iload_n 2, 1) := by decide +kernel
theorem dX11_two_56 : decode cX11_two 56 = .ok (.invokevirtual 210, 3) := by decide +kernel
theorem dX11_two_59 : decode cX11_two 59 = .ok (.aload_n 0, 1) := by decide +kernel
theorem dX11_two_60 : decode cX11_two 60 = .ok (.iconst 1, 1) := by decide +kernel
theorem dX11_two_61 : decode cX11_two 61 = .ok (.iload_n 1, 1) := by decide +kernel
theorem dX11_two_62 : decode cX11_two 62 = .ok (.iconst 1, 1) := by decide +kernel
theorem dX11_two_63 : decode cX11_two 63 = .ok (.iload_n 2, 1) := by decide +kernel
theorem dX11_two_64 : decode cX11_two 64 = .ok (.isub, 1) := by decide +kernel
theorem dX11_two_65 : decode cX11_two 65 = .ok (.invokevirtual 210, 3) := by decide +kernel
theorem dX11_two_68 : decode cX11_two 68 = .ok (.if_icmp .gt 7, 3) := by decide +kernel
theorem dX11_two_71 : decode cX11_two 71 = .ok (.iconst 1, 1) := by decide +kernel
theorem dX11_two_72 : decode cX11_two 72 = .ok (.goto 4, 3) := by decide +kernel
theorem dX11_two_75 : decode cX11_two 75 = .ok (.iconst 0, 1) := by decide +kernel
theorem dX11_two_76 : decode cX11_two 76 = .ok (.istore 4, 2) := by decide +kernel
theorem dX11_two_78 : decode cX11_two 78 = .ok (.iload_n 3, 1) := by decide +kernel
theorem dX11_two_79 : decode cX11_two 79 = .ok (.ifCond .eq 15, 3) := by decide +kernel
theorem dX11_two_82 : decode cX11_two 82 = .ok (.iload 4, 2) := by decide +kernel
theorem dX11_two_84 : decode cX11_two 84 = .ok (.ifCond .eq 10, 3) := by decide +kernel
theorem dX11_two_87 : decode cX11_two 87 = .ok (.bipush 10, 2) := by decide +kernel
theorem dX11_two_89 : decode cX11_two 89 = .ok (.iload_n 1, 1) := by decide +kernel
theorem dX11_two_90 : decode cX11_two 90 = .ok (.imul, 1) := by decide +kernel
theorem dX11_two_91 : decode cX11_two 91 = .ok (.iload_n 2, 1) := by decide +kernel
theorem dX11_two_92 : decode cX11_two 92 = .ok (.iadd, 1) := by decide +kernel
theorem dX11_two_93 : decode cX11_two 93 = .ok (.ireturn, 1) := by decide +kernel
theorem dX11_two_94 : decode cX11_two 94 = .ok (.iinc 2 1, 3) := by decide +kernel
theorem dX11_two_97 : decode cX11_two 97 = .ok (.goto (-75), 3) := by decide +kernel
theorem dX11_two_100 : decode cX11_two 100 = .ok (.iinc 1 1, 3) := by decide +kernel
theorem dX11_two_103 : decode cX11_two 103 = .ok (.goto (-88), 3) := by decide +kernel
theorem dX11_two_106 : decode cX11_two 106 = .ok (.bipush (-4), 2) := by decide +kernel
theorem dX11_two_108 : decode cX11_two 108 = .ok (.ireturn, 1) := by decide +kernel
theorem dX11_draughts_0 : decode cX11_draughts 0 = .ok (.iload_n 1, 1) := by decide +kernel
theorem dX11_draughts_1 : decode cX11_draughts 1 = .ok (.bipush 6, 2) := by decide +kernel
theorem dX11_draughts_3 : decode cX11_draughts 3 = .ok (.invokestatic 92, 3) := by decide +kernel
theorem dX11_draughts_6 : decode cX11_draughts 6 = .ok (.ifCond .eq 33, 3) := by decide +kernel
theorem dX11_draughts_9 : decode cX11_draughts 9 = .ok (.iload_n 1, 1) := by decide +kernel
theorem dX11_draughts_10 : decode cX11_draughts 10 = .ok (.aload_n 0, 1) := by decide +kernel
theorem dX11_draughts_11 : decode cX11_draughts 11 = .ok (.getfield 12, 3) := by decide +kernel
theorem dX11_draughts_14 : decode cX11_draughts 14 = .ok (.getfield 175, 3) := by decide +kernel
theorem dX11_draughts_17 : decode cX11_draughts 17 = .ok (.if_icmp .gt 22, 3) := by decide +kernel
theorem dX11_draughts_20 : decode cX11_draughts 20 = .ok (.iload_n 2, 1) := by decide +kernel
theorem dX11_draughts_21 : decode cX11_draughts 21 = .ok (.iconst 2, 1) := by decide +kernel
theorem dX11_draughts_22 : decode cX11_draughts 22 = .ok (.if_icmp .lt 17, 3) := by decide +kernel
theorem dX11_draughts_25 : decode cX11_draughts 25 = .ok (.iload_n 2, 1) := by decide +kernel
theorem dX11_draughts_26 : decode cX11_draughts 26 = .ok (.bipush 20, 2) := by decide +kernel
theorem dX11_draughts_28 : decode cX11_draughts 28 = .ok (.if_icmp .gt 11, 3) := by decide +kernel
theorem dX11_draughts_31 : decode cX11_draughts 31 = .ok (.iload_n 3, 1) := by decide +kernel
theorem dX11_draughts_32 : decode cX11_draughts 32 = .ok (.iconst 2, 1) := by decide +kernel
theorem dX11_draughts_33 : decode cX11_draughts 33 = .ok (.invokestatic 92, 3) := by decide +kernel
theorem dX11_draughts_36 : decode cX11_draughts 36 = .ok (.ifCond .ne 7, 3) := by decide +kernel
theorem dX11_draughts_39 : decode cX11_draughts 39 = .ok (.ldc2_w 213, 3) := by decide +kernel
theorem dX11_draughts_42 : decode cX11_draughts 42 = .ok (.lreturn, 1) := by decide +kernel
theorem dX11_draughts_43 : decode cX11_draughts 43 = .ok (.lconst 0, 1) := by decide +kernel
theorem dX11_draughts_44 : decode cX11_draughts 44 = .ok (.lstore 4, 2) := by decide +kernel
theorem dX11_draughts_46 : decode cX11_draughts 46 = .ok (.iconst 0, 1) := by decide +kernel
theorem dX11_draughts_47 : decode cX11_draughts 47 = .ok (.istore 6, 2) := by decide +kernel
theorem dX11_draughts_49 : decode cX11_draughts 49 = .ok (.iload 6, 2) := by decide +kernel
theorem dX11_draughts_51 : decode cX11_draughts 51 = .ok (.iconst 1, 1) := by decide +kernel
theorem dX11_draughts_52 : decode cX11_draughts 52 = .ok (.iload_n 1, 1) := by decide +kernel
theorem dX11_draughts_53 : decode cX11_draughts 53 = .ok (.ishl, 1) := by decide +kernel
theorem dX11_draughts_54 : decode cX11_draughts 54 = .ok (.if_icmp .ge 37, 3) := by decide +kernel
theorem dX11_draughts_57 : decode cX11_draughts 57 = .ok (.aload_n 0, 1) := by decide +kernel
theorem dX11_draughts_58 : decode cX11_draughts 58 = .ok (.iload_n 1, 1) := by decide +kernel
theorem dX11_draughts_59 : decode cX11_draughts 59 = .ok (.iload 6, 2) := by decide +kernel
theorem dX11_draughts_61 : decode cX11_draughts 61 = .ok (.invokevirtual 215, 3) := by decide +kernel
theorem dX11_draughts_64 : decode cX11_draughts 64 = .ok (.ifCond .eq 21, 3) := by decide +kernel
theorem dX11_draughts_67 : decode cX11_draughts 67 = .ok (.lload 4, 2) := by decide +kernel
theorem dX11_draughts_69 : decode cX11_draughts 69 = .ok (.iload_n 2, 1) := by decide +kernel
theorem dX11_draughts_70 : decode cX11_draughts 70 = .ok (.iconst 1, 1) := by decide +kernel
theorem dX11_draughts_71 : decode cX11_draughts 71 = .ok (.isub, 1) := by decide +kernel
theorem dX11_draughts_72 : decode cX11_draughts 72 = .ok (.iload_n 1, 1) := by decide +kernel
theorem dX11_draughts_73 : decode cX11_draughts 73 = .ok (.iload 6, 2) := by decide +kernel
theorem dX11_draughts_75 : decode cX11_draughts 75 = .ok (.invokestatic 218, 3) := by decide +kernel
theorem dX11_draughts_78 : decode cX11_draughts 78 = .ok (.isub, 1) := by decide +kernel
theorem dX11_draughts_79 : decode cX11_draughts 79 = .ok (.invokestatic 223, 3) := by decide +kernel
theorem dX11_draughts_82 : decode cX11_draughts 82 = .ok (.ladd, 1) := by decide +kernel
theorem dX11_draughts_83 : decode cX11_draughts 83 = .ok (.lstore 4, 2) := by decide +kernel
theorem dX11_draughts_85 : decode cX11_draughts 85 = .ok (.iinc 6 1, 3) := by decide +kernel
theorem dX11_draughts_88 : decode cX11_draughts 88 = .ok (.goto (-39), 3) := by decide +kernel
theorem dX11_draughts_91 : decode cX11_draughts 91 = .ok (.lload 4, 2) := by decide +kernel
theorem dX11_draughts_93 : decode cX11_draughts 93 = .ok (.iload_n 2, 1) := by decide +kernel
theorem dX11_draughts_94 : decode cX11_draughts 94 = .ok (.iload_n 1, 1) := by decide +kernel
theorem dX11_draughts_95 : decode cX11_draughts 95 = .ok (.invokestatic 223, 3) := by decide +kernel
theorem dX11_draughts_98 : decode cX11_draughts 98 = .ok (.iload_n 3, 1) := by decide +kernel
theorem dX11_draughts_99 : decode cX11_draughts 99 = .ok (.invokestatic 227, 3) := by decide +kernel
theorem dX11_draughts_102 : decode cX11_draughts 102 = .ok (.lreturn, 1) := by decide +kernel
theorem dX11_mean_0 : decode cX11_mean 0 = .ok (.iload_n 1, 1) := by decide +kernel
theorem dX11_mean_1 : decode cX11_mean 1 = .ok (.iconst 2, 1) := by decide +kernel
theorem dX11_mean_2 : decode cX11_mean 2 = .ok (.invokestatic 92, 3) := by decide +kernel
theorem dX11_mean_5 : decode cX11_mean 5 = .ok (.ifCond .eq 21, 3) := by decide +kernel
theorem dX11_mean_8 : decode cX11_mean 8 = .ok (.aload_n 0, 1) := by decide +kernel
theorem dX11_mean_9 : decode cX11_mean 9 = .ok (.getfield 12, 3) := by decide +kernel
theorem dX11_mean_12 : decode cX11_mean 12 = .ok (.invokevirtual 231, 3) := by decide +kernel
theorem dX11_mean_15 : decode cX11_mean 15 = .ok (.i2l, 1) := by decide +kernel
theorem dX11_mean_16 : decode cX11_mean 16 = .ok (.ldc2_w 234, 3) := by decide +kernel
theorem dX11_mean_19 : decode cX11_mean 19 = .ok (.iload_n 1, 1) := by decide +kernel
theorem dX11_mean_20 : decode cX11_mean 20 = .ok (.invokestatic 227, 3) := by decide +kernel
theorem dX11_mean_23 : decode cX11_mean 23 = .ok (.goto 6, 3) := by decide +kernel
theorem dX11_mean_26 : decode cX11_mean 26 = .ok (.ldc2_w 213, 3) := by decide +kernel
theorem dX11_mean_29 : decode cX11_mean 29 = .ok (.lreturn, 1) := by decide +kernel
theorem dX11_forged_0 : decode cX11_forged 0 = .ok (.aload_n 0, 1) := by decide +kernel
theorem dX11_forged_1 : decode cX11_forged 1 = .ok (.iload_n 1, 1) := by decide +kernel
theorem dX11_forged_2 : decode cX11_forged 2 = .ok (.invokevirtual 236, 3) := by decide +kernel
theorem dX11_forged_5 : decode cX11_forged 5 = .ok (.istore_n 2, 1) := by decide +kernel
theorem dX11_forged_6 : decode cX11_forged 6 = .ok (.iload_n 2, 1) := by decide +kernel
theorem dX11_forged_7 : decode cX11_forged 7 = .ok (.ifCond .eq 5, 3) := by decide +kernel
theorem dX11_forged_10 : decode cX11_forged 10 = .ok (.iload_n 2, 1) := by decide +kernel
theorem dX11_forged_11 : decode cX11_forged 11 = .ok (.ireturn, 1) := by decide +kernel
theorem dX11_forged_12 : decode cX11_forged 12 = .ok (.aload_n 0, 1) := by decide +kernel
theorem dX11_forged_13 : decode cX11_forged 13 = .ok (.getfield 24, 3) := by decide +kernel
theorem dX11_forged_16 : decode cX11_forged 16 = .ok (.iload_n 1, 1) := by decide +kernel
theorem dX11_forged_17 : decode cX11_forged 17 = .ok (.aaload, 1) := by decide +kernel
theorem dX11_forged_18 : decode cX11_forged 18 = .ok (.astore_n 3, 1) := by decide +kernel
theorem dX11_forged_19 : decode cX11_forged 19 = .ok (.aload_n 0, 1) := by decide +kernel
theorem dX11_forged_20 : decode cX11_forged 20 = .ok (.getfield 16, 3) := by decide +kernel
theorem dX11_forged_23 : decode cX11_forged 23 = .ok (.aload_n 0, 1) := by decide +kernel
theorem dX11_forged_24 : decode cX11_forged 24 = .ok (.getfield 12, 3) := by decide +kernel
theorem dX11_forged_27 : decode cX11_forged 27 = .ok (.invokevirtual 60, 3) := by decide +kernel
theorem dX11_forged_30 : decode cX11_forged 30 = .ok (.iconst 0, 1) := by decide +kernel
theorem dX11_forged_31 : decode cX11_forged 31 = .ok (.istore 4, 2) := by decide +kernel
theorem dX11_forged_33 : decode cX11_forged 33 = .ok (.iconst 0, 1) := by decide +kernel
theorem dX11_forged_34 : decode cX11_forged 34 = .ok (.istore 5, 2) := by decide +kernel
theorem dX11_forged_36 : decode cX11_forged 36 = .ok (.iload 5, 2) := by decide +kernel
theorem dX11_forged_38 : decode cX11_forged 38 = .ok (.aload_n 3, 1) := by decide +kernel
theorem dX11_forged_39 : decode cX11_forged 39 = .ok (.getfield 239, 3) := by decide +kernel
theorem dX11_forged_42 : decode cX11_forged 42 = .ok (.iconst 2, 1) := by decide +kernel
theorem dX11_forged_43 : decode cX11_forged 43 = .ok (.idiv, 1) := by decide +kernel
theorem dX11_forged_44 : decode cX11_forged 44 = .ok (.if_icmp .ge 76, 3) := by decide +kernel
theorem dX11_forged_47 : decode cX11_forged 47 = .ok (.iload 4, 2) := by decide +kernel
theorem dX11_forged_49 : decode cX11_forged 49 = .ok (.ifCond .ne 33, 3) := by decide +kernel
theorem dX11_forged_52 : decode cX11_forged 52 = .ok (.aload_n 0, 1) := by decide +kernel
theorem dX11_forged_53 : decode cX11_forged 53 = .ok (.getfield 12, 3) := by decide +kernel
theorem dX11_forged_56 : decode cX11_forged 56 = .ok (.aload_n 3, 1) := by decide +kernel
theorem dX11_forged_57 : decode cX11_forged 57 = .ok (.getfield 242, 3) := by decide +kernel
theorem dX11_forged_60 : decode cX11_forged 60 = .ok (.iconst 2, 1) := by decide +kernel
theorem dX11_forged_61 : decode cX11_forged 61 = .ok (.iload 5, 2) := by decide +kernel
theorem dX11_forged_63 : decode cX11_forged 63 = .ok (.imul, 1) := by decide +kernel
theorem dX11_forged_64 : decode cX11_forged 64 = .ok (.iaload, 1) := by decide +kernel
theorem dX11_forged_65 : decode cX11_forged 65 = .ok (.aload_n 3, 1) := by decide +kernel
theorem dX11_forged_66 : decode cX11_forged 66 = .ok (.getfield 242, 3) := by decide +kernel
theorem dX11_forged_69 : decode cX11_forged 69 = .ok (.iconst 2, 1) := by decide +kernel
theorem dX11_forged_70 : decode cX11_forged 70 = .ok (.iload 5, 2) := by decide +kernel
theorem dX11_forged_72 : decode cX11_forged 72 = .ok (.imul, 1) := by decide +kernel
theorem dX11_forged_73 : decode cX11_forged 73 = .ok (.iconst 1, 1) := by decide +kernel
theorem dX11_forged_74 : decode cX11_forged 74 = .ok (.iadd, 1) := by decide +kernel
theorem dX11_forged_75 : decode cX11_forged 75 = .ok (.iaload, 1) := by decide +kernel
theorem dX11_forged_76 : decode cX11_forged 76 = .ok (.invokevirtual 157, 3) := by decide +kernel
theorem dX11_forged_79 : decode cX11_forged 79 = .ok (.ifCond .ne 6, 3) := by decide +kernel
theorem dX11_forged_82 : decode cX11_forged 82 = .ok (.iload 5, 2) := by decide +kernel
theorem dX11_forged_84 : decode cX11_forged 84 = .ok (.ireturn, 1) := by decide +kernel
theorem dX11_forged_85 : decode cX11_forged 85 = .ok (.aload_n 0, 1) := by decide +kernel
theorem dX11_forged_86 : decode cX11_forged 86 = .ok (.getfield 16, 3) := by decide +kernel
theorem dX11_forged_89 : decode cX11_forged 89 = .ok (.aload_n 3, 1) := by decide +kernel
theorem dX11_forged_90 : decode cX11_forged 90 = .ok (.getfield 242, 3) := by decide +kernel
theorem dX11_forged_93 : decode cX11_forged 93 = .ok (.iconst 2, 1) := by decide +kernel
theorem dX11_forged_94 : decode cX11_forged 94 = .ok (.iload 5, 2) := by decide +kernel
theorem dX11_forged_96 : decode cX11_forged 96 = .ok (.imul, 1) := by decide +kernel
theorem dX11_forged_97 : decode cX11_forged 97 = .ok (.iaload, 1) := by decide +kernel
theorem dX11_forged_98 : decode cX11_forged 98 = .ok (.aload_n 3, 1) := by decide +kernel
theorem dX11_forged_99 : decode cX11_forged 99 = .ok (.getfield 242, 3) := by decide +kernel
theorem dX11_forged_102 : decode cX11_forged 102 = .ok (.iconst 2, 1) := by decide +kernel
theorem dX11_forged_103 : decode cX11_forged 103 = .ok (.iload 5, 2) := by decide +kernel
theorem dX11_forged_105 : decode cX11_forged 105 = .ok (.imul, 1) := by decide +kernel
theorem dX11_forged_106 : decode cX11_forged 106 = .ok (.iconst 1, 1) := by decide +kernel
theorem dX11_forged_107 : decode cX11_forged 107 = .ok (.iadd, 1) := by decide +kernel
theorem dX11_forged_108 : decode cX11_forged 108 = .ok (.iaload, 1) := by decide +kernel
theorem dX11_forged_109 : decode cX11_forged 109 = .ok (.invokevirtual 151, 3) := by decide +kernel
theorem dX11_forged_112 : decode cX11_forged 112 = .ok (.istore 4, 2) := by decide +kernel
theorem dX11_forged_114 : decode cX11_forged 114 = .ok (.iinc 5 1, 3) := by decide +kernel
theorem dX11_forged_117 : decode cX11_forged 117 = .ok (.goto (-81), 3) := by decide +kernel
theorem dX11_forged_120 : decode cX11_forged 120 = .ok (.bipush (-4), 2) := by decide +kernel
theorem dX11_forged_122 : decode cX11_forged 122 = .ok (.ireturn, 1) := by decide +kernel
theorem dX11_judge_0 : decode cX11_judge 0 = .ok (.aload_n 0, 1) := by decide +kernel
theorem dX11_judge_1 : decode cX11_judge 1 = .ok (.iload_n 1, 1) := by decide +kernel
theorem dX11_judge_2 : decode cX11_judge 2 = .ok (.iconst 1, 1) := by decide +kernel
theorem dX11_judge_3 : decode cX11_judge 3 = .ok (.invokevirtual 46, 3) := by decide +kernel
theorem dX11_judge_6 : decode cX11_judge 6 = .ok (.istore_n 2, 1) := by decide +kernel
theorem dX11_judge_7 : decode cX11_judge 7 = .ok (.iload_n 2, 1) := by decide +kernel
theorem dX11_judge_8 : decode cX11_judge 8 = .ok (.ifCond .eq 5, 3) := by decide +kernel
theorem dX11_judge_11 : decode cX11_judge 11 = .ok (.iload_n 2, 1) := by decide +kernel
theorem dX11_judge_12 : decode cX11_judge 12 = .ok (.ireturn, 1) := by decide +kernel
theorem dX11_judge_13 : decode cX11_judge 13 = .ok (.aload_n 0, 1) := by decide +kernel
theorem dX11_judge_14 : decode cX11_judge 14 = .ok (.getfield 12, 3) := by decide +kernel
theorem dX11_judge_17 : decode cX11_judge 17 = .ok (.getfield 175, 3) := by decide +kernel
theorem dX11_judge_20 : decode cX11_judge 20 = .ok (.ifCond .ne 6, 3) := by decide +kernel
theorem dX11_judge_23 : decode cX11_judge 23 = .ok (.bipush (-3), 2) := by decide +kernel
theorem dX11_judge_25 : decode cX11_judge 25 = .ok (.ireturn, 1) := by decide +kernel
theorem dX11_judge_26 : decode cX11_judge 26 = .ok (.aload_n 0, 1) := by decide +kernel
theorem dX11_judge_27 : decode cX11_judge 27 = .ok (.getfield 24, 3) := by decide +kernel
theorem dX11_judge_30 : decode cX11_judge 30 = .ok (.iload_n 1, 1) := by decide +kernel
theorem dX11_judge_31 : decode cX11_judge 31 = .ok (.aaload, 1) := by decide +kernel
theorem dX11_judge_32 : decode cX11_judge 32 = .ok (.astore_n 3, 1) := by decide +kernel
theorem dX11_judge_33 : decode cX11_judge 33 = .ok (.aload_n 0, 1) := by decide +kernel
theorem dX11_judge_34 : decode cX11_judge 34 = .ok (.getfield 16, 3) := by decide +kernel
theorem dX11_judge_37 : decode cX11_judge 37 = .ok (.aload_n 0, 1) := by decide +kernel
theorem dX11_judge_38 : decode cX11_judge 38 = .ok (.getfield 12, 3) := by decide +kernel
theorem dX11_judge_41 : decode cX11_judge 41 = .ok (.invokevirtual 60, 3) := by decide +kernel
theorem dX11_judge_44 : decode cX11_judge 44 = .ok (.iconst 0, 1) := by decide +kernel
theorem dX11_judge_45 : decode cX11_judge 45 = .ok (.istore 4, 2) := by decide +kernel
theorem dX11_judge_47 : decode cX11_judge 47 = .ok (.iload 4, 2) := by decide +kernel
theorem dX11_judge_49 : decode cX11_judge 49 = .ok (.aload_n 3, 1) := by decide +kernel
theorem dX11_judge_50 : decode cX11_judge 50 = .ok (.getfield 239, 3) := by decide +kernel
theorem dX11_judge_53 : decode cX11_judge 53 = .ok (.if_icmp .ge 61, 3) := by decide +kernel
theorem dX11_judge_56 : decode cX11_judge 56 = .ok (.iload 4, 2) := by decide +kernel
theorem dX11_judge_58 : decode cX11_judge 58 = .ok (.ifCond .le 19, 3) := by decide +kernel
theorem dX11_judge_61 : decode cX11_judge 61 = .ok (.aload_n 0, 1) := by decide +kernel
theorem dX11_judge_62 : decode cX11_judge 62 = .ok (.getfield 16, 3) := by decide +kernel
theorem dX11_judge_65 : decode cX11_judge 65 = .ok (.iconst 0, 1) := by decide +kernel
theorem dX11_judge_66 : decode cX11_judge 66 = .ok (.iload 4, 2) := by decide +kernel
theorem dX11_judge_68 : decode cX11_judge 68 = .ok (.iconst 1, 1) := by decide +kernel
theorem dX11_judge_69 : decode cX11_judge 69 = .ok (.isub, 1) := by decide +kernel
theorem dX11_judge_70 : decode cX11_judge 70 = .ok (.invokestatic 245, 3) := by decide +kernel
theorem dX11_judge_73 : decode cX11_judge 73 = .ok (.invokevirtual 151, 3) := by decide +kernel
theorem dX11_judge_76 : decode cX11_judge 76 = .ok (.pop, 1) := by decide +kernel
theorem dX11_judge_77 : decode cX11_judge 77 = .ok (.aload_n 3, 1) := by decide +kernel
theorem dX11_judge_78 : decode cX11_judge 78 = .ok (.iload 4, 2) := by decide +kernel
theorem dX11_judge_80 : decode cX11_judge 80 = .ok (.aload_n 0, 1) := by decide +kernel
theorem dX11_judge_81 : decode cX11_judge 81 = .ok (.getfield 16, 3) := by decide +kernel
theorem dX11_judge_84 : decode cX11_judge 84 = .ok (.getfield 118, 3) := by decide +kernel
theorem dX11_judge_87 : decode cX11_judge 87 = .ok (.iconst 0, 1) := by decide +kernel
theorem dX11_judge_88 : decode cX11_judge 88 = .ok (.iaload, 1) := by decide +kernel
theorem dX11_judge_89 : decode cX11_judge 89 = .ok (.aload_n 0, 1) := by decide +kernel
theorem dX11_judge_90 : decode cX11_judge 90 = .ok (.getfield 16, 3) := by decide +kernel
theorem dX11_judge_93 : decode cX11_judge 93 = .ok (.getfield 118, 3) := by decide +kernel
theorem dX11_judge_96 : decode cX11_judge 96 = .ok (.iconst 1, 1) := by decide +kernel
theorem dX11_judge_97 : decode cX11_judge 97 = .ok (.iaload, 1) := by decide +kernel
theorem dX11_judge_98 : decode cX11_judge 98 = .ok (.iadd, 1) := by decide +kernel
theorem dX11_judge_99 : decode cX11_judge 99 = .ok (.invokevirtual 248, 3) := by decide +kernel
theorem dX11_judge_102 : decode cX11_judge 102 = .ok (.ifCond .ne 6, 3) := by decide +kernel
theorem dX11_judge_105 : decode cX11_judge 105 = .ok (.iload 4, 2) := by decide +kernel
theorem dX11_judge_107 : decode cX11_judge 107 = .ok (.ireturn, 1) := by decide +kernel
theorem dX11_judge_108 : decode cX11_judge 108 = .ok (.iinc 4 1, 3) := by decide +kernel
theorem dX11_judge_111 : decode cX11_judge 111 = .ok (.goto (-64), 3) := by decide +kernel
theorem dX11_judge_114 : decode cX11_judge 114 = .ok (.bipush (-4), 2) := by decide +kernel
theorem dX11_judge_116 : decode cX11_judge 116 = .ok (.ireturn, 1) := by decide +kernel
theorem dX11_nights_0 : decode cX11_nights 0 = .ok (.iload_n 1, 1) := by decide +kernel
theorem dX11_nights_1 : decode cX11_nights 1 = .ok (.iconst 1, 1) := by decide +kernel
theorem dX11_nights_2 : decode cX11_nights 2 = .ok (.if_icmp .lt 17, 3) := by decide +kernel
theorem dX11_nights_5 : decode cX11_nights 5 = .ok (.iload_n 1, 1) := by decide +kernel
theorem dX11_nights_6 : decode cX11_nights 6 = .ok (.bipush 20, 2) := by decide +kernel
theorem dX11_nights_8 : decode cX11_nights 8 = .ok (.if_icmp .gt 11, 3) := by decide +kernel
theorem dX11_nights_11 : decode cX11_nights 11 = .ok (.iload_n 3, 1) := by decide +kernel
theorem dX11_nights_12 : decode cX11_nights 12 = .ok (.iconst 2, 1) := by decide +kernel
theorem dX11_nights_13 : decode cX11_nights 13 = .ok (.invokestatic 92, 3) := by decide +kernel
theorem dX11_nights_16 : decode cX11_nights 16 = .ok (.ifCond .ne 5, 3) := by decide +kernel
theorem dX11_nights_19 : decode cX11_nights 19 = .ok (.iconst (-1), 1) := by decide +kernel
theorem dX11_nights_20 : decode cX11_nights 20 = .ok (.ireturn, 1) := by decide +kernel
theorem dX11_nights_21 : decode cX11_nights 21 = .ok (.aload_n 0, 1) := by decide +kernel
theorem dX11_nights_22 : decode cX11_nights 22 = .ok (.getfield 12, 3) := by decide +kernel
theorem dX11_nights_25 : decode cX11_nights 25 = .ok (.getfield 175, 3) := by decide +kernel
theorem dX11_nights_28 : decode cX11_nights 28 = .ok (.ifCond .ne 6, 3) := by decide +kernel
theorem dX11_nights_31 : decode cX11_nights 31 = .ok (.bipush (-3), 2) := by decide +kernel
theorem dX11_nights_33 : decode cX11_nights 33 = .ok (.ireturn, 1) := by decide +kernel
theorem dX11_nights_34 : decode cX11_nights 34 = .ok (.aload_n 0, 1) := by decide +kernel
theorem dX11_nights_35 : decode cX11_nights 35 = .ok (.iload_n 2, 1) := by decide +kernel
theorem dX11_nights_36 : decode cX11_nights 36 = .ok (.putfield 251, 3) := by decide +kernel
theorem dX11_nights_39 : decode cX11_nights 39 = .ok (.iconst 0, 1) := by decide +kernel
theorem dX11_nights_40 : decode cX11_nights 40 = .ok (.istore 4, 2) := by decide +kernel
theorem dX11_nights_42 : decode cX11_nights 42 = .ok (.iconst 0, 1) := by decide +kernel
theorem dX11_nights_43 : decode cX11_nights 43 = .ok (.istore 5, 2) := by decide +kernel
theorem dX11_nights_45 : decode cX11_nights 45 = .ok (.iload 5, 2) := by decide +kernel
theorem dX11_nights_47 : decode cX11_nights 47 = .ok (.iload_n 1, 1) := by decide +kernel
theorem dX11_nights_48 : decode cX11_nights 48 = .ok (.if_icmp .ge 89, 3) := by decide +kernel
theorem dX11_nights_51 : decode cX11_nights 51 = .ok (.aload_n 0, 1) := by decide +kernel
theorem dX11_nights_52 : decode cX11_nights 52 = .ok (.getfield 16, 3) := by decide +kernel
theorem dX11_nights_55 : decode cX11_nights 55 = .ok (.aload_n 0, 1) := by decide +kernel
theorem dX11_nights_56 : decode cX11_nights 56 = .ok (.getfield 12, 3) := by decide +kernel
theorem dX11_nights_59 : decode cX11_nights 59 = .ok (.invokevirtual 60, 3) := by decide +kernel
theorem dX11_nights_62 : decode cX11_nights 62 = .ok (.iconst 0, 1) := by decide +kernel
theorem dX11_nights_63 : decode cX11_nights 63 = .ok (.istore 6, 2) := by decide +kernel
theorem dX11_nights_65 : decode cX11_nights 65 = .ok (.iload 6, 2) := by decide +kernel
theorem dX11_nights_67 : decode cX11_nights 67 = .ok (.bipush 12, 2) := by decide +kernel
theorem dX11_nights_69 : decode cX11_nights 69 = .ok (.if_icmp .ge 38, 3) := by decide +kernel
theorem dX11_nights_72 : decode cX11_nights 72 = .ok (.aload_n 0, 1) := by decide +kernel
theorem dX11_nights_73 : decode cX11_nights 73 = .ok (.aload_n 0, 1) := by decide +kernel
theorem dX11_nights_74 : decode cX11_nights 74 = .ok (.getfield 12, 3) := by decide +kernel
theorem dX11_nights_77 : decode cX11_nights 77 = .ok (.getfield 175, 3) := by decide +kernel
theorem dX11_nights_80 : decode cX11_nights 80 = .ok (.invokevirtual 254, 3) := by decide +kernel
theorem dX11_nights_83 : decode cX11_nights 83 = .ok (.istore 7, 2) := by decide +kernel
theorem dX11_nights_85 : decode cX11_nights 85 = .ok (.aload_n 0, 1) := by decide +kernel
theorem dX11_nights_86 : decode cX11_nights 86 = .ok (.getfield 16, 3) := by decide +kernel
theorem dX11_nights_89 : decode cX11_nights 89 = .ok (.iload 7, 2) := by decide +kernel
theorem dX11_nights_91 : decode cX11_nights 91 = .ok (.aload_n 0, 1) := by decide +kernel
theorem dX11_nights_92 : decode cX11_nights 92 = .ok (.bipush 9, 2) := by decide +kernel
theorem dX11_nights_94 : decode cX11_nights 94 = .ok (.invokevirtual 254, 3) := by decide +kernel
theorem dX11_nights_97 : decode cX11_nights 97 = .ok (.invokevirtual 151, 3) := by decide +kernel
theorem dX11_nights_100 : decode cX11_nights 100 = .ok (.pop, 1) := by decide +kernel
theorem dX11_nights_101 : decode cX11_nights 101 = .ok (.iinc 6 1, 3) := by decide +kernel
theorem dX11_nights_104 : decode cX11_nights 104 = .ok (.goto (-39), 3) := by decide +kernel
theorem dX11_nights_107 : decode cX11_nights 107 = .ok (.iload 4, 2) := by decide +kernel
theorem dX11_nights_109 : decode cX11_nights 109 = .ok (.aload_n 0, 1) := by decide +kernel
theorem dX11_nights_110 : decode cX11_nights 110 = .ok (.getfield 16, 3) := by decide +kernel
theorem dX11_nights_113 : decode cX11_nights 113 = .ok (.getfield 118, 3) := by decide +kernel
theorem dX11_nights_116 : decode cX11_nights 116 = .ok (.iload_n 3, 1) := by decide +kernel
theorem dX11_nights_117 : decode cX11_nights 117 = .ok (.iaload, 1) := by decide +kernel
theorem dX11_nights_118 : decode cX11_nights 118 = .ok (.aload_n 0, 1) := by decide +kernel
theorem dX11_nights_119 : decode cX11_nights 119 = .ok (.getfield 12, 3) := by decide +kernel
theorem dX11_nights_122 : decode cX11_nights 122 = .ok (.getfield 118, 3) := by decide +kernel
theorem dX11_nights_125 : decode cX11_nights 125 = .ok (.iload_n 3, 1) := by decide +kernel
theorem dX11_nights_126 : decode cX11_nights 126 = .ok (.iaload, 1) := by decide +kernel
theorem dX11_nights_127 : decode cX11_nights 127 = .ok (.isub, 1) := by decide +kernel
theorem dX11_nights_128 : decode cX11_nights 128 = .ok (.iadd, 1) := by decide +kernel
theorem dX11_nights_129 : decode cX11_nights 129 = .ok (.istore 4, 2) := by decide +kernel
theorem dX11_nights_131 : decode cX11_nights 131 = .ok (.iinc 5 1, 3) := by decide +kernel
theorem dX11_nights_134 : decode cX11_nights 134 = .ok (.goto (-89), 3) := by decide +kernel
theorem dX11_nights_137 : decode cX11_nights 137 = .ok (.iload 4, 2) := by decide +kernel
theorem dX11_nights_139 : decode cX11_nights 139 = .ok (.ireturn, 1) := by decide +kernel
theorem dX11_image_0 : decode cX11_image 0 = .ok (.aload_n 0, 1) := by decide +kernel
theorem dX11_image_1 : decode cX11_image 1 = .ok (.getfield 19, 3) := by decide +kernel
theorem dX11_image_4 : decode cX11_image 4 = .ok (.aload_n 0, 1) := by decide +kernel
theorem dX11_image_5 : decode cX11_image 5 = .ok (.getfield 12, 3) := by decide +kernel
theorem dX11_image_8 : decode cX11_image 8 = .ok (.invokevirtual 60, 3) := by decide +kernel
theorem dX11_image_11 : decode cX11_image 11 = .ok (.aload_n 0, 1) := by decide +kernel
theorem dX11_image_12 : decode cX11_image 12 = .ok (.iconst 1, 1) := by decide +kernel
theorem dX11_image_13 : decode cX11_image 13 = .ok (.putfield 257, 3) := by decide +kernel
theorem dX11_image_16 : decode cX11_image 16 = .ok (.aload_n 0, 1) := by decide +kernel
theorem dX11_image_17 : decode cX11_image 17 = .ok (.getfield 12, 3) := by decide +kernel
theorem dX11_image_20 : decode cX11_image 20 = .ok (.getfield 261, 3) := by decide +kernel
theorem dX11_image_23 : decode cX11_image 23 = .ok (.ireturn, 1) := by decide +kernel
theorem dX11_restore_0 : decode cX11_restore 0 = .ok (.aload_n 0, 1) := by decide +kernel
theorem dX11_restore_1 : decode cX11_restore 1 = .ok (.getfield 257, 3) := by decide +kernel
theorem dX11_restore_4 : decode cX11_restore 4 = .ok (.ifCond .ne 6, 3) := by decide +kernel
theorem dX11_restore_7 : decode cX11_restore 7 = .ok (.bipush (-3), 2) := by decide +kernel
theorem dX11_restore_9 : decode cX11_restore 9 = .ok (.ireturn, 1) := by decide +kernel
theorem dX11_restore_10 : decode cX11_restore 10 = .ok (.aload_n 0, 1) := by decide +kernel
theorem dX11_restore_11 : decode cX11_restore 11 = .ok (.getfield 12, 3) := by decide +kernel
theorem dX11_restore_14 : decode cX11_restore 14 = .ok (.aload_n 0, 1) := by decide +kernel
theorem dX11_restore_15 : decode cX11_restore 15 = .ok (.getfield 19, 3) := by decide +kernel
theorem dX11_restore_18 : decode cX11_restore 18 = .ok (.invokevirtual 60, 3) := by decide +kernel
theorem dX11_restore_21 : decode cX11_restore 21 = .ok (.aload_n 0, 1) := by decide +kernel
theorem dX11_restore_22 : decode cX11_restore 22 = .ok (.getfield 12, 3) := by decide +kernel
theorem dX11_restore_25 : decode cX11_restore 25 = .ok (.getfield 261, 3) := by decide +kernel
theorem dX11_restore_28 : decode cX11_restore 28 = .ok (.ireturn, 1) := by decide +kernel
theorem dX11_count_0 : decode cX11_count 0 = .ok (.iload_n 1, 1) := by decide +kernel
theorem dX11_count_1 : decode cX11_count 1 = .ok (.tableswitch 89 0 5 #[39, 47, 55, 63, 73, 81], 39) := by decide +kernel
theorem dX11_count_40 : decode cX11_count 40 = .ok (.aload_n 0, 1) := by decide +kernel
theorem dX11_count_41 : decode cX11_count 41 = .ok (.getfield 12, 3) := by decide +kernel
theorem dX11_count_44 : decode cX11_count 44 = .ok (.getfield 175, 3) := by decide +kernel
theorem dX11_count_47 : decode cX11_count 47 = .ok (.ireturn, 1) := by decide +kernel
theorem dX11_count_48 : decode cX11_count 48 = .ok (.aload_n 0, 1) := by decide +kernel
theorem dX11_count_49 : decode cX11_count 49 = .ok (.getfield 12, 3) := by decide +kernel
theorem dX11_count_52 : decode cX11_count 52 = .ok (.getfield 261, 3) := by decide +kernel
theorem dX11_count_55 : decode cX11_count 55 = .ok (.ireturn, 1) := by decide +kernel
theorem dX11_count_56 : decode cX11_count 56 = .ok (.aload_n 0, 1) := by decide +kernel
theorem dX11_count_57 : decode cX11_count 57 = .ok (.getfield 12, 3) := by decide +kernel
theorem dX11_count_60 : decode cX11_count 60 = .ok (.getfield 154, 3) := by decide +kernel
theorem dX11_count_63 : decode cX11_count 63 = .ok (.ireturn, 1) := by decide +kernel
theorem dX11_count_64 : decode cX11_count 64 = .ok (.aload_n 0, 1) := by decide +kernel
theorem dX11_count_65 : decode cX11_count 65 = .ok (.getfield 12, 3) := by decide +kernel
theorem dX11_count_68 : decode cX11_count 68 = .ok (.getfield 264, 3) := by decide +kernel
theorem dX11_count_71 : decode cX11_count 71 = .ok (.iconst 1, 1) := by decide +kernel
theorem dX11_count_72 : decode cX11_count 72 = .ok (.iadd, 1) := by decide +kernel
theorem dX11_count_73 : decode cX11_count 73 = .ok (.ireturn, 1) := by decide +kernel
theorem dX11_count_74 : decode cX11_count 74 = .ok (.aload_n 0, 1) := by decide +kernel
theorem dX11_count_75 : decode cX11_count 75 = .ok (.getfield 12, 3) := by decide +kernel
theorem dX11_count_78 : decode cX11_count 78 = .ok (.invokevirtual 231, 3) := by decide +kernel
theorem dX11_count_81 : decode cX11_count 81 = .ok (.ireturn, 1) := by decide +kernel
theorem dX11_count_82 : decode cX11_count 82 = .ok (.aload_n 0, 1) := by decide +kernel
theorem dX11_count_83 : decode cX11_count 83 = .ok (.getfield 12, 3) := by decide +kernel
theorem dX11_count_86 : decode cX11_count 86 = .ok (.invokevirtual 267, 3) := by decide +kernel
theorem dX11_count_89 : decode cX11_count 89 = .ok (.ireturn, 1) := by decide +kernel
theorem dX11_count_90 : decode cX11_count 90 = .ok (.iconst (-1), 1) := by decide +kernel
theorem dX11_count_91 : decode cX11_count 91 = .ok (.ireturn, 1) := by decide +kernel
theorem dX11_keep_0 : decode cX11_keep 0 = .ok (.iload_n 1, 1) := by decide +kernel
theorem dX11_keep_1 : decode cX11_keep 1 = .ok (.bipush 8, 2) := by decide +kernel
theorem dX11_keep_3 : decode cX11_keep 3 = .ok (.invokestatic 92, 3) := by decide +kernel
theorem dX11_keep_6 : decode cX11_keep 6 = .ok (.ifCond .eq 11, 3) := by decide +kernel
theorem dX11_keep_9 : decode cX11_keep 9 = .ok (.iload_n 2, 1) := by decide +kernel
theorem dX11_keep_10 : decode cX11_keep 10 = .ok (.iconst 2, 1) := by decide +kernel
theorem dX11_keep_11 : decode cX11_keep 11 = .ok (.invokestatic 92, 3) := by decide +kernel
theorem dX11_keep_14 : decode cX11_keep 14 = .ok (.ifCond .ne 5, 3) := by decide +kernel
theorem dX11_keep_17 : decode cX11_keep 17 = .ok (.iconst (-1), 1) := by decide +kernel
theorem dX11_keep_18 : decode cX11_keep 18 = .ok (.ireturn, 1) := by decide +kernel
theorem dX11_keep_19 : decode cX11_keep 19 = .ok (.iload_n 2, 1) := by decide +kernel
theorem dX11_keep_20 : decode cX11_keep 20 = .ok (.ifCond .ne 14, 3) := by decide +kernel
theorem dX11_keep_23 : decode cX11_keep 23 = .ok (.aload_n 0, 1) := by decide +kernel
theorem dX11_keep_24 : decode cX11_keep 24 = .ok (.getfield 24, 3) := by decide +kernel
theorem dX11_keep_27 : decode cX11_keep 27 = .ok (.iload_n 1, 1) := by decide +kernel
theorem dX11_keep_28 : decode cX11_keep 28 = .ok (.aaload, 1) := by decide +kernel
theorem dX11_keep_29 : decode cX11_keep 29 = .ok (.invokevirtual 270, 3) := by decide +kernel
theorem dX11_keep_32 : decode cX11_keep 32 = .ok (.iconst 0, 1) := by decide +kernel
theorem dX11_keep_33 : decode cX11_keep 33 = .ok (.ireturn, 1) := by decide +kernel
theorem dX11_keep_34 : decode cX11_keep 34 = .ok (.iload_n 3, 1) := by decide +kernel
theorem dX11_keep_35 : decode cX11_keep 35 = .ok (.bipush 8, 2) := by decide +kernel
theorem dX11_keep_37 : decode cX11_keep 37 = .ok (.invokestatic 92, 3) := by decide +kernel
theorem dX11_keep_40 : decode cX11_keep 40 = .ok (.ifCond .eq 13, 3) := by decide +kernel
theorem dX11_keep_43 : decode cX11_keep 43 = .ok (.iload 4, 2) := by decide +kernel
theorem dX11_keep_45 : decode cX11_keep 45 = .ok (.bipush 10, 2) := by decide +kernel
theorem dX11_keep_47 : decode cX11_keep 47 = .ok (.invokestatic 92, 3) := by decide +kernel
theorem dX11_keep_50 : decode cX11_keep 50 = .ok (.ifCond .ne 5, 3) := by decide +kernel
theorem dX11_keep_53 : decode cX11_keep 53 = .ok (.iconst (-1), 1) := by decide +kernel
theorem dX11_keep_54 : decode cX11_keep 54 = .ok (.ireturn, 1) := by decide +kernel
theorem dX11_keep_55 : decode cX11_keep 55 = .ok (.aload_n 0, 1) := by decide +kernel
theorem dX11_keep_56 : decode cX11_keep 56 = .ok (.getfield 24, 3) := by decide +kernel
theorem dX11_keep_59 : decode cX11_keep 59 = .ok (.iload_n 1, 1) := by decide +kernel
theorem dX11_keep_60 : decode cX11_keep 60 = .ok (.aaload, 1) := by decide +kernel
theorem dX11_keep_61 : decode cX11_keep 61 = .ok (.iload_n 3, 1) := by decide +kernel
theorem dX11_keep_62 : decode cX11_keep 62 = .ok (.iload 4, 2) := by decide +kernel
theorem dX11_keep_64 : decode cX11_keep 64 = .ok (.invokestatic 42, 3) := by decide +kernel
theorem dX11_keep_67 : decode cX11_keep 67 = .ok (.invokevirtual 273, 3) := by decide +kernel
theorem dX11_keep_70 : decode cX11_keep 70 = .ok (.iconst 0, 1) := by decide +kernel
theorem dX11_keep_71 : decode cX11_keep 71 = .ok (.ireturn, 1) := by decide +kernel
theorem dX11_row_0 : decode cX11_row 0 = .ok (.iload_n 1, 1) := by decide +kernel
theorem dX11_row_1 : decode cX11_row 1 = .ok (.bipush 8, 2) := by decide +kernel
theorem dX11_row_3 : decode cX11_row 3 = .ok (.invokestatic 92, 3) := by decide +kernel
theorem dX11_row_6 : decode cX11_row 6 = .ok (.ifCond .eq 17, 3) := by decide +kernel
theorem dX11_row_9 : decode cX11_row 9 = .ok (.iload_n 2, 1) := by decide +kernel
theorem dX11_row_10 : decode cX11_row 10 = .ok (.iconst 3, 1) := by decide +kernel
theorem dX11_row_11 : decode cX11_row 11 = .ok (.invokestatic 92, 3) := by decide +kernel
theorem dX11_row_14 : decode cX11_row 14 = .ok (.ifCond .eq 9, 3) := by decide +kernel
theorem dX11_row_17 : decode cX11_row 17 = .ok (.iload_n 3, 1) := by decide +kernel
theorem dX11_row_18 : decode cX11_row 18 = .ok (.bipush 100, 2) := by decide +kernel
theorem dX11_row_20 : decode cX11_row 20 = .ok (.if_icmp .le 5, 3) := by decide +kernel
theorem dX11_row_23 : decode cX11_row 23 = .ok (.iconst (-1), 1) := by decide +kernel
theorem dX11_row_24 : decode cX11_row 24 = .ok (.ireturn, 1) := by decide +kernel
theorem dX11_row_25 : decode cX11_row 25 = .ok (.iload_n 3, 1) := by decide +kernel
theorem dX11_row_26 : decode cX11_row 26 = .ok (.ifCond .ge 6, 3) := by decide +kernel
theorem dX11_row_29 : decode cX11_row 29 = .ok (.bipush (-14), 2) := by decide +kernel
theorem dX11_row_31 : decode cX11_row 31 = .ok (.ireturn, 1) := by decide +kernel
theorem dX11_row_32 : decode cX11_row 32 = .ok (.aload_n 0, 1) := by decide +kernel
theorem dX11_row_33 : decode cX11_row 33 = .ok (.getfield 24, 3) := by decide +kernel
theorem dX11_row_36 : decode cX11_row 36 = .ok (.iload_n 1, 1) := by decide +kernel
theorem dX11_row_37 : decode cX11_row 37 = .ok (.aaload, 1) := by decide +kernel
theorem dX11_row_38 : decode cX11_row 38 = .ok (.iload_n 2, 1) := by decide +kernel
theorem dX11_row_39 : decode cX11_row 39 = .ok (.iload_n 3, 1) := by decide +kernel
theorem dX11_row_40 : decode cX11_row 40 = .ok (.invokevirtual 277, 3) := by decide +kernel
theorem dX11_row_43 : decode cX11_row 43 = .ok (.iconst 0, 1) := by decide +kernel
theorem dX11_row_44 : decode cX11_row 44 = .ok (.ireturn, 1) := by decide +kernel
theorem dX11_put_0 : decode cX11_put 0 = .ok (.aload_n 0, 1) := by decide +kernel
theorem dX11_put_1 : decode cX11_put 1 = .ok (.iload_n 1, 1) := by decide +kernel
theorem dX11_put_2 : decode cX11_put 2 = .ok (.iconst 1, 1) := by decide +kernel
theorem dX11_put_3 : decode cX11_put 3 = .ok (.invokevirtual 46, 3) := by decide +kernel
theorem dX11_put_6 : decode cX11_put 6 = .ok (.istore 4, 2) := by decide +kernel
theorem dX11_put_8 : decode cX11_put 8 = .ok (.iload 4, 2) := by decide +kernel
theorem dX11_put_10 : decode cX11_put 10 = .ok (.ifCond .eq 6, 3) := by decide +kernel
theorem dX11_put_13 : decode cX11_put 13 = .ok (.iload 4, 2) := by decide +kernel
theorem dX11_put_15 : decode cX11_put 15 = .ok (.ireturn, 1) := by decide +kernel
theorem dX11_put_16 : decode cX11_put 16 = .ok (.aload_n 0, 1) := by decide +kernel
theorem dX11_put_17 : decode cX11_put 17 = .ok (.getfield 24, 3) := by decide +kernel
theorem dX11_put_20 : decode cX11_put 20 = .ok (.iload_n 1, 1) := by decide +kernel
theorem dX11_put_21 : decode cX11_put 21 = .ok (.aaload, 1) := by decide +kernel
theorem dX11_put_22 : decode cX11_put 22 = .ok (.astore 5, 2) := by decide +kernel
theorem dX11_put_24 : decode cX11_put 24 = .ok (.iload_n 2, 1) := by decide +kernel
theorem dX11_put_25 : decode cX11_put 25 = .ok (.aload 5, 2) := by decide +kernel
theorem dX11_put_27 : decode cX11_put 27 = .ok (.getfield 239, 3) := by decide +kernel
theorem dX11_put_30 : decode cX11_put 30 = .ok (.invokestatic 92, 3) := by decide +kernel
theorem dX11_put_33 : decode cX11_put 33 = .ok (.ifCond .ne 6, 3) := by decide +kernel
theorem dX11_put_36 : decode cX11_put 36 = .ok (.bipush (-13), 2) := by decide +kernel
theorem dX11_put_38 : decode cX11_put 38 = .ok (.ireturn, 1) := by decide +kernel
theorem dX11_put_39 : decode cX11_put 39 = .ok (.aload 5, 2) := by decide +kernel
theorem dX11_put_41 : decode cX11_put 41 = .ok (.getfield 242, 3) := by decide +kernel
theorem dX11_put_44 : decode cX11_put 44 = .ok (.iload_n 2, 1) := by decide +kernel
theorem dX11_put_45 : decode cX11_put 45 = .ok (.aload 5, 2) := by decide +kernel
theorem dX11_put_47 : decode cX11_put 47 = .ok (.iload_n 3, 1) := by decide +kernel
theorem dX11_put_48 : decode cX11_put 48 = .ok (.invokevirtual 281, 3) := by decide +kernel
theorem dX11_put_51 : decode cX11_put 51 = .ok (.iastore, 1) := by decide +kernel
theorem dX11_put_52 : decode cX11_put 52 = .ok (.iconst 0, 1) := by decide +kernel
theorem dX11_put_53 : decode cX11_put 53 = .ok (.ireturn, 1) := by decide +kernel
theorem dX11_element_0 : decode cX11_element 0 = .ok (.iload_n 1, 1) := by decide +kernel
theorem dX11_element_1 : decode cX11_element 1 = .ok (.bipush 8, 2) := by decide +kernel
theorem dX11_element_3 : decode cX11_element 3 = .ok (.invokestatic 92, 3) := by decide +kernel
theorem dX11_element_6 : decode cX11_element 6 = .ok (.ifCond .ne 14, 3) := by decide +kernel
theorem dX11_element_9 : decode cX11_element 9 = .ok (.new 284, 3) := by decide +kernel
theorem dX11_element_12 : decode cX11_element 12 = .ok (.dup, 1) := by decide +kernel
theorem dX11_element_13 : decode cX11_element 13 = .ok (.ldc_w 286, 3) := by decide +kernel
theorem dX11_element_16 : decode cX11_element 16 = .ok (.invokespecial 288, 3) := by decide +kernel
theorem dX11_element_19 : decode cX11_element 19 = .ok (.athrow, 1) := by decide +kernel
theorem dX11_element_20 : decode cX11_element 20 = .ok (.aload_n 0, 1) := by decide +kernel
theorem dX11_element_21 : decode cX11_element 21 = .ok (.getfield 24, 3) := by decide +kernel
theorem dX11_element_24 : decode cX11_element 24 = .ok (.iload_n 1, 1) := by decide +kernel
theorem dX11_element_25 : decode cX11_element 25 = .ok (.aaload, 1) := by decide +kernel
theorem dX11_element_26 : decode cX11_element 26 = .ok (.astore_n 3, 1) := by decide +kernel
theorem dX11_element_27 : decode cX11_element 27 = .ok (.aload_n 3, 1) := by decide +kernel
theorem dX11_element_28 : decode cX11_element 28 = .ok (.invokevirtual 291, 3) := by decide +kernel
theorem dX11_element_31 : decode cX11_element 31 = .ok (.ifCond .eq 14, 3) := by decide +kernel
theorem dX11_element_34 : decode cX11_element 34 = .ok (.iload_n 2, 1) := by decide +kernel
theorem dX11_element_35 : decode cX11_element 35 = .ok (.aload_n 3, 1) := by decide +kernel
theorem dX11_element_36 : decode cX11_element 36 = .ok (.getfield 239, 3) := by decide +kernel
theorem dX11_element_39 : decode cX11_element 39 = .ok (.invokestatic 92, 3) := by decide +kernel
theorem dX11_element_42 : decode cX11_element 42 = .ok (.ifCond .ne 14, 3) := by decide +kernel
theorem dX11_element_45 : decode cX11_element 45 = .ok (.new 295, 3) := by decide +kernel
theorem dX11_element_48 : decode cX11_element 48 = .ok (.dup, 1) := by decide +kernel
theorem dX11_element_49 : decode cX11_element 49 = .ok (.ldc_w 297, 3) := by decide +kernel
theorem dX11_element_52 : decode cX11_element 52 = .ok (.invokespecial 299, 3) := by decide +kernel
theorem dX11_element_55 : decode cX11_element 55 = .ok (.athrow, 1) := by decide +kernel
theorem dX11_element_56 : decode cX11_element 56 = .ok (.aload_n 3, 1) := by decide +kernel
theorem dX11_element_57 : decode cX11_element 57 = .ok (.getfield 242, 3) := by decide +kernel
theorem dX11_element_60 : decode cX11_element 60 = .ok (.iload_n 2, 1) := by decide +kernel
theorem dX11_element_61 : decode cX11_element 61 = .ok (.iaload, 1) := by decide +kernel
theorem dX11_element_62 : decode cX11_element 62 = .ok (.i2l, 1) := by decide +kernel
theorem dX11_element_63 : decode cX11_element 63 = .ok (.lreturn, 1) := by decide +kernel
theorem dX11_copy_0 : decode cX11_copy 0 = .ok (.iload_n 1, 1) := by decide +kernel
theorem dX11_copy_1 : decode cX11_copy 1 = .ok (.bipush 8, 2) := by decide +kernel
theorem dX11_copy_3 : decode cX11_copy 3 = .ok (.invokestatic 92, 3) := by decide +kernel
theorem dX11_copy_6 : decode cX11_copy 6 = .ok (.ifCond .eq 12, 3) := by decide +kernel
theorem dX11_copy_9 : decode cX11_copy 9 = .ok (.iload_n 3, 1) := by decide +kernel
theorem dX11_copy_10 : decode cX11_copy 10 = .ok (.bipush 8, 2) := by decide +kernel
theorem dX11_copy_12 : decode cX11_copy 12 = .ok (.invokestatic 92, 3) := by decide +kernel
theorem dX11_copy_15 : decode cX11_copy 15 = .ok (.ifCond .ne 5, 3) := by decide +kernel
theorem dX11_copy_18 : decode cX11_copy 18 = .ok (.iconst (-1), 1) := by decide +kernel
theorem dX11_copy_19 : decode cX11_copy 19 = .ok (.ireturn, 1) := by decide +kernel
theorem dX11_copy_20 : decode cX11_copy 20 = .ok (.aload_n 0, 1) := by decide +kernel
theorem dX11_copy_21 : decode cX11_copy 21 = .ok (.getfield 24, 3) := by decide +kernel
theorem dX11_copy_24 : decode cX11_copy 24 = .ok (.iload_n 1, 1) := by decide +kernel
theorem dX11_copy_25 : decode cX11_copy 25 = .ok (.aaload, 1) := by decide +kernel
theorem dX11_copy_26 : decode cX11_copy 26 = .ok (.astore 6, 2) := by decide +kernel
theorem dX11_copy_28 : decode cX11_copy 28 = .ok (.aload_n 0, 1) := by decide +kernel
theorem dX11_copy_29 : decode cX11_copy 29 = .ok (.getfield 24, 3) := by decide +kernel
theorem dX11_copy_32 : decode cX11_copy 32 = .ok (.iload_n 3, 1) := by decide +kernel
theorem dX11_copy_33 : decode cX11_copy 33 = .ok (.aaload, 1) := by decide +kernel
theorem dX11_copy_34 : decode cX11_copy 34 = .ok (.astore 7, 2) := by decide +kernel
theorem dX11_copy_36 : decode cX11_copy 36 = .ok (.aload 6, 2) := by decide +kernel
theorem dX11_copy_38 : decode cX11_copy 38 = .ok (.invokevirtual 300, 3) := by decide +kernel
theorem dX11_copy_41 : decode cX11_copy 41 = .ok (.ifCond .ne 11, 3) := by decide +kernel
theorem dX11_copy_44 : decode cX11_copy 44 = .ok (.aload 7, 2) := by decide +kernel
theorem dX11_copy_46 : decode cX11_copy 46 = .ok (.invokevirtual 300, 3) := by decide +kernel
theorem dX11_copy_49 : decode cX11_copy 49 = .ok (.ifCond .eq 6, 3) := by decide +kernel
theorem dX11_copy_52 : decode cX11_copy 52 = .ok (.bipush (-11), 2) := by decide +kernel
theorem dX11_copy_54 : decode cX11_copy 54 = .ok (.ireturn, 1) := by decide +kernel
theorem dX11_copy_55 : decode cX11_copy 55 = .ok (.aload 6, 2) := by decide +kernel
theorem dX11_copy_57 : decode cX11_copy 57 = .ok (.invokevirtual 291, 3) := by decide +kernel
theorem dX11_copy_60 : decode cX11_copy 60 = .ok (.ifCond .eq 16, 3) := by decide +kernel
theorem dX11_copy_63 : decode cX11_copy 63 = .ok (.aload 6, 2) := by decide +kernel
theorem dX11_copy_65 : decode cX11_copy 65 = .ok (.getfield 50, 3) := by decide +kernel
theorem dX11_copy_68 : decode cX11_copy 68 = .ok (.aload 7, 2) := by decide +kernel
theorem dX11_copy_70 : decode cX11_copy 70 = .ok (.getfield 50, 3) := by decide +kernel
theorem dX11_copy_73 : decode cX11_copy 73 = .ok (.if_icmp .eq 6, 3) := by decide +kernel
theorem dX11_copy_76 : decode cX11_copy 76 = .ok (.bipush (-12), 2) := by decide +kernel
theorem dX11_copy_78 : decode cX11_copy 78 = .ok (.ireturn, 1) := by decide +kernel
theorem dX11_copy_79 : decode cX11_copy 79 = .ok (.aload 6, 2) := by decide +kernel
theorem dX11_copy_81 : decode cX11_copy 81 = .ok (.iload_n 2, 1) := by decide +kernel
theorem dX11_copy_82 : decode cX11_copy 82 = .ok (.iload 5, 2) := by decide +kernel
theorem dX11_copy_84 : decode cX11_copy 84 = .ok (.invokevirtual 303, 3) := by decide +kernel
theorem dX11_copy_87 : decode cX11_copy 87 = .ok (.ifCond .eq 15, 3) := by decide +kernel
theorem dX11_copy_90 : decode cX11_copy 90 = .ok (.aload 7, 2) := by decide +kernel
theorem dX11_copy_92 : decode cX11_copy 92 = .ok (.iload 4, 2) := by decide +kernel
theorem dX11_copy_94 : decode cX11_copy 94 = .ok (.iload 5, 2) := by decide +kernel
theorem dX11_copy_96 : decode cX11_copy 96 = .ok (.invokevirtual 303, 3) := by decide +kernel
theorem dX11_copy_99 : decode cX11_copy 99 = .ok (.ifCond .ne 6, 3) := by decide +kernel
theorem dX11_copy_102 : decode cX11_copy 102 = .ok (.bipush (-13), 2) := by decide +kernel
theorem dX11_copy_104 : decode cX11_copy 104 = .ok (.ireturn, 1) := by decide +kernel
theorem dX11_copy_105 : decode cX11_copy 105 = .ok (.aload 6, 2) := by decide +kernel
theorem dX11_copy_107 : decode cX11_copy 107 = .ok (.getfield 242, 3) := by decide +kernel
theorem dX11_copy_110 : decode cX11_copy 110 = .ok (.iload_n 2, 1) := by decide +kernel
theorem dX11_copy_111 : decode cX11_copy 111 = .ok (.aload 7, 2) := by decide +kernel
theorem dX11_copy_113 : decode cX11_copy 113 = .ok (.getfield 242, 3) := by decide +kernel
theorem dX11_copy_116 : decode cX11_copy 116 = .ok (.iload 4, 2) := by decide +kernel
theorem dX11_copy_118 : decode cX11_copy 118 = .ok (.iload 5, 2) := by decide +kernel
theorem dX11_copy_120 : decode cX11_copy 120 = .ok (.invokestatic 306, 3) := by decide +kernel
theorem dX11_copy_123 : decode cX11_copy 123 = .ok (.iload 5, 2) := by decide +kernel
theorem dX11_copy_125 : decode cX11_copy 125 = .ok (.ireturn, 1) := by decide +kernel
theorem dX11_cost_0 : decode cX11_cost 0 = .ok (.aload_n 0, 1) := by decide +kernel
theorem dX11_cost_1 : decode cX11_cost 1 = .ok (.iload_n 1, 1) := by decide +kernel
theorem dX11_cost_2 : decode cX11_cost 2 = .ok (.iconst 0, 1) := by decide +kernel
theorem dX11_cost_3 : decode cX11_cost 3 = .ok (.invokevirtual 46, 3) := by decide +kernel
theorem dX11_cost_6 : decode cX11_cost 6 = .ok (.istore_n 2, 1) := by decide +kernel
theorem dX11_cost_7 : decode cX11_cost 7 = .ok (.iload_n 2, 1) := by decide +kernel
theorem dX11_cost_8 : decode cX11_cost 8 = .ok (.ifCond .eq 7, 3) := by decide +kernel
theorem dX11_cost_11 : decode cX11_cost 11 = .ok (.iload_n 2, 1) := by decide +kernel
theorem dX11_cost_12 : decode cX11_cost 12 = .ok (.goto 15, 3) := by decide +kernel
theorem dX11_cost_15 : decode cX11_cost 15 = .ok (.aload_n 0, 1) := by decide +kernel
theorem dX11_cost_16 : decode cX11_cost 16 = .ok (.getfield 24, 3) := by decide +kernel
theorem dX11_cost_19 : decode cX11_cost 19 = .ok (.iload_n 1, 1) := by decide +kernel
theorem dX11_cost_20 : decode cX11_cost 20 = .ok (.aaload, 1) := by decide +kernel
theorem dX11_cost_21 : decode cX11_cost 21 = .ok (.getfield 124, 3) := by decide +kernel
theorem dX11_cost_24 : decode cX11_cost 24 = .ok (.invokevirtual 312, 3) := by decide +kernel
theorem dX11_cost_27 : decode cX11_cost 27 = .ok (.ireturn, 1) := by decide +kernel
theorem dX11_toss_0 : decode cX11_toss 0 = .ok (.aload_n 0, 1) := by decide +kernel
theorem dX11_toss_1 : decode cX11_toss 1 = .ok (.iload_n 1, 1) := by decide +kernel
theorem dX11_toss_2 : decode cX11_toss 2 = .ok (.iconst 0, 1) := by decide +kernel
theorem dX11_toss_3 : decode cX11_toss 3 = .ok (.invokevirtual 46, 3) := by decide +kernel
theorem dX11_toss_6 : decode cX11_toss 6 = .ok (.istore_n 2, 1) := by decide +kernel
theorem dX11_toss_7 : decode cX11_toss 7 = .ok (.iload_n 2, 1) := by decide +kernel
theorem dX11_toss_8 : decode cX11_toss 8 = .ok (.ifCond .eq 5, 3) := by decide +kernel
theorem dX11_toss_11 : decode cX11_toss 11 = .ok (.iload_n 2, 1) := by decide +kernel
theorem dX11_toss_12 : decode cX11_toss 12 = .ok (.ireturn, 1) := by decide +kernel
theorem dX11_toss_13 : decode cX11_toss 13 = .ok (.aload_n 0, 1) := by decide +kernel
theorem dX11_toss_14 : decode cX11_toss 14 = .ok (.getfield 24, 3) := by decide +kernel
theorem dX11_toss_17 : decode cX11_toss 17 = .ok (.iload_n 1, 1) := by decide +kernel
theorem dX11_toss_18 : decode cX11_toss 18 = .ok (.aaload, 1) := by decide +kernel
theorem dX11_toss_19 : decode cX11_toss 19 = .ok (.getfield 124, 3) := by decide +kernel
theorem dX11_toss_22 : decode cX11_toss 22 = .ok (.astore_n 3, 1) := by decide +kernel
theorem dX11_toss_23 : decode cX11_toss 23 = .ok (.aload_n 3, 1) := by decide +kernel
theorem dX11_toss_24 : decode cX11_toss 24 = .ok (.invokevirtual 315, 3) := by decide +kernel
theorem dX11_toss_27 : decode cX11_toss 27 = .ok (.goto 31, 3) := by decide +kernel
theorem dX11_toss_30 : decode cX11_toss 30 = .ok (.astore 4, 2) := by decide +kernel
theorem dX11_toss_32 : decode cX11_toss 32 = .ok (.sipush 200, 3) := by decide +kernel
theorem dX11_toss_35 : decode cX11_toss 35 = .ok (.aload_n 3, 1) := by decide +kernel
theorem dX11_toss_36 : decode cX11_toss 36 = .ok (.invokevirtual 312, 3) := by decide +kernel
theorem dX11_toss_39 : decode cX11_toss 39 = .ok (.iadd, 1) := by decide +kernel
theorem dX11_toss_40 : decode cX11_toss 40 = .ok (.ireturn, 1) := by decide +kernel
theorem dX11_toss_41 : decode cX11_toss 41 = .ok (.astore 4, 2) := by decide +kernel
theorem dX11_toss_43 : decode cX11_toss 43 = .ok (.bipush 100, 2) := by decide +kernel
theorem dX11_toss_45 : decode cX11_toss 45 = .ok (.aload_n 3, 1) := by decide +kernel
theorem dX11_toss_46 : decode cX11_toss 46 = .ok (.getfield 82, 3) := by decide +kernel
theorem dX11_toss_49 : decode cX11_toss 49 = .ok (.iadd, 1) := by decide +kernel
theorem dX11_toss_50 : decode cX11_toss 50 = .ok (.ireturn, 1) := by decide +kernel
theorem dX11_toss_51 : decode cX11_toss 51 = .ok (.astore 4, 2) := by decide +kernel
theorem dX11_toss_53 : decode cX11_toss 53 = .ok (.aload_n 3, 1) := by decide +kernel
theorem dX11_toss_54 : decode cX11_toss 54 = .ok (.getfield 82, 3) := by decide +kernel
theorem dX11_toss_57 : decode cX11_toss 57 = .ok (.ireturn, 1) := by decide +kernel
theorem dX11_toss_58 : decode cX11_toss 58 = .ok (.bipush (-15), 2) := by decide +kernel
theorem dX11_toss_60 : decode cX11_toss 60 = .ok (.ireturn, 1) := by decide +kernel
theorem dX11_isBelow_0 : decode cX11_isBelow 0 = .ok (.iload_n 0, 1) := by decide +kernel
theorem dX11_isBelow_1 : decode cX11_isBelow 1 = .ok (.ifCond .lt 12, 3) := by decide +kernel
theorem dX11_isBelow_4 : decode cX11_isBelow 4 = .ok (.iload_n 0, 1) := by decide +kernel
theorem dX11_isBelow_5 : decode cX11_isBelow 5 = .ok (.iload_n 1, 1) := by decide +kernel
theorem dX11_isBelow_6 : decode cX11_isBelow 6 = .ok (.if_icmp .ge 7, 3) := by decide +kernel
theorem dX11_isBelow_9 : decode cX11_isBelow 9 = .ok (.iconst 1, 1) := by decide +kernel
theorem dX11_isBelow_10 : decode cX11_isBelow 10 = .ok (.goto 4, 3) := by decide +kernel
theorem dX11_isBelow_13 : decode cX11_isBelow 13 = .ok (.iconst 0, 1) := by decide +kernel
theorem dX11_isBelow_14 : decode cX11_isBelow 14 = .ok (.ireturn, 1) := by decide +kernel
theorem dX11_way_0 : decode cX11_way 0 = .ok (.iload_n 0, 1) := by decide +kernel
theorem dX11_way_1 : decode cX11_way 1 = .ok (.iconst 3, 1) := by decide +kernel
theorem dX11_way_2 : decode cX11_way 2 = .ok (.idiv, 1) := by decide +kernel
theorem dX11_way_3 : decode cX11_way 3 = .ok (.iload_n 1, 1) := by decide +kernel
theorem dX11_way_4 : decode cX11_way 4 = .ok (.iconst 3, 1) := by decide +kernel
theorem dX11_way_5 : decode cX11_way 5 = .ok (.idiv, 1) := by decide +kernel
theorem dX11_way_6 : decode cX11_way 6 = .ok (.isub, 1) := by decide +kernel
theorem dX11_way_7 : decode cX11_way 7 = .ok (.invokestatic 320, 3) := by decide +kernel
theorem dX11_way_10 : decode cX11_way 10 = .ok (.iload_n 0, 1) := by decide +kernel
theorem dX11_way_11 : decode cX11_way 11 = .ok (.iconst 3, 1) := by decide +kernel
theorem dX11_way_12 : decode cX11_way 12 = .ok (.irem, 1) := by decide +kernel
theorem dX11_way_13 : decode cX11_way 13 = .ok (.iload_n 1, 1) := by decide +kernel
theorem dX11_way_14 : decode cX11_way 14 = .ok (.iconst 3, 1) := by decide +kernel
theorem dX11_way_15 : decode cX11_way 15 = .ok (.irem, 1) := by decide +kernel
theorem dX11_way_16 : decode cX11_way 16 = .ok (.isub, 1) := by decide +kernel
theorem dX11_way_17 : decode cX11_way 17 = .ok (.invokestatic 320, 3) := by decide +kernel
theorem dX11_way_20 : decode cX11_way 20 = .ok (.iadd, 1) := by decide +kernel
theorem dX11_way_21 : decode cX11_way 21 = .ok (.ireturn, 1) := by decide +kernel
theorem dX11_endCell_0 : decode cX11_endCell 0 = .ok (.iload_n 0, 1) := by decide +kernel
theorem dX11_endCell_1 : decode cX11_endCell 1 = .ok (.iconst 2, 1) := by decide +kernel
theorem dX11_endCell_2 : decode cX11_endCell 2 = .ok (.irem, 1) := by decide +kernel
theorem dX11_endCell_3 : decode cX11_endCell 3 = .ok (.ifCond .ne 7, 3) := by decide +kernel
theorem dX11_endCell_6 : decode cX11_endCell 6 = .ok (.iconst 0, 1) := by decide +kernel
theorem dX11_endCell_7 : decode cX11_endCell 7 = .ok (.goto 5, 3) := by decide +kernel
theorem dX11_endCell_10 : decode cX11_endCell 10 = .ok (.bipush 8, 2) := by decide +kernel
theorem dX11_endCell_12 : decode cX11_endCell 12 = .ok (.ireturn, 1) := by decide +kernel
theorem dX11_refusalOf_0 : decode cX11_refusalOf 0 = .ok (.iload_n 1, 1) := by decide +kernel
theorem dX11_refusalOf_1 : decode cX11_refusalOf 1 = .ok (.bipush 8, 2) := by decide +kernel
theorem dX11_refusalOf_3 : decode cX11_refusalOf 3 = .ok (.invokestatic 92, 3) := by decide +kernel
theorem dX11_refusalOf_6 : decode cX11_refusalOf 6 = .ok (.ifCond .ne 5, 3) := by decide +kernel
theorem dX11_refusalOf_9 : decode cX11_refusalOf 9 = .ok (.iconst (-1), 1) := by decide +kernel
theorem dX11_refusalOf_10 : decode cX11_refusalOf 10 = .ok (.ireturn, 1) := by decide +kernel
theorem dX11_refusalOf_11 : decode cX11_refusalOf 11 = .ok (.aload_n 0, 1) := by decide +kernel
theorem dX11_refusalOf_12 : decode cX11_refusalOf 12 = .ok (.getfield 24, 3) := by decide +kernel
theorem dX11_refusalOf_15 : decode cX11_refusalOf 15 = .ok (.iload_n 1, 1) := by decide +kernel
theorem dX11_refusalOf_16 : decode cX11_refusalOf 16 = .ok (.aaload, 1) := by decide +kernel
theorem dX11_refusalOf_17 : decode cX11_refusalOf 17 = .ok (.invokevirtual 300, 3) := by decide +kernel
theorem dX11_refusalOf_20 : decode cX11_refusalOf 20 = .ok (.ifCond .eq 6, 3) := by decide +kernel
theorem dX11_refusalOf_23 : decode cX11_refusalOf 23 = .ok (.bipush (-11), 2) := by decide +kernel
theorem dX11_refusalOf_25 : decode cX11_refusalOf 25 = .ok (.ireturn, 1) := by decide +kernel
theorem dX11_refusalOf_26 : decode cX11_refusalOf 26 = .ok (.aload_n 0, 1) := by decide +kernel
theorem dX11_refusalOf_27 : decode cX11_refusalOf 27 = .ok (.getfield 24, 3) := by decide +kernel
theorem dX11_refusalOf_30 : decode cX11_refusalOf 30 = .ok (.iload_n 1, 1) := by decide +kernel
theorem dX11_refusalOf_31 : decode cX11_refusalOf 31 = .ok (.aaload, 1) := by decide +kernel
theorem dX11_refusalOf_32 : decode cX11_refusalOf 32 = .ok (.invokevirtual 291, 3) := by decide +kernel
theorem dX11_refusalOf_35 : decode cX11_refusalOf 35 = .ok (.iload_n 2, 1) := by decide +kernel
theorem dX11_refusalOf_36 : decode cX11_refusalOf 36 = .ok (.if_icmp .ne 7, 3) := by decide +kernel
theorem dX11_refusalOf_39 : decode cX11_refusalOf 39 = .ok (.iconst 0, 1) := by decide +kernel
theorem dX11_refusalOf_40 : decode cX11_refusalOf 40 = .ok (.goto 5, 3) := by decide +kernel
theorem dX11_refusalOf_43 : decode cX11_refusalOf 43 = .ok (.bipush (-12), 2) := by decide +kernel
theorem dX11_refusalOf_45 : decode cX11_refusalOf 45 = .ok (.ireturn, 1) := by decide +kernel
theorem dX11_refusalOfHits_0 : decode cX11_refusalOfHits 0 = .ok (.aload_n 0, 1) := by decide +kernel
theorem dX11_refusalOfHits_1 : decode cX11_refusalOfHits 1 = .ok (.iload_n 1, 1) := by decide +kernel
theorem dX11_refusalOfHits_2 : decode cX11_refusalOfHits 2 = .ok (.iconst 1, 1) := by decide +kernel
theorem dX11_refusalOfHits_3 : decode cX11_refusalOfHits 3 = .ok (.invokevirtual 46, 3) := by decide +kernel
theorem dX11_refusalOfHits_6 : decode cX11_refusalOfHits 6 = .ok (.istore_n 2, 1) := by decide +kernel
theorem dX11_refusalOfHits_7 : decode cX11_refusalOfHits 7 = .ok (.iload_n 2, 1) := by decide +kernel
theorem dX11_refusalOfHits_8 : decode cX11_refusalOfHits 8 = .ok (.ifCond .eq 5, 3) := by decide +kernel
theorem dX11_refusalOfHits_11 : decode cX11_refusalOfHits 11 = .ok (.iload_n 2, 1) := by decide +kernel
theorem dX11_refusalOfHits_12 : decode cX11_refusalOfHits 12 = .ok (.ireturn, 1) := by decide +kernel
theorem dX11_refusalOfHits_13 : decode cX11_refusalOfHits 13 = .ok (.aload_n 0, 1) := by decide +kernel
theorem dX11_refusalOfHits_14 : decode cX11_refusalOfHits 14 = .ok (.getfield 24, 3) := by decide +kernel
theorem dX11_refusalOfHits_17 : decode cX11_refusalOfHits 17 = .ok (.iload_n 1, 1) := by decide +kernel
theorem dX11_refusalOfHits_18 : decode cX11_refusalOfHits 18 = .ok (.aaload, 1) := by decide +kernel
theorem dX11_refusalOfHits_19 : decode cX11_refusalOfHits 19 = .ok (.getfield 239, 3) := by decide +kernel
theorem dX11_refusalOfHits_22 : decode cX11_refusalOfHits 22 = .ok (.iconst 2, 1) := by decide +kernel
theorem dX11_refusalOfHits_23 : decode cX11_refusalOfHits 23 = .ok (.irem, 1) := by decide +kernel
theorem dX11_refusalOfHits_24 : decode cX11_refusalOfHits 24 = .ok (.ifCond .ne 7, 3) := by decide +kernel
theorem dX11_refusalOfHits_27 : decode cX11_refusalOfHits 27 = .ok (.iconst 0, 1) := by decide +kernel
theorem dX11_refusalOfHits_28 : decode cX11_refusalOfHits 28 = .ok (.goto 5, 3) := by decide +kernel
theorem dX11_refusalOfHits_31 : decode cX11_refusalOfHits 31 = .ok (.bipush (-13), 2) := by decide +kernel
theorem dX11_refusalOfHits_33 : decode cX11_refusalOfHits 33 = .ok (.ireturn, 1) := by decide +kernel
theorem dX11_refusalOfRally_0 : decode cX11_refusalOfRally 0 = .ok (.aload_n 0, 1) := by decide +kernel
theorem dX11_refusalOfRally_1 : decode cX11_refusalOfRally 1 = .ok (.iload_n 1, 1) := by decide +kernel
theorem dX11_refusalOfRally_2 : decode cX11_refusalOfRally 2 = .ok (.invokevirtual 236, 3) := by decide +kernel
theorem dX11_refusalOfRally_5 : decode cX11_refusalOfRally 5 = .ok (.istore_n 2, 1) := by decide +kernel
theorem dX11_refusalOfRally_6 : decode cX11_refusalOfRally 6 = .ok (.iload_n 2, 1) := by decide +kernel
theorem dX11_refusalOfRally_7 : decode cX11_refusalOfRally 7 = .ok (.ifCond .eq 5, 3) := by decide +kernel
theorem dX11_refusalOfRally_10 : decode cX11_refusalOfRally 10 = .ok (.iload_n 2, 1) := by decide +kernel
theorem dX11_refusalOfRally_11 : decode cX11_refusalOfRally 11 = .ok (.ireturn, 1) := by decide +kernel
theorem dX11_refusalOfRally_12 : decode cX11_refusalOfRally 12 = .ok (.aload_n 0, 1) := by decide +kernel
theorem dX11_refusalOfRally_13 : decode cX11_refusalOfRally 13 = .ok (.getfield 24, 3) := by decide +kernel
theorem dX11_refusalOfRally_16 : decode cX11_refusalOfRally 16 = .ok (.iload_n 1, 1) := by decide +kernel
theorem dX11_refusalOfRally_17 : decode cX11_refusalOfRally 17 = .ok (.aaload, 1) := by decide +kernel
theorem dX11_refusalOfRally_18 : decode cX11_refusalOfRally 18 = .ok (.astore_n 3, 1) := by decide +kernel
theorem dX11_refusalOfRally_19 : decode cX11_refusalOfRally 19 = .ok (.iconst 0, 1) := by decide +kernel
theorem dX11_refusalOfRally_20 : decode cX11_refusalOfRally 20 = .ok (.istore 4, 2) := by decide +kernel
theorem dX11_refusalOfRally_22 : decode cX11_refusalOfRally 22 = .ok (.iload 4, 2) := by decide +kernel
theorem dX11_refusalOfRally_24 : decode cX11_refusalOfRally 24 = .ok (.iconst 1, 1) := by decide +kernel
theorem dX11_refusalOfRally_25 : decode cX11_refusalOfRally 25 = .ok (.iadd, 1) := by decide +kernel
theorem dX11_refusalOfRally_26 : decode cX11_refusalOfRally 26 = .ok (.aload_n 3, 1) := by decide +kernel
theorem dX11_refusalOfRally_27 : decode cX11_refusalOfRally 27 = .ok (.getfield 239, 3) := by decide +kernel
theorem dX11_refusalOfRally_30 : decode cX11_refusalOfRally 30 = .ok (.if_icmp .ge 38, 3) := by decide +kernel
theorem dX11_refusalOfRally_33 : decode cX11_refusalOfRally 33 = .ok (.aload_n 0, 1) := by decide +kernel
theorem dX11_refusalOfRally_34 : decode cX11_refusalOfRally 34 = .ok (.getfield 12, 3) := by decide +kernel
theorem dX11_refusalOfRally_37 : decode cX11_refusalOfRally 37 = .ok (.aload_n 3, 1) := by decide +kernel
theorem dX11_refusalOfRally_38 : decode cX11_refusalOfRally 38 = .ok (.getfield 242, 3) := by decide +kernel
theorem dX11_refusalOfRally_41 : decode cX11_refusalOfRally 41 = .ok (.iload 4, 2) := by decide +kernel
theorem dX11_refusalOfRally_43 : decode cX11_refusalOfRally 43 = .ok (.iaload, 1) := by decide +kernel
theorem dX11_refusalOfRally_44 : decode cX11_refusalOfRally 44 = .ok (.aload_n 3, 1) := by decide +kernel
theorem dX11_refusalOfRally_45 : decode cX11_refusalOfRally 45 = .ok (.getfield 242, 3) := by decide +kernel
theorem dX11_refusalOfRally_48 : decode cX11_refusalOfRally 48 = .ok (.iload 4, 2) := by decide +kernel
theorem dX11_refusalOfRally_50 : decode cX11_refusalOfRally 50 = .ok (.iconst 1, 1) := by decide +kernel
theorem dX11_refusalOfRally_51 : decode cX11_refusalOfRally 51 = .ok (.iadd, 1) := by decide +kernel
theorem dX11_refusalOfRally_52 : decode cX11_refusalOfRally 52 = .ok (.iaload, 1) := by decide +kernel
theorem dX11_refusalOfRally_53 : decode cX11_refusalOfRally 53 = .ok (.invokevirtual 157, 3) := by decide +kernel
theorem dX11_refusalOfRally_56 : decode cX11_refusalOfRally 56 = .ok (.ifCond .ne 6, 3) := by decide +kernel
theorem dX11_refusalOfRally_59 : decode cX11_refusalOfRally 59 = .ok (.bipush (-13), 2) := by decide +kernel
theorem dX11_refusalOfRally_61 : decode cX11_refusalOfRally 61 = .ok (.ireturn, 1) := by decide +kernel
theorem dX11_refusalOfRally_62 : decode cX11_refusalOfRally 62 = .ok (.iinc 4 2, 3) := by decide +kernel
theorem dX11_refusalOfRally_65 : decode cX11_refusalOfRally 65 = .ok (.goto (-43), 3) := by decide +kernel
theorem dX11_refusalOfRally_68 : decode cX11_refusalOfRally 68 = .ok (.iconst 0, 1) := by decide +kernel
theorem dX11_refusalOfRally_69 : decode cX11_refusalOfRally 69 = .ok (.ireturn, 1) := by decide +kernel
theorem dX11_refusalOfCells_0 : decode cX11_refusalOfCells 0 = .ok (.aload_n 0, 1) := by decide +kernel
theorem dX11_refusalOfCells_1 : decode cX11_refusalOfCells 1 = .ok (.iload_n 1, 1) := by decide +kernel
theorem dX11_refusalOfCells_2 : decode cX11_refusalOfCells 2 = .ok (.iconst 1, 1) := by decide +kernel
theorem dX11_refusalOfCells_3 : decode cX11_refusalOfCells 3 = .ok (.invokevirtual 46, 3) := by decide +kernel
theorem dX11_refusalOfCells_6 : decode cX11_refusalOfCells 6 = .ok (.istore_n 2, 1) := by decide +kernel
theorem dX11_refusalOfCells_7 : decode cX11_refusalOfCells 7 = .ok (.iload_n 2, 1) := by decide +kernel
theorem dX11_refusalOfCells_8 : decode cX11_refusalOfCells 8 = .ok (.ifCond .eq 5, 3) := by decide +kernel
theorem dX11_refusalOfCells_11 : decode cX11_refusalOfCells 11 = .ok (.iload_n 2, 1) := by decide +kernel
theorem dX11_refusalOfCells_12 : decode cX11_refusalOfCells 12 = .ok (.ireturn, 1) := by decide +kernel
theorem dX11_refusalOfCells_13 : decode cX11_refusalOfCells 13 = .ok (.aload_n 0, 1) := by decide +kernel
theorem dX11_refusalOfCells_14 : decode cX11_refusalOfCells 14 = .ok (.getfield 24, 3) := by decide +kernel
theorem dX11_refusalOfCells_17 : decode cX11_refusalOfCells 17 = .ok (.iload_n 1, 1) := by decide +kernel
theorem dX11_refusalOfCells_18 : decode cX11_refusalOfCells 18 = .ok (.aaload, 1) := by decide +kernel
theorem dX11_refusalOfCells_19 : decode cX11_refusalOfCells 19 = .ok (.getfield 239, 3) := by decide +kernel
theorem dX11_refusalOfCells_22 : decode cX11_refusalOfCells 22 = .ok (.bipush 9, 2) := by decide +kernel
theorem dX11_refusalOfCells_24 : decode cX11_refusalOfCells 24 = .ok (.if_icmp .le 8, 3) := by decide +kernel
theorem dX11_refusalOfCells_27 : decode cX11_refusalOfCells 27 = .ok (.bipush (-13), 2) := by decide +kernel
theorem dX11_refusalOfCells_29 : decode cX11_refusalOfCells 29 = .ok (.goto 4, 3) := by decide +kernel
theorem dX11_refusalOfCells_32 : decode cX11_refusalOfCells 32 = .ok (.iconst 0, 1) := by decide +kernel
theorem dX11_refusalOfCells_33 : decode cX11_refusalOfCells 33 = .ok (.ireturn, 1) := by decide +kernel
theorem dX11_playRally_0 : decode cX11_playRally 0 = .ok (.aload_n 0, 1) := by decide +kernel
theorem dX11_playRally_1 : decode cX11_playRally 1 = .ok (.getfield 16, 3) := by decide +kernel
theorem dX11_playRally_4 : decode cX11_playRally 4 = .ok (.aload_n 0, 1) := by decide +kernel
theorem dX11_playRally_5 : decode cX11_playRally 5 = .ok (.getfield 12, 3) := by decide +kernel
theorem dX11_playRally_8 : decode cX11_playRally 8 = .ok (.invokevirtual 60, 3) := by decide +kernel
theorem dX11_playRally_11 : decode cX11_playRally 11 = .ok (.iconst 0, 1) := by decide +kernel
theorem dX11_playRally_12 : decode cX11_playRally 12 = .ok (.istore_n 2, 1) := by decide +kernel
theorem dX11_playRally_13 : decode cX11_playRally 13 = .ok (.iload_n 2, 1) := by decide +kernel
theorem dX11_playRally_14 : decode cX11_playRally 14 = .ok (.iconst 4, 1) := by decide +kernel
theorem dX11_playRally_15 : decode cX11_playRally 15 = .ok (.if_icmp .ge 16, 3) := by decide +kernel
theorem dX11_playRally_18 : decode cX11_playRally 18 = .ok (.aload_n 0, 1) := by decide +kernel
theorem dX11_playRally_19 : decode cX11_playRally 19 = .ok (.getfield 38, 3) := by decide +kernel
theorem dX11_playRally_22 : decode cX11_playRally 22 = .ok (.iload_n 2, 1) := by decide +kernel
theorem dX11_playRally_23 : decode cX11_playRally 23 = .ok (.iconst 0, 1) := by decide +kernel
theorem dX11_playRally_24 : decode cX11_playRally 24 = .ok (.iastore, 1) := by decide +kernel
theorem dX11_playRally_25 : decode cX11_playRally 25 = .ok (.iinc 2 1, 3) := by decide +kernel
theorem dX11_playRally_28 : decode cX11_playRally 28 = .ok (.goto (-15), 3) := by decide +kernel
theorem dX11_playRally_31 : decode cX11_playRally 31 = .ok (.iconst 0, 1) := by decide +kernel
theorem dX11_playRally_32 : decode cX11_playRally 32 = .ok (.istore_n 2, 1) := by decide +kernel
theorem dX11_playRally_33 : decode cX11_playRally 33 = .ok (.iload_n 2, 1) := by decide +kernel
theorem dX11_playRally_34 : decode cX11_playRally 34 = .ok (.iconst 1, 1) := by decide +kernel
theorem dX11_playRally_35 : decode cX11_playRally 35 = .ok (.iadd, 1) := by decide +kernel
theorem dX11_playRally_36 : decode cX11_playRally 36 = .ok (.aload_n 1, 1) := by decide +kernel
theorem dX11_playRally_37 : decode cX11_playRally 37 = .ok (.getfield 239, 3) := by decide +kernel
theorem dX11_playRally_40 : decode cX11_playRally 40 = .ok (.if_icmp .ge 60, 3) := by decide +kernel
theorem dX11_playRally_43 : decode cX11_playRally 43 = .ok (.aload_n 0, 1) := by decide +kernel
theorem dX11_playRally_44 : decode cX11_playRally 44 = .ok (.getfield 16, 3) := by decide +kernel
theorem dX11_playRally_47 : decode cX11_playRally 47 = .ok (.getfield 96, 3) := by decide +kernel
theorem dX11_playRally_50 : decode cX11_playRally 50 = .ok (.iconst 0, 1) := by decide +kernel
theorem dX11_playRally_51 : decode cX11_playRally 51 = .ok (.aload_n 0, 1) := by decide +kernel
theorem dX11_playRally_52 : decode cX11_playRally 52 = .ok (.getfield 34, 3) := by decide +kernel
theorem dX11_playRally_55 : decode cX11_playRally 55 = .ok (.iconst 0, 1) := by decide +kernel
theorem dX11_playRally_56 : decode cX11_playRally 56 = .ok (.iconst 4, 1) := by decide +kernel
theorem dX11_playRally_57 : decode cX11_playRally 57 = .ok (.invokestatic 306, 3) := by decide +kernel
theorem dX11_playRally_60 : decode cX11_playRally 60 = .ok (.aload_n 0, 1) := by decide +kernel
theorem dX11_playRally_61 : decode cX11_playRally 61 = .ok (.getfield 16, 3) := by decide +kernel
theorem dX11_playRally_64 : decode cX11_playRally 64 = .ok (.aload_n 1, 1) := by decide +kernel
theorem dX11_playRally_65 : decode cX11_playRally 65 = .ok (.getfield 242, 3) := by decide +kernel
theorem dX11_playRally_68 : decode cX11_playRally 68 = .ok (.iload_n 2, 1) := by decide +kernel
theorem dX11_playRally_69 : decode cX11_playRally 69 = .ok (.iaload, 1) := by decide +kernel
theorem dX11_playRally_70 : decode cX11_playRally 70 = .ok (.aload_n 1, 1) := by decide +kernel
theorem dX11_playRally_71 : decode cX11_playRally 71 = .ok (.getfield 242, 3) := by decide +kernel
theorem dX11_playRally_74 : decode cX11_playRally 74 = .ok (.iload_n 2, 1) := by decide +kernel
theorem dX11_playRally_75 : decode cX11_playRally 75 = .ok (.iconst 1, 1) := by decide +kernel
theorem dX11_playRally_76 : decode cX11_playRally 76 = .ok (.iadd, 1) := by decide +kernel
theorem dX11_playRally_77 : decode cX11_playRally 77 = .ok (.iaload, 1) := by decide +kernel
theorem dX11_playRally_78 : decode cX11_playRally 78 = .ok (.invokevirtual 151, 3) := by decide +kernel
theorem dX11_playRally_81 : decode cX11_playRally 81 = .ok (.ifCond .eq 9, 3) := by decide +kernel
theorem dX11_playRally_84 : decode cX11_playRally 84 = .ok (.iload_n 2, 1) := by decide +kernel
theorem dX11_playRally_85 : decode cX11_playRally 85 = .ok (.iconst 2, 1) := by decide +kernel
theorem dX11_playRally_86 : decode cX11_playRally 86 = .ok (.idiv, 1) := by decide +kernel
theorem dX11_playRally_87 : decode cX11_playRally 87 = .ok (.iconst 1, 1) := by decide +kernel
theorem dX11_playRally_88 : decode cX11_playRally 88 = .ok (.iadd, 1) := by decide +kernel
theorem dX11_playRally_89 : decode cX11_playRally 89 = .ok (.ireturn, 1) := by decide +kernel
theorem dX11_playRally_90 : decode cX11_playRally 90 = .ok (.aload_n 0, 1) := by decide +kernel
theorem dX11_playRally_91 : decode cX11_playRally 91 = .ok (.invokevirtual 325, 3) := by decide +kernel
theorem dX11_playRally_94 : decode cX11_playRally 94 = .ok (.iinc 2 2, 3) := by decide +kernel
theorem dX11_playRally_97 : decode cX11_playRally 97 = .ok (.goto (-64), 3) := by decide +kernel
theorem dX11_playRally_100 : decode cX11_playRally 100 = .ok (.aload_n 1, 1) := by decide +kernel
theorem dX11_playRally_101 : decode cX11_playRally 101 = .ok (.getfield 239, 3) := by decide +kernel
theorem dX11_playRally_104 : decode cX11_playRally 104 = .ok (.iconst 2, 1) := by decide +kernel
theorem dX11_playRally_105 : decode cX11_playRally 105 = .ok (.idiv, 1) := by decide +kernel
theorem dX11_playRally_106 : decode cX11_playRally 106 = .ok (.ireturn, 1) := by decide +kernel
theorem dX11_addWaysGone_0 : decode cX11_addWaysGone 0 = .ok (.iconst 0, 1) := by decide +kernel
theorem dX11_addWaysGone_1 : decode cX11_addWaysGone 1 = .ok (.istore_n 1, 1) := by decide +kernel
theorem dX11_addWaysGone_2 : decode cX11_addWaysGone 2 = .ok (.iload_n 1, 1) := by decide +kernel
theorem dX11_addWaysGone_3 : decode cX11_addWaysGone 3 = .ok (.iconst 4, 1) := by decide +kernel
theorem dX11_addWaysGone_4 : decode cX11_addWaysGone 4 = .ok (.if_icmp .ge 36, 3) := by decide +kernel
theorem dX11_addWaysGone_7 : decode cX11_addWaysGone 7 = .ok (.aload_n 0, 1) := by decide +kernel
theorem dX11_addWaysGone_8 : decode cX11_addWaysGone 8 = .ok (.getfield 38, 3) := by decide +kernel
theorem dX11_addWaysGone_11 : decode cX11_addWaysGone 11 = .ok (.iload_n 1, 1) := by decide +kernel
theorem dX11_addWaysGone_12 : decode cX11_addWaysGone 12 = .ok (.dup2, 1) := by decide +kernel
theorem dX11_addWaysGone_13 : decode cX11_addWaysGone 13 = .ok (.iaload, 1) := by decide +kernel
theorem dX11_addWaysGone_14 : decode cX11_addWaysGone 14 = .ok (.aload_n 0, 1) := by decide +kernel
theorem dX11_addWaysGone_15 : decode cX11_addWaysGone 15 = .ok (.getfield 34, 3) := by decide +kernel
theorem dX11_addWaysGone_18 : decode cX11_addWaysGone 18 = .ok (.iload_n 1, 1) := by decide +kernel
theorem dX11_addWaysGone_19 : decode cX11_addWaysGone 19 = .ok (.iaload, 1) := by decide +kernel
theorem dX11_addWaysGone_20 : decode cX11_addWaysGone 20 = .ok (.aload_n 0, 1) := by decide +kernel
theorem dX11_addWaysGone_21 : decode cX11_addWaysGone 21 = .ok (.getfield 16, 3) := by decide +kernel
theorem dX11_addWaysGone_24 : decode cX11_addWaysGone 24 = .ok (.getfield 96, 3) := by decide +kernel
theorem dX11_addWaysGone_27 : decode cX11_addWaysGone 27 = .ok (.iload_n 1, 1) := by decide +kernel
theorem dX11_addWaysGone_28 : decode cX11_addWaysGone 28 = .ok (.iaload, 1) := by decide +kernel
theorem dX11_addWaysGone_29 : decode cX11_addWaysGone 29 = .ok (.invokestatic 328, 3) := by decide +kernel
theorem dX11_addWaysGone_32 : decode cX11_addWaysGone 32 = .ok (.iadd, 1) := by decide +kernel
theorem dX11_addWaysGone_33 : decode cX11_addWaysGone 33 = .ok (.iastore, 1) := by decide +kernel
theorem dX11_addWaysGone_34 : decode cX11_addWaysGone 34 = .ok (.iinc 1 1, 3) := by decide +kernel
theorem dX11_addWaysGone_37 : decode cX11_addWaysGone 37 = .ok (.goto (-35), 3) := by decide +kernel
theorem dX11_addWaysGone_40 : decode cX11_addWaysGone 40 = .ok (.return_, 1) := by decide +kernel
theorem dX11_sideWithMorePoints_0 : decode cX11_sideWithMorePoints 0 = .ok (.iconst 0, 1) := by decide +kernel
theorem dX11_sideWithMorePoints_1 : decode cX11_sideWithMorePoints 1 = .ok (.istore_n 1, 1) := by decide +kernel
theorem dX11_sideWithMorePoints_2 : decode cX11_sideWithMorePoints 2 = .ok (.iload_n 1, 1) := by decide +kernel
theorem dX11_sideWithMorePoints_3 : decode cX11_sideWithMorePoints 3 = .ok (.iconst 2, 1) := by decide +kernel
theorem dX11_sideWithMorePoints_4 : decode cX11_sideWithMorePoints 4 = .ok (.if_icmp .ge 32, 3) := by decide +kernel
theorem dX11_sideWithMorePoints_7 : decode cX11_sideWithMorePoints 7 = .ok (.aload_n 0, 1) := by decide +kernel
theorem dX11_sideWithMorePoints_8 : decode cX11_sideWithMorePoints 8 = .ok (.getfield 16, 3) := by decide +kernel
theorem dX11_sideWithMorePoints_11 : decode cX11_sideWithMorePoints 11 = .ok (.getfield 118, 3) := by decide +kernel
theorem dX11_sideWithMorePoints_14 : decode cX11_sideWithMorePoints 14 = .ok (.iload_n 1, 1) := by decide +kernel
theorem dX11_sideWithMorePoints_15 : decode cX11_sideWithMorePoints 15 = .ok (.iaload, 1) := by decide +kernel
theorem dX11_sideWithMorePoints_16 : decode cX11_sideWithMorePoints 16 = .ok (.aload_n 0, 1) := by decide +kernel
theorem dX11_sideWithMorePoints_17 : decode cX11_sideWithMorePoints 17 = .ok (.getfield 12, 3) := by decide +kernel
theorem dX11_sideWithMorePoints_20 : decode cX11_sideWithMorePoints 20 = .ok (.getfield 118, 3) := by decide +kernel
theorem dX11_sideWithMorePoints_23 : decode cX11_sideWithMorePoints 23 = .ok (.iload_n 1, 1) := by decide +kernel
theorem dX11_sideWithMorePoints_24 : decode cX11_sideWithMorePoints 24 = .ok (.iaload, 1) := by decide +kernel
theorem dX11_sideWithMorePoints_25 : decode cX11_sideWithMorePoints 25 = .ok (.if_icmp .le 5, 3) := by decide +kernel
theorem dX11_sideWithMorePoints_28 : decode cX11_sideWithMorePoints 28 = .ok (.iload_n 1, 1) := by decide +kernel
theorem dX11_sideWithMorePoints_29 : decode cX11_sideWithMorePoints 29 = .ok (.ireturn, 1) := by decide +kernel
theorem dX11_sideWithMorePoints_30 : decode cX11_sideWithMorePoints 30 = .ok (.iinc 1 1, 3) := by decide +kernel
theorem dX11_sideWithMorePoints_33 : decode cX11_sideWithMorePoints 33 = .ok (.goto (-31), 3) := by decide +kernel
theorem dX11_sideWithMorePoints_36 : decode cX11_sideWithMorePoints 36 = .ok (.iconst 2, 1) := by decide +kernel
theorem dX11_sideWithMorePoints_37 : decode cX11_sideWithMorePoints 37 = .ok (.ireturn, 1) := by decide +kernel
theorem dX11_firstOpening_0 : decode cX11_firstOpening 0 = .ok (.iconst 0, 1) := by decide +kernel
theorem dX11_firstOpening_1 : decode cX11_firstOpening 1 = .ok (.istore_n 1, 1) := by decide +kernel
theorem dX11_firstOpening_2 : decode cX11_firstOpening 2 = .ok (.iload_n 1, 1) := by decide +kernel
theorem dX11_firstOpening_3 : decode cX11_firstOpening 3 = .ok (.aload_n 0, 1) := by decide +kernel
theorem dX11_firstOpening_4 : decode cX11_firstOpening 4 = .ok (.getfield 12, 3) := by decide +kernel
theorem dX11_firstOpening_7 : decode cX11_firstOpening 7 = .ok (.getfield 175, 3) := by decide +kernel
theorem dX11_firstOpening_10 : decode cX11_firstOpening 10 = .ok (.if_icmp .ge 87, 3) := by decide +kernel
theorem dX11_firstOpening_13 : decode cX11_firstOpening 13 = .ok (.iconst 0, 1) := by decide +kernel
theorem dX11_firstOpening_14 : decode cX11_firstOpening 14 = .ok (.istore_n 2, 1) := by decide +kernel
theorem dX11_firstOpening_15 : decode cX11_firstOpening 15 = .ok (.iload_n 2, 1) := by decide +kernel
theorem dX11_firstOpening_16 : decode cX11_firstOpening 16 = .ok (.bipush 9, 2) := by decide +kernel
theorem dX11_firstOpening_18 : decode cX11_firstOpening 18 = .ok (.if_icmp .ge 73, 3) := by decide +kernel
theorem dX11_firstOpening_21 : decode cX11_firstOpening 21 = .ok (.aload_n 0, 1) := by decide +kernel
theorem dX11_firstOpening_22 : decode cX11_firstOpening 22 = .ok (.getfield 16, 3) := by decide +kernel
theorem dX11_firstOpening_25 : decode cX11_firstOpening 25 = .ok (.aload_n 0, 1) := by decide +kernel
theorem dX11_firstOpening_26 : decode cX11_firstOpening 26 = .ok (.getfield 12, 3) := by decide +kernel
theorem dX11_firstOpening_29 : decode cX11_firstOpening 29 = .ok (.invokevirtual 60, 3) := by decide +kernel
theorem dX11_firstOpening_32 : decode cX11_firstOpening 32 = .ok (.aload_n 0, 1) := by decide +kernel
theorem dX11_firstOpening_33 : decode cX11_firstOpening 33 = .ok (.getfield 16, 3) := by decide +kernel
theorem dX11_firstOpening_36 : decode cX11_firstOpening 36 = .ok (.iload_n 1, 1) := by decide +kernel
theorem dX11_firstOpening_37 : decode cX11_firstOpening 37 = .ok (.iload_n 2, 1) := by decide +kernel
theorem dX11_firstOpening_38 : decode cX11_firstOpening 38 = .ok (.invokevirtual 151, 3) := by decide +kernel
theorem dX11_firstOpening_41 : decode cX11_firstOpening 41 = .ok (.ifCond .ne 15, 3) := by decide +kernel
theorem dX11_firstOpening_44 : decode cX11_firstOpening 44 = .ok (.aload_n 0, 1) := by decide +kernel
theorem dX11_firstOpening_45 : decode cX11_firstOpening 45 = .ok (.getfield 16, 3) := by decide +kernel
theorem dX11_firstOpening_48 : decode cX11_firstOpening 48 = .ok (.iconst 0, 1) := by decide +kernel
theorem dX11_firstOpening_49 : decode cX11_firstOpening 49 = .ok (.iconst 4, 1) := by decide +kernel
theorem dX11_firstOpening_50 : decode cX11_firstOpening 50 = .ok (.invokevirtual 151, 3) := by decide +kernel
theorem dX11_firstOpening_53 : decode cX11_firstOpening 53 = .ok (.ifCond .eq 7, 3) := by decide +kernel
theorem dX11_firstOpening_56 : decode cX11_firstOpening 56 = .ok (.iconst 1, 1) := by decide +kernel
theorem dX11_firstOpening_57 : decode cX11_firstOpening 57 = .ok (.goto 4, 3) := by decide +kernel
theorem dX11_firstOpening_60 : decode cX11_firstOpening 60 = .ok (.iconst 0, 1) := by decide +kernel
theorem dX11_firstOpening_61 : decode cX11_firstOpening 61 = .ok (.istore_n 3, 1) := by decide +kernel
theorem dX11_firstOpening_62 : decode cX11_firstOpening 62 = .ok (.iload_n 3, 1) := by decide +kernel
theorem dX11_firstOpening_63 : decode cX11_firstOpening 63 = .ok (.ifCond .ne 22, 3) := by decide +kernel
theorem dX11_firstOpening_66 : decode cX11_firstOpening 66 = .ok (.aload_n 0, 1) := by decide +kernel
theorem dX11_firstOpening_67 : decode cX11_firstOpening 67 = .ok (.getfield 16, 3) := by decide +kernel
theorem dX11_firstOpening_70 : decode cX11_firstOpening 70 = .ok (.invokevirtual 169, 3) := by decide +kernel
theorem dX11_firstOpening_73 : decode cX11_firstOpening 73 = .ok (.bipush (-4), 2) := by decide +kernel
theorem dX11_firstOpening_75 : decode cX11_firstOpening 75 = .ok (.if_icmp .eq 10, 3) := by decide +kernel
theorem dX11_firstOpening_78 : decode cX11_firstOpening 78 = .ok (.bipush 10, 2) := by decide +kernel
theorem dX11_firstOpening_80 : decode cX11_firstOpening 80 = .ok (.iload_n 1, 1) := by decide +kernel
theorem dX11_firstOpening_81 : decode cX11_firstOpening 81 = .ok (.imul, 1) := by decide +kernel
theorem dX11_firstOpening_82 : decode cX11_firstOpening 82 = .ok (.iload_n 2, 1) := by decide +kernel
theorem dX11_firstOpening_83 : decode cX11_firstOpening 83 = .ok (.iadd, 1) := by decide +kernel
theorem dX11_firstOpening_84 : decode cX11_firstOpening 84 = .ok (.ireturn, 1) := by decide +kernel
theorem dX11_firstOpening_85 : decode cX11_firstOpening 85 = .ok (.iinc 2 1, 3) := by decide +kernel
theorem dX11_firstOpening_88 : decode cX11_firstOpening 88 = .ok (.goto (-73), 3) := by decide +kernel
theorem dX11_firstOpening_91 : decode cX11_firstOpening 91 = .ok (.iinc 1 1, 3) := by decide +kernel
theorem dX11_firstOpening_94 : decode cX11_firstOpening 94 = .ok (.goto (-92), 3) := by decide +kernel
theorem dX11_firstOpening_97 : decode cX11_firstOpening 97 = .ok (.bipush (-4), 2) := by decide +kernel
theorem dX11_firstOpening_99 : decode cX11_firstOpening 99 = .ok (.ireturn, 1) := by decide +kernel
theorem dX11_bestTrait_0 : decode cX11_bestTrait 0 = .ok (.iload_n 1, 1) := by decide +kernel
theorem dX11_bestTrait_1 : decode cX11_bestTrait 1 = .ok (.iconst 2, 1) := by decide +kernel
theorem dX11_bestTrait_2 : decode cX11_bestTrait 2 = .ok (.invokestatic 92, 3) := by decide +kernel
theorem dX11_bestTrait_5 : decode cX11_bestTrait 5 = .ok (.ifCond .eq 11, 3) := by decide +kernel
theorem dX11_bestTrait_8 : decode cX11_bestTrait 8 = .ok (.iload_n 3, 1) := by decide +kernel
theorem dX11_bestTrait_9 : decode cX11_bestTrait 9 = .ok (.iconst 2, 1) := by decide +kernel
theorem dX11_bestTrait_10 : decode cX11_bestTrait 10 = .ok (.invokestatic 92, 3) := by decide +kernel
theorem dX11_bestTrait_13 : decode cX11_bestTrait 13 = .ok (.ifCond .ne 5, 3) := by decide +kernel
theorem dX11_bestTrait_16 : decode cX11_bestTrait 16 = .ok (.iconst (-1), 1) := by decide +kernel
theorem dX11_bestTrait_17 : decode cX11_bestTrait 17 = .ok (.ireturn, 1) := by decide +kernel
theorem dX11_bestTrait_18 : decode cX11_bestTrait 18 = .ok (.aload_n 0, 1) := by decide +kernel
theorem dX11_bestTrait_19 : decode cX11_bestTrait 19 = .ok (.getfield 12, 3) := by decide +kernel
theorem dX11_bestTrait_22 : decode cX11_bestTrait 22 = .ok (.getfield 175, 3) := by decide +kernel
theorem dX11_bestTrait_25 : decode cX11_bestTrait 25 = .ok (.ifCond .ne 6, 3) := by decide +kernel
theorem dX11_bestTrait_28 : decode cX11_bestTrait 28 = .ok (.bipush (-3), 2) := by decide +kernel
theorem dX11_bestTrait_30 : decode cX11_bestTrait 30 = .ok (.ireturn, 1) := by decide +kernel
theorem dX11_bestTrait_31 : decode cX11_bestTrait 31 = .ok (.iconst 0, 1) := by decide +kernel
theorem dX11_bestTrait_32 : decode cX11_bestTrait 32 = .ok (.istore 4, 2) := by decide +kernel
theorem dX11_bestTrait_34 : decode cX11_bestTrait 34 = .ok (.iconst (-1), 1) := by decide +kernel
theorem dX11_bestTrait_35 : decode cX11_bestTrait 35 = .ok (.istore 5, 2) := by decide +kernel
theorem dX11_bestTrait_37 : decode cX11_bestTrait 37 = .ok (.iconst 0, 1) := by decide +kernel
theorem dX11_bestTrait_38 : decode cX11_bestTrait 38 = .ok (.istore 6, 2) := by decide +kernel
theorem dX11_bestTrait_40 : decode cX11_bestTrait 40 = .ok (.iload 6, 2) := by decide +kernel
theorem dX11_bestTrait_42 : decode cX11_bestTrait 42 = .ok (.iload_n 2, 1) := by decide +kernel
theorem dX11_bestTrait_43 : decode cX11_bestTrait 43 = .ok (.invokestatic 331, 3) := by decide +kernel
theorem dX11_bestTrait_46 : decode cX11_bestTrait 46 = .ok (.if_icmp .ge 34, 3) := by decide +kernel
theorem dX11_bestTrait_49 : decode cX11_bestTrait 49 = .ok (.aload_n 0, 1) := by decide +kernel
theorem dX11_bestTrait_50 : decode cX11_bestTrait 50 = .ok (.iload_n 1, 1) := by decide +kernel
theorem dX11_bestTrait_51 : decode cX11_bestTrait 51 = .ok (.iload_n 2, 1) := by decide +kernel
theorem dX11_bestTrait_52 : decode cX11_bestTrait 52 = .ok (.iload 6, 2) := by decide +kernel
theorem dX11_bestTrait_54 : decode cX11_bestTrait 54 = .ok (.invokevirtual 334, 3) := by decide +kernel
theorem dX11_bestTrait_57 : decode cX11_bestTrait 57 = .ok (.istore 7, 2) := by decide +kernel
theorem dX11_bestTrait_59 : decode cX11_bestTrait 59 = .ok (.iload 7, 2) := by decide +kernel
theorem dX11_bestTrait_61 : decode cX11_bestTrait 61 = .ok (.iload 5, 2) := by decide +kernel
theorem dX11_bestTrait_63 : decode cX11_bestTrait 63 = .ok (.if_icmp .le 11, 3) := by decide +kernel
theorem dX11_bestTrait_66 : decode cX11_bestTrait 66 = .ok (.iload 7, 2) := by decide +kernel
theorem dX11_bestTrait_68 : decode cX11_bestTrait 68 = .ok (.istore 5, 2) := by decide +kernel
theorem dX11_bestTrait_70 : decode cX11_bestTrait 70 = .ok (.iload 6, 2) := by decide +kernel
theorem dX11_bestTrait_72 : decode cX11_bestTrait 72 = .ok (.istore 4, 2) := by decide +kernel
theorem dX11_bestTrait_74 : decode cX11_bestTrait 74 = .ok (.iinc 6 1, 3) := by decide +kernel
theorem dX11_bestTrait_77 : decode cX11_bestTrait 77 = .ok (.goto (-37), 3) := by decide +kernel
theorem dX11_bestTrait_80 : decode cX11_bestTrait 80 = .ok (.iload_n 3, 1) := by decide +kernel
theorem dX11_bestTrait_81 : decode cX11_bestTrait 81 = .ok (.ifCond .ne 8, 3) := by decide +kernel
theorem dX11_bestTrait_84 : decode cX11_bestTrait 84 = .ok (.iload 4, 2) := by decide +kernel
theorem dX11_bestTrait_86 : decode cX11_bestTrait 86 = .ok (.goto 5, 3) := by decide +kernel
theorem dX11_bestTrait_89 : decode cX11_bestTrait 89 = .ok (.iload 5, 2) := by decide +kernel
theorem dX11_bestTrait_91 : decode cX11_bestTrait 91 = .ok (.ireturn, 1) := by decide +kernel
theorem dX11_cellsHeld_0 : decode cX11_cellsHeld 0 = .ok (.iconst 0, 1) := by decide +kernel
theorem dX11_cellsHeld_1 : decode cX11_cellsHeld 1 = .ok (.istore 4, 2) := by decide +kernel
theorem dX11_cellsHeld_3 : decode cX11_cellsHeld 3 = .ok (.iconst 0, 1) := by decide +kernel
theorem dX11_cellsHeld_4 : decode cX11_cellsHeld 4 = .ok (.istore 5, 2) := by decide +kernel
theorem dX11_cellsHeld_6 : decode cX11_cellsHeld 6 = .ok (.iload 5, 2) := by decide +kernel
theorem dX11_cellsHeld_8 : decode cX11_cellsHeld 8 = .ok (.bipush 9, 2) := by decide +kernel
theorem dX11_cellsHeld_10 : decode cX11_cellsHeld 10 = .ok (.if_icmp .ge 53, 3) := by decide +kernel
theorem dX11_cellsHeld_13 : decode cX11_cellsHeld 13 = .ok (.aload_n 0, 1) := by decide +kernel
theorem dX11_cellsHeld_14 : decode cX11_cellsHeld 14 = .ok (.getfield 16, 3) := by decide +kernel
theorem dX11_cellsHeld_17 : decode cX11_cellsHeld 17 = .ok (.aload_n 0, 1) := by decide +kernel
theorem dX11_cellsHeld_18 : decode cX11_cellsHeld 18 = .ok (.getfield 12, 3) := by decide +kernel
theorem dX11_cellsHeld_21 : decode cX11_cellsHeld 21 = .ok (.invokevirtual 60, 3) := by decide +kernel
theorem dX11_cellsHeld_24 : decode cX11_cellsHeld 24 = .ok (.aload_n 0, 1) := by decide +kernel
theorem dX11_cellsHeld_25 : decode cX11_cellsHeld 25 = .ok (.getfield 16, 3) := by decide +kernel
theorem dX11_cellsHeld_28 : decode cX11_cellsHeld 28 = .ok (.iload_n 1, 1) := by decide +kernel
theorem dX11_cellsHeld_29 : decode cX11_cellsHeld 29 = .ok (.iload_n 2, 1) := by decide +kernel
theorem dX11_cellsHeld_30 : decode cX11_cellsHeld 30 = .ok (.iload_n 3, 1) := by decide +kernel
theorem dX11_cellsHeld_31 : decode cX11_cellsHeld 31 = .ok (.invokevirtual 142, 3) := by decide +kernel
theorem dX11_cellsHeld_34 : decode cX11_cellsHeld 34 = .ok (.pop, 1) := by decide +kernel
theorem dX11_cellsHeld_35 : decode cX11_cellsHeld 35 = .ok (.aload_n 0, 1) := by decide +kernel
theorem dX11_cellsHeld_36 : decode cX11_cellsHeld 36 = .ok (.getfield 16, 3) := by decide +kernel
theorem dX11_cellsHeld_39 : decode cX11_cellsHeld 39 = .ok (.iconst 1, 1) := by decide +kernel
theorem dX11_cellsHeld_40 : decode cX11_cellsHeld 40 = .ok (.iload_n 1, 1) := by decide +kernel
theorem dX11_cellsHeld_41 : decode cX11_cellsHeld 41 = .ok (.isub, 1) := by decide +kernel
theorem dX11_cellsHeld_42 : decode cX11_cellsHeld 42 = .ok (.invokevirtual 337, 3) := by decide +kernel
theorem dX11_cellsHeld_45 : decode cX11_cellsHeld 45 = .ok (.aload_n 0, 1) := by decide +kernel
theorem dX11_cellsHeld_46 : decode cX11_cellsHeld 46 = .ok (.iload 5, 2) := by decide +kernel
theorem dX11_cellsHeld_48 : decode cX11_cellsHeld 48 = .ok (.invokevirtual 341, 3) := by decide +kernel
theorem dX11_cellsHeld_51 : decode cX11_cellsHeld 51 = .ok (.ifCond .ne 6, 3) := by decide +kernel
theorem dX11_cellsHeld_54 : decode cX11_cellsHeld 54 = .ok (.iinc 4 1, 3) := by decide +kernel
theorem dX11_cellsHeld_57 : decode cX11_cellsHeld 57 = .ok (.iinc 5 1, 3) := by decide +kernel
theorem dX11_cellsHeld_60 : decode cX11_cellsHeld 60 = .ok (.goto (-54), 3) := by decide +kernel
theorem dX11_cellsHeld_63 : decode cX11_cellsHeld 63 = .ok (.iload 4, 2) := by decide +kernel
theorem dX11_cellsHeld_65 : decode cX11_cellsHeld 65 = .ok (.ireturn, 1) := by decide +kernel
theorem dX11_isBroken_0 : decode cX11_isBroken 0 = .ok (.aload_n 0, 1) := by decide +kernel
theorem dX11_isBroken_1 : decode cX11_isBroken 1 = .ok (.getfield 16, 3) := by decide +kernel
theorem dX11_isBroken_4 : decode cX11_isBroken 4 = .ok (.iconst 0, 1) := by decide +kernel
theorem dX11_isBroken_5 : decode cX11_isBroken 5 = .ok (.iload_n 1, 1) := by decide +kernel
theorem dX11_isBroken_6 : decode cX11_isBroken 6 = .ok (.invokevirtual 151, 3) := by decide +kernel
theorem dX11_isBroken_9 : decode cX11_isBroken 9 = .ok (.ifCond .eq 5, 3) := by decide +kernel
theorem dX11_isBroken_12 : decode cX11_isBroken 12 = .ok (.iconst 1, 1) := by decide +kernel
theorem dX11_isBroken_13 : decode cX11_isBroken 13 = .ok (.ireturn, 1) := by decide +kernel
theorem dX11_isBroken_14 : decode cX11_isBroken 14 = .ok (.aload_n 0, 1) := by decide +kernel
theorem dX11_isBroken_15 : decode cX11_isBroken 15 = .ok (.getfield 16, 3) := by decide +kernel
theorem dX11_isBroken_18 : decode cX11_isBroken 18 = .ok (.iconst 0, 1) := by decide +kernel
theorem dX11_isBroken_19 : decode cX11_isBroken 19 = .ok (.iconst 4, 1) := by decide +kernel
theorem dX11_isBroken_20 : decode cX11_isBroken 20 = .ok (.invokevirtual 151, 3) := by decide +kernel
theorem dX11_isBroken_23 : decode cX11_isBroken 23 = .ok (.ifCond .eq 5, 3) := by decide +kernel
theorem dX11_isBroken_26 : decode cX11_isBroken 26 = .ok (.iconst 0, 1) := by decide +kernel
theorem dX11_isBroken_27 : decode cX11_isBroken 27 = .ok (.ireturn, 1) := by decide +kernel
theorem dX11_isBroken_28 : decode cX11_isBroken 28 = .ok (.aload_n 0, 1) := by decide +kernel
theorem dX11_isBroken_29 : decode cX11_isBroken 29 = .ok (.getfield 16, 3) := by decide +kernel
theorem dX11_isBroken_32 : decode cX11_isBroken 32 = .ok (.iconst 0, 1) := by decide +kernel
theorem dX11_isBroken_33 : decode cX11_isBroken 33 = .ok (.bipush 8, 2) := by decide +kernel
theorem dX11_isBroken_35 : decode cX11_isBroken 35 = .ok (.iload_n 1, 1) := by decide +kernel
theorem dX11_isBroken_36 : decode cX11_isBroken 36 = .ok (.isub, 1) := by decide +kernel
theorem dX11_isBroken_37 : decode cX11_isBroken 37 = .ok (.invokevirtual 151, 3) := by decide +kernel
theorem dX11_isBroken_40 : decode cX11_isBroken 40 = .ok (.ireturn, 1) := by decide +kernel
theorem dX11_kindsThatFell_0 : decode cX11_kindsThatFell 0 = .ok (.iconst 0, 1) := by decide +kernel
theorem dX11_kindsThatFell_1 : decode cX11_kindsThatFell 1 = .ok (.istore_n 2, 1) := by decide +kernel
theorem dX11_kindsThatFell_2 : decode cX11_kindsThatFell 2 = .ok (.iconst 0, 1) := by decide +kernel
theorem dX11_kindsThatFell_3 : decode cX11_kindsThatFell 3 = .ok (.istore_n 3, 1) := by decide +kernel
theorem dX11_kindsThatFell_4 : decode cX11_kindsThatFell 4 = .ok (.iload_n 3, 1) := by decide +kernel
theorem dX11_kindsThatFell_5 : decode cX11_kindsThatFell 5 = .ok (.bipush 8, 2) := by decide +kernel
theorem dX11_kindsThatFell_7 : decode cX11_kindsThatFell 7 = .ok (.if_icmp .ge 35, 3) := by decide +kernel
theorem dX11_kindsThatFell_10 : decode cX11_kindsThatFell 10 = .ok (.aload_n 1, 1) := by decide +kernel
theorem dX11_kindsThatFell_11 : decode cX11_kindsThatFell 11 = .ok (.aload_n 0, 1) := by decide +kernel
theorem dX11_kindsThatFell_12 : decode cX11_kindsThatFell 12 = .ok (.getfield 30, 3) := by decide +kernel
theorem dX11_kindsThatFell_15 : decode cX11_kindsThatFell 15 = .ok (.iload_n 3, 1) := by decide +kernel
theorem dX11_kindsThatFell_16 : decode cX11_kindsThatFell 16 = .ok (.aaload, 1) := by decide +kernel
theorem dX11_kindsThatFell_17 : decode cX11_kindsThatFell 17 = .ok (.aload_n 0, 1) := by decide +kernel
theorem dX11_kindsThatFell_18 : decode cX11_kindsThatFell 18 = .ok (.getfield 12, 3) := by decide +kernel
theorem dX11_kindsThatFell_21 : decode cX11_kindsThatFell 21 = .ok (.getfield 264, 3) := by decide +kernel
theorem dX11_kindsThatFell_24 : decode cX11_kindsThatFell 24 = .ok (.invokestatic 344, 3) := by decide +kernel
theorem dX11_kindsThatFell_27 : decode cX11_kindsThatFell 27 = .ok (.ifCond .eq 9, 3) := by decide +kernel
theorem dX11_kindsThatFell_30 : decode cX11_kindsThatFell 30 = .ok (.iload_n 2, 1) := by decide +kernel
theorem dX11_kindsThatFell_31 : decode cX11_kindsThatFell 31 = .ok (.iconst 1, 1) := by decide +kernel
theorem dX11_kindsThatFell_32 : decode cX11_kindsThatFell 32 = .ok (.iload_n 3, 1) := by decide +kernel
theorem dX11_kindsThatFell_33 : decode cX11_kindsThatFell 33 = .ok (.ishl, 1) := by decide +kernel
theorem dX11_kindsThatFell_34 : decode cX11_kindsThatFell 34 = .ok (.ior, 1) := by decide +kernel
theorem dX11_kindsThatFell_35 : decode cX11_kindsThatFell 35 = .ok (.istore_n 2, 1) := by decide +kernel
theorem dX11_kindsThatFell_36 : decode cX11_kindsThatFell 36 = .ok (.iinc 3 1, 3) := by decide +kernel
theorem dX11_kindsThatFell_39 : decode cX11_kindsThatFell 39 = .ok (.goto (-35), 3) := by decide +kernel
theorem dX11_kindsThatFell_42 : decode cX11_kindsThatFell 42 = .ok (.iload_n 2, 1) := by decide +kernel
theorem dX11_kindsThatFell_43 : decode cX11_kindsThatFell 43 = .ok (.ireturn, 1) := by decide +kernel
theorem dX11_draughtsThatBlew_0 : decode cX11_draughtsThatBlew 0 = .ok (.iconst 0, 1) := by decide +kernel
theorem dX11_draughtsThatBlew_1 : decode cX11_draughtsThatBlew 1 = .ok (.istore_n 2, 1) := by decide +kernel
theorem dX11_draughtsThatBlew_2 : decode cX11_draughtsThatBlew 2 = .ok (.iconst (-1), 1) := by decide +kernel
theorem dX11_draughtsThatBlew_3 : decode cX11_draughtsThatBlew 3 = .ok (.istore_n 3, 1) := by decide +kernel
theorem dX11_draughtsThatBlew_4 : decode cX11_draughtsThatBlew 4 = .ok (.iload_n 3, 1) := by decide +kernel
theorem dX11_draughtsThatBlew_5 : decode cX11_draughtsThatBlew 5 = .ok (.iconst 1, 1) := by decide +kernel
theorem dX11_draughtsThatBlew_6 : decode cX11_draughtsThatBlew 6 = .ok (.if_icmp .gt 26, 3) := by decide +kernel
theorem dX11_draughtsThatBlew_9 : decode cX11_draughtsThatBlew 9 = .ok (.aload_n 0, 1) := by decide +kernel
theorem dX11_draughtsThatBlew_10 : decode cX11_draughtsThatBlew 10 = .ok (.aload_n 1, 1) := by decide +kernel
theorem dX11_draughtsThatBlew_11 : decode cX11_draughtsThatBlew 11 = .ok (.iload_n 3, 1) := by decide +kernel
theorem dX11_draughtsThatBlew_12 : decode cX11_draughtsThatBlew 12 = .ok (.invokestatic 344, 3) := by decide +kernel
theorem dX11_draughtsThatBlew_15 : decode cX11_draughtsThatBlew 15 = .ok (.ifCond .eq 11, 3) := by decide +kernel
theorem dX11_draughtsThatBlew_18 : decode cX11_draughtsThatBlew 18 = .ok (.iload_n 2, 1) := by decide +kernel
theorem dX11_draughtsThatBlew_19 : decode cX11_draughtsThatBlew 19 = .ok (.iconst 1, 1) := by decide +kernel
theorem dX11_draughtsThatBlew_20 : decode cX11_draughtsThatBlew 20 = .ok (.iload_n 3, 1) := by decide +kernel
theorem dX11_draughtsThatBlew_21 : decode cX11_draughtsThatBlew 21 = .ok (.iconst 1, 1) := by decide +kernel
theorem dX11_draughtsThatBlew_22 : decode cX11_draughtsThatBlew 22 = .ok (.iadd, 1) := by decide +kernel
theorem dX11_draughtsThatBlew_23 : decode cX11_draughtsThatBlew 23 = .ok (.ishl, 1) := by decide +kernel
theorem dX11_draughtsThatBlew_24 : decode cX11_draughtsThatBlew 24 = .ok (.ior, 1) := by decide +kernel
theorem dX11_draughtsThatBlew_25 : decode cX11_draughtsThatBlew 25 = .ok (.istore_n 2, 1) := by decide +kernel
theorem dX11_draughtsThatBlew_26 : decode cX11_draughtsThatBlew 26 = .ok (.iinc 3 1, 3) := by decide +kernel
theorem dX11_draughtsThatBlew_29 : decode cX11_draughtsThatBlew 29 = .ok (.goto (-25), 3) := by decide +kernel
theorem dX11_draughtsThatBlew_32 : decode cX11_draughtsThatBlew 32 = .ok (.iload_n 2, 1) := by decide +kernel
theorem dX11_draughtsThatBlew_33 : decode cX11_draughtsThatBlew 33 = .ok (.ireturn, 1) := by decide +kernel
theorem dX11_tellsFalls_0 : decode cX11_tellsFalls 0 = .ok (.iconst 0, 1) := by decide +kernel
theorem dX11_tellsFalls_1 : decode cX11_tellsFalls 1 = .ok (.istore_n 3, 1) := by decide +kernel
theorem dX11_tellsFalls_2 : decode cX11_tellsFalls 2 = .ok (.iload_n 3, 1) := by decide +kernel
theorem dX11_tellsFalls_3 : decode cX11_tellsFalls 3 = .ok (.aload_n 0, 1) := by decide +kernel
theorem dX11_tellsFalls_4 : decode cX11_tellsFalls 4 = .ok (.getfield 239, 3) := by decide +kernel
theorem dX11_tellsFalls_7 : decode cX11_tellsFalls 7 = .ok (.if_icmp .ge 25, 3) := by decide +kernel
theorem dX11_tellsFalls_10 : decode cX11_tellsFalls 10 = .ok (.aload_n 0, 1) := by decide +kernel
theorem dX11_tellsFalls_11 : decode cX11_tellsFalls 11 = .ok (.iload_n 3, 1) := by decide +kernel
theorem dX11_tellsFalls_12 : decode cX11_tellsFalls 12 = .ok (.aload_n 1, 1) := by decide +kernel
theorem dX11_tellsFalls_13 : decode cX11_tellsFalls 13 = .ok (.iload_n 3, 1) := by decide +kernel
theorem dX11_tellsFalls_14 : decode cX11_tellsFalls 14 = .ok (.iload_n 2, 1) := by decide +kernel
theorem dX11_tellsFalls_15 : decode cX11_tellsFalls 15 = .ok (.invokevirtual 348, 3) := by decide +kernel
theorem dX11_tellsFalls_18 : decode cX11_tellsFalls 18 = .ok (.invokevirtual 248, 3) := by decide +kernel
theorem dX11_tellsFalls_21 : decode cX11_tellsFalls 21 = .ok (.ifCond .ne 5, 3) := by decide +kernel
theorem dX11_tellsFalls_24 : decode cX11_tellsFalls 24 = .ok (.iconst 0, 1) := by decide +kernel
theorem dX11_tellsFalls_25 : decode cX11_tellsFalls 25 = .ok (.ireturn, 1) := by decide +kernel
theorem dX11_tellsFalls_26 : decode cX11_tellsFalls 26 = .ok (.iinc 3 1, 3) := by decide +kernel
theorem dX11_tellsFalls_29 : decode cX11_tellsFalls 29 = .ok (.goto (-27), 3) := by decide +kernel
theorem dX11_tellsFalls_32 : decode cX11_tellsFalls 32 = .ok (.iconst 1, 1) := by decide +kernel
theorem dX11_tellsFalls_33 : decode cX11_tellsFalls 33 = .ok (.ireturn, 1) := by decide +kernel
theorem dX11_tellsTakers_0 : decode cX11_tellsTakers 0 = .ok (.iconst 0, 1) := by decide +kernel
theorem dX11_tellsTakers_1 : decode cX11_tellsTakers 1 = .ok (.istore_n 2, 1) := by decide +kernel
theorem dX11_tellsTakers_2 : decode cX11_tellsTakers 2 = .ok (.iload_n 2, 1) := by decide +kernel
theorem dX11_tellsTakers_3 : decode cX11_tellsTakers 3 = .ok (.aload_n 0, 1) := by decide +kernel
theorem dX11_tellsTakers_4 : decode cX11_tellsTakers 4 = .ok (.getfield 239, 3) := by decide +kernel
theorem dX11_tellsTakers_7 : decode cX11_tellsTakers 7 = .ok (.if_icmp .ge 29, 3) := by decide +kernel
theorem dX11_tellsTakers_10 : decode cX11_tellsTakers 10 = .ok (.aload_n 0, 1) := by decide +kernel
theorem dX11_tellsTakers_11 : decode cX11_tellsTakers 11 = .ok (.iload_n 2, 1) := by decide +kernel
theorem dX11_tellsTakers_12 : decode cX11_tellsTakers 12 = .ok (.aload_n 1, 1) := by decide +kernel
theorem dX11_tellsTakers_13 : decode cX11_tellsTakers 13 = .ok (.aload_n 1, 1) := by decide +kernel
theorem dX11_tellsTakers_14 : decode cX11_tellsTakers 14 = .ok (.iconst 0, 1) := by decide +kernel
theorem dX11_tellsTakers_15 : decode cX11_tellsTakers 15 = .ok (.iload_n 2, 1) := by decide +kernel
theorem dX11_tellsTakers_16 : decode cX11_tellsTakers 16 = .ok (.invokevirtual 160, 3) := by decide +kernel
theorem dX11_tellsTakers_19 : decode cX11_tellsTakers 19 = .ok (.invokevirtual 163, 3) := by decide +kernel
theorem dX11_tellsTakers_22 : decode cX11_tellsTakers 22 = .ok (.invokevirtual 248, 3) := by decide +kernel
theorem dX11_tellsTakers_25 : decode cX11_tellsTakers 25 = .ok (.ifCond .ne 5, 3) := by decide +kernel
theorem dX11_tellsTakers_28 : decode cX11_tellsTakers 28 = .ok (.iconst 0, 1) := by decide +kernel
theorem dX11_tellsTakers_29 : decode cX11_tellsTakers 29 = .ok (.ireturn, 1) := by decide +kernel
theorem dX11_tellsTakers_30 : decode cX11_tellsTakers 30 = .ok (.iinc 2 1, 3) := by decide +kernel
theorem dX11_tellsTakers_33 : decode cX11_tellsTakers 33 = .ok (.goto (-31), 3) := by decide +kernel
theorem dX11_tellsTakers_36 : decode cX11_tellsTakers 36 = .ok (.iconst 1, 1) := by decide +kernel
theorem dX11_tellsTakers_37 : decode cX11_tellsTakers 37 = .ok (.ireturn, 1) := by decide +kernel
theorem dX11_outlay_0 : decode cX11_outlay 0 = .ok (.aload_n 0, 1) := by decide +kernel
theorem dX11_outlay_1 : decode cX11_outlay 1 = .ok (.getfield 16, 3) := by decide +kernel
theorem dX11_outlay_4 : decode cX11_outlay 4 = .ok (.aload_n 0, 1) := by decide +kernel
theorem dX11_outlay_5 : decode cX11_outlay 5 = .ok (.getfield 12, 3) := by decide +kernel
theorem dX11_outlay_8 : decode cX11_outlay 8 = .ok (.invokevirtual 60, 3) := by decide +kernel
theorem dX11_outlay_11 : decode cX11_outlay 11 = .ok (.aload_n 0, 1) := by decide +kernel
theorem dX11_outlay_12 : decode cX11_outlay 12 = .ok (.getfield 16, 3) := by decide +kernel
theorem dX11_outlay_15 : decode cX11_outlay 15 = .ok (.getfield 112, 3) := by decide +kernel
theorem dX11_outlay_18 : decode cX11_outlay 18 = .ok (.iconst 0, 1) := by decide +kernel
theorem dX11_outlay_19 : decode cX11_outlay 19 = .ok (.iload_n 2, 1) := by decide +kernel
theorem dX11_outlay_20 : decode cX11_outlay 20 = .ok (.iastore, 1) := by decide +kernel
theorem dX11_outlay_21 : decode cX11_outlay 21 = .ok (.aload_n 0, 1) := by decide +kernel
theorem dX11_outlay_22 : decode cX11_outlay 22 = .ok (.getfield 16, 3) := by decide +kernel
theorem dX11_outlay_25 : decode cX11_outlay 25 = .ok (.getfield 112, 3) := by decide +kernel
theorem dX11_outlay_28 : decode cX11_outlay 28 = .ok (.iconst 1, 1) := by decide +kernel
theorem dX11_outlay_29 : decode cX11_outlay 29 = .ok (.iload_n 3, 1) := by decide +kernel
theorem dX11_outlay_30 : decode cX11_outlay 30 = .ok (.iastore, 1) := by decide +kernel
theorem dX11_outlay_31 : decode cX11_outlay 31 = .ok (.iconst 0, 1) := by decide +kernel
theorem dX11_outlay_32 : decode cX11_outlay 32 = .ok (.istore 4, 2) := by decide +kernel
theorem dX11_outlay_34 : decode cX11_outlay 34 = .ok (.iconst 0, 1) := by decide +kernel
theorem dX11_outlay_35 : decode cX11_outlay 35 = .ok (.istore 5, 2) := by decide +kernel
theorem dX11_outlay_37 : decode cX11_outlay 37 = .ok (.iload 5, 2) := by decide +kernel
theorem dX11_outlay_39 : decode cX11_outlay 39 = .ok (.bipush 6, 2) := by decide +kernel
theorem dX11_outlay_41 : decode cX11_outlay 41 = .ok (.if_icmp .ge 29, 3) := by decide +kernel
theorem dX11_outlay_44 : decode cX11_outlay 44 = .ok (.iload 4, 2) := by decide +kernel
theorem dX11_outlay_46 : decode cX11_outlay 46 = .ok (.ifCond .ne 24, 3) := by decide +kernel
theorem dX11_outlay_49 : decode cX11_outlay 49 = .ok (.aload_n 0, 1) := by decide +kernel
theorem dX11_outlay_50 : decode cX11_outlay 50 = .ok (.getfield 16, 3) := by decide +kernel
theorem dX11_outlay_53 : decode cX11_outlay 53 = .ok (.iconst 0, 1) := by decide +kernel
theorem dX11_outlay_54 : decode cX11_outlay 54 = .ok (.iload 5, 2) := by decide +kernel
theorem dX11_outlay_56 : decode cX11_outlay 56 = .ok (.invokestatic 245, 3) := by decide +kernel
theorem dX11_outlay_59 : decode cX11_outlay 59 = .ok (.invokevirtual 151, 3) := by decide +kernel
theorem dX11_outlay_62 : decode cX11_outlay 62 = .ok (.istore 4, 2) := by decide +kernel
theorem dX11_outlay_64 : decode cX11_outlay 64 = .ok (.iinc 5 1, 3) := by decide +kernel
theorem dX11_outlay_67 : decode cX11_outlay 67 = .ok (.goto (-30), 3) := by decide +kernel
theorem dX11_outlay_70 : decode cX11_outlay 70 = .ok (.aload_n 0, 1) := by decide +kernel
theorem dX11_outlay_71 : decode cX11_outlay 71 = .ok (.getfield 16, 3) := by decide +kernel
theorem dX11_outlay_74 : decode cX11_outlay 74 = .ok (.getfield 118, 3) := by decide +kernel
theorem dX11_outlay_77 : decode cX11_outlay 77 = .ok (.iload_n 1, 1) := by decide +kernel
theorem dX11_outlay_78 : decode cX11_outlay 78 = .ok (.iaload, 1) := by decide +kernel
theorem dX11_outlay_79 : decode cX11_outlay 79 = .ok (.aload_n 0, 1) := by decide +kernel
theorem dX11_outlay_80 : decode cX11_outlay 80 = .ok (.getfield 12, 3) := by decide +kernel
theorem dX11_outlay_83 : decode cX11_outlay 83 = .ok (.getfield 118, 3) := by decide +kernel
theorem dX11_outlay_86 : decode cX11_outlay 86 = .ok (.iload_n 1, 1) := by decide +kernel
theorem dX11_outlay_87 : decode cX11_outlay 87 = .ok (.iaload, 1) := by decide +kernel
theorem dX11_outlay_88 : decode cX11_outlay 88 = .ok (.isub, 1) := by decide +kernel
theorem dX11_outlay_89 : decode cX11_outlay 89 = .ok (.istore 5, 2) := by decide +kernel
theorem dX11_outlay_91 : decode cX11_outlay 91 = .ok (.aload_n 0, 1) := by decide +kernel
theorem dX11_outlay_92 : decode cX11_outlay 92 = .ok (.getfield 16, 3) := by decide +kernel
theorem dX11_outlay_95 : decode cX11_outlay 95 = .ok (.getfield 102, 3) := by decide +kernel
theorem dX11_outlay_98 : decode cX11_outlay 98 = .ok (.iconst 2, 1) := by decide +kernel
theorem dX11_outlay_99 : decode cX11_outlay 99 = .ok (.iload_n 1, 1) := by decide +kernel
theorem dX11_outlay_100 : decode cX11_outlay 100 = .ok (.imul, 1) := by decide +kernel
theorem dX11_outlay_101 : decode cX11_outlay 101 = .ok (.iaload, 1) := by decide +kernel
theorem dX11_outlay_102 : decode cX11_outlay 102 = .ok (.aload_n 0, 1) := by decide +kernel
theorem dX11_outlay_103 : decode cX11_outlay 103 = .ok (.getfield 16, 3) := by decide +kernel
theorem dX11_outlay_106 : decode cX11_outlay 106 = .ok (.getfield 102, 3) := by decide +kernel
theorem dX11_outlay_109 : decode cX11_outlay 109 = .ok (.iconst 2, 1) := by decide +kernel
theorem dX11_outlay_110 : decode cX11_outlay 110 = .ok (.iload_n 1, 1) := by decide +kernel
theorem dX11_outlay_111 : decode cX11_outlay 111 = .ok (.imul, 1) := by decide +kernel
theorem dX11_outlay_112 : decode cX11_outlay 112 = .ok (.iconst 1, 1) := by decide +kernel
theorem dX11_outlay_113 : decode cX11_outlay 113 = .ok (.iadd, 1) := by decide +kernel
theorem dX11_outlay_114 : decode cX11_outlay 114 = .ok (.iaload, 1) := by decide +kernel
theorem dX11_outlay_115 : decode cX11_outlay 115 = .ok (.iadd, 1) := by decide +kernel
theorem dX11_outlay_116 : decode cX11_outlay 116 = .ok (.bipush 9, 2) := by decide +kernel
theorem dX11_outlay_118 : decode cX11_outlay 118 = .ok (.iload 5, 2) := by decide +kernel
theorem dX11_outlay_120 : decode cX11_outlay 120 = .ok (.imul, 1) := by decide +kernel
theorem dX11_outlay_121 : decode cX11_outlay 121 = .ok (.isub, 1) := by decide +kernel
theorem dX11_outlay_122 : decode cX11_outlay 122 = .ok (.ireturn, 1) := by decide +kernel
theorem dX11_staysInPlay_0 : decode cX11_staysInPlay 0 = .ok (.aload_n 0, 1) := by decide +kernel
theorem dX11_staysInPlay_1 : decode cX11_staysInPlay 1 = .ok (.getfield 16, 3) := by decide +kernel
theorem dX11_staysInPlay_4 : decode cX11_staysInPlay 4 = .ok (.aload_n 0, 1) := by decide +kernel
theorem dX11_staysInPlay_5 : decode cX11_staysInPlay 5 = .ok (.getfield 12, 3) := by decide +kernel
theorem dX11_staysInPlay_8 : decode cX11_staysInPlay 8 = .ok (.invokevirtual 60, 3) := by decide +kernel
theorem dX11_staysInPlay_11 : decode cX11_staysInPlay 11 = .ok (.iconst 0, 1) := by decide +kernel
theorem dX11_staysInPlay_12 : decode cX11_staysInPlay 12 = .ok (.istore_n 3, 1) := by decide +kernel
theorem dX11_staysInPlay_13 : decode cX11_staysInPlay 13 = .ok (.iload_n 3, 1) := by decide +kernel
theorem dX11_staysInPlay_14 : decode cX11_staysInPlay 14 = .ok (.iload_n 1, 1) := by decide +kernel
theorem dX11_staysInPlay_15 : decode cX11_staysInPlay 15 = .ok (.if_icmp .ge 50, 3) := by decide +kernel
theorem dX11_staysInPlay_18 : decode cX11_staysInPlay 18 = .ok (.aload_n 0, 1) := by decide +kernel
theorem dX11_staysInPlay_19 : decode cX11_staysInPlay 19 = .ok (.getfield 16, 3) := by decide +kernel
theorem dX11_staysInPlay_22 : decode cX11_staysInPlay 22 = .ok (.iload_n 2, 1) := by decide +kernel
theorem dX11_staysInPlay_23 : decode cX11_staysInPlay 23 = .ok (.iload_n 3, 1) := by decide +kernel
theorem dX11_staysInPlay_24 : decode cX11_staysInPlay 24 = .ok (.ishr, 1) := by decide +kernel
theorem dX11_staysInPlay_25 : decode cX11_staysInPlay 25 = .ok (.iconst 1, 1) := by decide +kernel
theorem dX11_staysInPlay_26 : decode cX11_staysInPlay 26 = .ok (.iand, 1) := by decide +kernel
theorem dX11_staysInPlay_27 : decode cX11_staysInPlay 27 = .ok (.iconst 1, 1) := by decide +kernel
theorem dX11_staysInPlay_28 : decode cX11_staysInPlay 28 = .ok (.if_icmp .ne 7, 3) := by decide +kernel
theorem dX11_staysInPlay_31 : decode cX11_staysInPlay 31 = .ok (.iconst 1, 1) := by decide +kernel
theorem dX11_staysInPlay_32 : decode cX11_staysInPlay 32 = .ok (.goto 10, 3) := by decide +kernel
theorem dX11_staysInPlay_35 : decode cX11_staysInPlay 35 = .ok (.aload_n 0, 1) := by decide +kernel
theorem dX11_staysInPlay_36 : decode cX11_staysInPlay 36 = .ok (.getfield 12, 3) := by decide +kernel
theorem dX11_staysInPlay_39 : decode cX11_staysInPlay 39 = .ok (.getfield 264, 3) := by decide +kernel
theorem dX11_staysInPlay_42 : decode cX11_staysInPlay 42 = .ok (.putfield 264, 3) := by decide +kernel
theorem dX11_staysInPlay_45 : decode cX11_staysInPlay 45 = .ok (.aload_n 0, 1) := by decide +kernel
theorem dX11_staysInPlay_46 : decode cX11_staysInPlay 46 = .ok (.getfield 16, 3) := by decide +kernel
theorem dX11_staysInPlay_49 : decode cX11_staysInPlay 49 = .ok (.iload_n 3, 1) := by decide +kernel
theorem dX11_staysInPlay_50 : decode cX11_staysInPlay 50 = .ok (.iconst 2, 1) := by decide +kernel
theorem dX11_staysInPlay_51 : decode cX11_staysInPlay 51 = .ok (.invokevirtual 151, 3) := by decide +kernel
theorem dX11_staysInPlay_54 : decode cX11_staysInPlay 54 = .ok (.ifCond .eq 5, 3) := by decide +kernel
theorem dX11_staysInPlay_57 : decode cX11_staysInPlay 57 = .ok (.iconst 0, 1) := by decide +kernel
theorem dX11_staysInPlay_58 : decode cX11_staysInPlay 58 = .ok (.ireturn, 1) := by decide +kernel
theorem dX11_staysInPlay_59 : decode cX11_staysInPlay 59 = .ok (.iinc 3 1, 3) := by decide +kernel
theorem dX11_staysInPlay_62 : decode cX11_staysInPlay 62 = .ok (.goto (-49), 3) := by decide +kernel
theorem dX11_staysInPlay_65 : decode cX11_staysInPlay 65 = .ok (.iconst 1, 1) := by decide +kernel
theorem dX11_staysInPlay_66 : decode cX11_staysInPlay 66 = .ok (.ireturn, 1) := by decide +kernel
theorem dX11_power_0 : decode cX11_power 0 = .ok (.lconst 1, 1) := by decide +kernel
theorem dX11_power_1 : decode cX11_power 1 = .ok (.lstore_n 2, 1) := by decide +kernel
theorem dX11_power_2 : decode cX11_power 2 = .ok (.iconst 0, 1) := by decide +kernel
theorem dX11_power_3 : decode cX11_power 3 = .ok (.istore 4, 2) := by decide +kernel
theorem dX11_power_5 : decode cX11_power 5 = .ok (.iload 4, 2) := by decide +kernel
theorem dX11_power_7 : decode cX11_power 7 = .ok (.iload_n 1, 1) := by decide +kernel
theorem dX11_power_8 : decode cX11_power 8 = .ok (.if_icmp .ge 14, 3) := by decide +kernel
theorem dX11_power_11 : decode cX11_power 11 = .ok (.lload_n 2, 1) := by decide +kernel
theorem dX11_power_12 : decode cX11_power 12 = .ok (.iload_n 0, 1) := by decide +kernel
theorem dX11_power_13 : decode cX11_power 13 = .ok (.i2l, 1) := by decide +kernel
theorem dX11_power_14 : decode cX11_power 14 = .ok (.lmul, 1) := by decide +kernel
theorem dX11_power_15 : decode cX11_power 15 = .ok (.lstore_n 2, 1) := by decide +kernel
theorem dX11_power_16 : decode cX11_power 16 = .ok (.iinc 4 1, 3) := by decide +kernel
theorem dX11_power_19 : decode cX11_power 19 = .ok (.goto (-14), 3) := by decide +kernel
theorem dX11_power_22 : decode cX11_power 22 = .ok (.lload_n 2, 1) := by decide +kernel
theorem dX11_power_23 : decode cX11_power 23 = .ok (.lreturn, 1) := by decide +kernel
theorem dX11_inLeastTerms_0 : decode cX11_inLeastTerms 0 = .ok (.lload_n 0, 1) := by decide +kernel
theorem dX11_inLeastTerms_1 : decode cX11_inLeastTerms 1 = .ok (.lload_n 2, 1) := by decide +kernel
theorem dX11_inLeastTerms_2 : decode cX11_inLeastTerms 2 = .ok (.invokestatic 349, 3) := by decide +kernel
theorem dX11_inLeastTerms_5 : decode cX11_inLeastTerms 5 = .ok (.lstore 5, 2) := by decide +kernel
theorem dX11_inLeastTerms_7 : decode cX11_inLeastTerms 7 = .ok (.iload 4, 2) := by decide +kernel
theorem dX11_inLeastTerms_9 : decode cX11_inLeastTerms 9 = .ok (.ifCond .ne 10, 3) := by decide +kernel
theorem dX11_inLeastTerms_12 : decode cX11_inLeastTerms 12 = .ok (.lload_n 0, 1) := by decide +kernel
theorem dX11_inLeastTerms_13 : decode cX11_inLeastTerms 13 = .ok (.lload 5, 2) := by decide +kernel
theorem dX11_inLeastTerms_15 : decode cX11_inLeastTerms 15 = .ok (.ldiv, 1) := by decide +kernel
theorem dX11_inLeastTerms_16 : decode cX11_inLeastTerms 16 = .ok (.goto 7, 3) := by decide +kernel
theorem dX11_inLeastTerms_19 : decode cX11_inLeastTerms 19 = .ok (.lload_n 2, 1) := by decide +kernel
theorem dX11_inLeastTerms_20 : decode cX11_inLeastTerms 20 = .ok (.lload 5, 2) := by decide +kernel
theorem dX11_inLeastTerms_22 : decode cX11_inLeastTerms 22 = .ok (.ldiv, 1) := by decide +kernel
theorem dX11_inLeastTerms_23 : decode cX11_inLeastTerms 23 = .ok (.lreturn, 1) := by decide +kernel
theorem dX11_commonDivisor_0 : decode cX11_commonDivisor 0 = .ok (.lload_n 0, 1) := by decide +kernel
theorem dX11_commonDivisor_1 : decode cX11_commonDivisor 1 = .ok (.lstore 4, 2) := by decide +kernel
theorem dX11_commonDivisor_3 : decode cX11_commonDivisor 3 = .ok (.lload_n 2, 1) := by decide +kernel
theorem dX11_commonDivisor_4 : decode cX11_commonDivisor 4 = .ok (.lstore 6, 2) := by decide +kernel
theorem dX11_commonDivisor_6 : decode cX11_commonDivisor 6 = .ok (.iconst 0, 1) := by decide +kernel
theorem dX11_commonDivisor_7 : decode cX11_commonDivisor 7 = .ok (.istore 8, 2) := by decide +kernel
theorem dX11_commonDivisor_9 : decode cX11_commonDivisor 9 = .ok (.iload 8, 2) := by decide +kernel
theorem dX11_commonDivisor_11 : decode cX11_commonDivisor 11 = .ok (.bipush 64, 2) := by decide +kernel
theorem dX11_commonDivisor_13 : decode cX11_commonDivisor 13 = .ok (.if_icmp .ge 31, 3) := by decide +kernel
theorem dX11_commonDivisor_16 : decode cX11_commonDivisor 16 = .ok (.lload 4, 2) := by decide +kernel
theorem dX11_commonDivisor_18 : decode cX11_commonDivisor 18 = .ok (.lconst 0, 1) := by decide +kernel
theorem dX11_commonDivisor_19 : decode cX11_commonDivisor 19 = .ok (.lcmp, 1) := by decide +kernel
theorem dX11_commonDivisor_20 : decode cX11_commonDivisor 20 = .ok (.ifCond .eq 24, 3) := by decide +kernel
theorem dX11_commonDivisor_23 : decode cX11_commonDivisor 23 = .ok (.lload 6, 2) := by decide +kernel
theorem dX11_commonDivisor_25 : decode cX11_commonDivisor 25 = .ok (.lload 4, 2) := by decide +kernel
theorem dX11_commonDivisor_27 : decode cX11_commonDivisor 27 = .ok (.lrem, 1) := by decide +kernel
theorem dX11_commonDivisor_28 : decode cX11_commonDivisor 28 = .ok (.lstore 9, 2) := by decide +kernel
theorem dX11_commonDivisor_30 : decode cX11_commonDivisor 30 = .ok (.lload 4, 2) := by decide +kernel
theorem dX11_commonDivisor_32 : decode cX11_commonDivisor 32 = .ok (.lstore 6, 2) := by decide +kernel
theorem dX11_commonDivisor_34 : decode cX11_commonDivisor 34 = .ok (.lload 9, 2) := by decide +kernel
theorem dX11_commonDivisor_36 : decode cX11_commonDivisor 36 = .ok (.lstore 4, 2) := by decide +kernel
theorem dX11_commonDivisor_38 : decode cX11_commonDivisor 38 = .ok (.iinc 8 1, 3) := by decide +kernel
theorem dX11_commonDivisor_41 : decode cX11_commonDivisor 41 = .ok (.goto (-32), 3) := by decide +kernel
theorem dX11_commonDivisor_44 : decode cX11_commonDivisor 44 = .ok (.lload 6, 2) := by decide +kernel
theorem dX11_commonDivisor_46 : decode cX11_commonDivisor 46 = .ok (.lconst 1, 1) := by decide +kernel
theorem dX11_commonDivisor_47 : decode cX11_commonDivisor 47 = .ok (.invokestatic 353, 3) := by decide +kernel
theorem dX11_commonDivisor_50 : decode cX11_commonDivisor 50 = .ok (.lreturn, 1) := by decide +kernel
theorem dX11_draw_0 : decode cX11_draw 0 = .ok (.aload_n 0, 1) := by decide +kernel
theorem dX11_draw_1 : decode cX11_draw 1 = .ok (.aload_n 0, 1) := by decide +kernel
theorem dX11_draw_2 : decode cX11_draw 2 = .ok (.getfield 251, 3) := by decide +kernel
theorem dX11_draw_5 : decode cX11_draw 5 = .ok (.ldc_w 356, 3) := by decide +kernel
theorem dX11_draw_8 : decode cX11_draw 8 = .ok (.imul, 1) := by decide +kernel
theorem dX11_draw_9 : decode cX11_draw 9 = .ok (.sipush 12345, 3) := by decide +kernel
theorem dX11_draw_12 : decode cX11_draw 12 = .ok (.iadd, 1) := by decide +kernel
theorem dX11_draw_13 : decode cX11_draw 13 = .ok (.putfield 251, 3) := by decide +kernel
theorem dX11_draw_16 : decode cX11_draw 16 = .ok (.aload_n 0, 1) := by decide +kernel
theorem dX11_draw_17 : decode cX11_draw 17 = .ok (.getfield 251, 3) := by decide +kernel
theorem dX11_draw_20 : decode cX11_draw 20 = .ok (.ldc_w 357, 3) := by decide +kernel
theorem dX11_draw_23 : decode cX11_draw 23 = .ok (.iand, 1) := by decide +kernel
theorem dX11_draw_24 : decode cX11_draw 24 = .ok (.ldc_w 358, 3) := by decide +kernel
theorem dX11_draw_27 : decode cX11_draw 27 = .ok (.idiv, 1) := by decide +kernel
theorem dX11_draw_28 : decode cX11_draw 28 = .ok (.iload_n 1, 1) := by decide +kernel
theorem dX11_draw_29 : decode cX11_draw 29 = .ok (.irem, 1) := by decide +kernel
theorem dX11_draw_30 : decode cX11_draw 30 = .ok (.ireturn, 1) := by decide +kernel
theorem dX12_init_0 : decode cX12_init 0 = .ok (.aload_n 0, 1) := by decide +kernel
theorem dX12_init_1 : decode cX12_init 1 = .ok (.invokespecial 1, 3) := by decide +kernel
theorem dX12_init_4 : decode cX12_init 4 = .ok (.aload_n 0, 1) := by decide +kernel
theorem dX12_init_5 : decode cX12_init 5 = .ok (.bipush 42, 2) := by decide +kernel
theorem dX12_init_7 : decode cX12_init 7 = .ok (.newarray .int, 2) := by decide +kernel
theorem dX12_init_9 : decode cX12_init 9 = .ok (.putfield 9, 3) := by decide +kernel
theorem dX12_init_12 : decode cX12_init 12 = .ok (.aload_n 0, 1) := by decide +kernel
theorem dX12_init_13 : decode cX12_init 13 = .ok (.bipush 42, 2) := by decide +kernel
theorem dX12_init_15 : decode cX12_init 15 = .ok (.newarray .int, 2) := by decide +kernel
theorem dX12_init_17 : decode cX12_init 17 = .ok (.putfield 13, 3) := by decide +kernel
theorem dX12_init_20 : decode cX12_init 20 = .ok (.aload_n 0, 1) := by decide +kernel
theorem dX12_init_21 : decode cX12_init 21 = .ok (.bipush 42, 2) := by decide +kernel
theorem dX12_init_23 : decode cX12_init 23 = .ok (.newarray .int, 2) := by decide +kernel
theorem dX12_init_25 : decode cX12_init 25 = .ok (.putfield 16, 3) := by decide +kernel
theorem dX12_init_28 : decode cX12_init 28 = .ok (.aload_n 0, 1) := by decide +kernel
theorem dX12_init_29 : decode cX12_init 29 = .ok (.bipush 42, 2) := by decide +kernel
theorem dX12_init_31 : decode cX12_init 31 = .ok (.newarray .int, 2) := by decide +kernel
theorem dX12_init_33 : decode cX12_init 33 = .ok (.putfield 19, 3) := by decide +kernel
theorem dX12_init_36 : decode cX12_init 36 = .ok (.aload_n 0, 1) := by decide +kernel
theorem dX12_init_37 : decode cX12_init 37 = .ok (.iconst 4, 1) := by decide +kernel
theorem dX12_init_38 : decode cX12_init 38 = .ok (.newarray .int, 2) := by decide +kernel
theorem dX12_init_40 : decode cX12_init 40 = .ok (.putfield 22, 3) := by decide +kernel
theorem dX12_init_43 : decode cX12_init 43 = .ok (.aload_n 0, 1) := by decide +kernel
theorem dX12_init_44 : decode cX12_init 44 = .ok (.iconst 3, 1) := by decide +kernel
theorem dX12_init_45 : decode cX12_init 45 = .ok (.newarray .int, 2) := by decide +kernel
theorem dX12_init_47 : decode cX12_init 47 = .ok (.putfield 25, 3) := by decide +kernel
theorem dX12_init_50 : decode cX12_init 50 = .ok (.aload_n 0, 1) := by decide +kernel
theorem dX12_init_51 : decode cX12_init 51 = .ok (.bipush 8, 2) := by decide +kernel
theorem dX12_init_53 : decode cX12_init 53 = .ok (.newarray .int, 2) := by decide +kernel
theorem dX12_init_55 : decode cX12_init 55 = .ok (.putfield 28, 3) := by decide +kernel
theorem dX12_init_58 : decode cX12_init 58 = .ok (.aload_n 0, 1) := by decide +kernel
theorem dX12_init_59 : decode cX12_init 59 = .ok (.bipush 8, 2) := by decide +kernel
theorem dX12_init_61 : decode cX12_init 61 = .ok (.newarray .int, 2) := by decide +kernel
theorem dX12_init_63 : decode cX12_init 63 = .ok (.putfield 31, 3) := by decide +kernel
theorem dX12_init_66 : decode cX12_init 66 = .ok (.aload_n 0, 1) := by decide +kernel
theorem dX12_init_67 : decode cX12_init 67 = .ok (.bipush 8, 2) := by decide +kernel
theorem dX12_init_69 : decode cX12_init 69 = .ok (.newarray .int, 2) := by decide +kernel
theorem dX12_init_71 : decode cX12_init 71 = .ok (.putfield 34, 3) := by decide +kernel
theorem dX12_init_74 : decode cX12_init 74 = .ok (.aload_n 0, 1) := by decide +kernel
theorem dX12_init_75 : decode cX12_init 75 = .ok (.bipush 8, 2) := by decide +kernel
theorem dX12_init_77 : decode cX12_init 77 = .ok (.newarray .int, 2) := by decide +kernel
theorem dX12_init_79 : decode cX12_init 79 = .ok (.putfield 37, 3) := by decide +kernel
theorem dX12_init_82 : decode cX12_init 82 = .ok (.aload_n 0, 1) := by decide +kernel
theorem dX12_init_83 : decode cX12_init 83 = .ok (.bipush 8, 2) := by decide +kernel
theorem dX12_init_85 : decode cX12_init 85 = .ok (.newarray .int, 2) := by decide +kernel
theorem dX12_init_87 : decode cX12_init 87 = .ok (.putfield 40, 3) := by decide +kernel
theorem dX12_init_90 : decode cX12_init 90 = .ok (.aload_n 0, 1) := by decide +kernel
theorem dX12_init_91 : decode cX12_init 91 = .ok (.sipush 800, 3) := by decide +kernel
theorem dX12_init_94 : decode cX12_init 94 = .ok (.newarray .int, 2) := by decide +kernel
theorem dX12_init_96 : decode cX12_init 96 = .ok (.putfield 43, 3) := by decide +kernel
theorem dX12_init_99 : decode cX12_init 99 = .ok (.iconst 0, 1) := by decide +kernel
theorem dX12_init_100 : decode cX12_init 100 = .ok (.istore_n 1, 1) := by decide +kernel
theorem dX12_init_101 : decode cX12_init 101 = .ok (.iload_n 1, 1) := by decide +kernel
theorem dX12_init_102 : decode cX12_init 102 = .ok (.iconst 4, 1) := by decide +kernel
theorem dX12_init_103 : decode cX12_init 103 = .ok (.if_icmp .ge 42, 3) := by decide +kernel
theorem dX12_init_106 : decode cX12_init 106 = .ok (.aload_n 0, 1) := by decide +kernel
theorem dX12_init_107 : decode cX12_init 107 = .ok (.getfield 9, 3) := by decide +kernel
theorem dX12_init_110 : decode cX12_init 110 = .ok (.iload_n 1, 1) := by decide +kernel
theorem dX12_init_111 : decode cX12_init 111 = .ok (.iconst 0, 1) := by decide +kernel
theorem dX12_init_112 : decode cX12_init 112 = .ok (.invokestatic 46, 3) := by decide +kernel
theorem dX12_init_115 : decode cX12_init 115 = .ok (.iload_n 1, 1) := by decide +kernel
theorem dX12_init_116 : decode cX12_init 116 = .ok (.iconst 2, 1) := by decide +kernel
theorem dX12_init_117 : decode cX12_init 117 = .ok (.irem, 1) := by decide +kernel
theorem dX12_init_118 : decode cX12_init 118 = .ok (.ifCond .ne 7, 3) := by decide +kernel
theorem dX12_init_121 : decode cX12_init 121 = .ok (.iconst 1, 1) := by decide +kernel
theorem dX12_init_122 : decode cX12_init 122 = .ok (.goto 5, 3) := by decide +kernel
theorem dX12_init_125 : decode cX12_init 125 = .ok (.bipush 7, 2) := by decide +kernel
theorem dX12_init_127 : decode cX12_init 127 = .ok (.iastore, 1) := by decide +kernel
theorem dX12_init_128 : decode cX12_init 128 = .ok (.aload_n 0, 1) := by decide +kernel
theorem dX12_init_129 : decode cX12_init 129 = .ok (.getfield 9, 3) := by decide +kernel
theorem dX12_init_132 : decode cX12_init 132 = .ok (.iload_n 1, 1) := by decide +kernel
theorem dX12_init_133 : decode cX12_init 133 = .ok (.iconst 1, 1) := by decide +kernel
theorem dX12_init_134 : decode cX12_init 134 = .ok (.invokestatic 46, 3) := by decide +kernel
theorem dX12_init_137 : decode cX12_init 137 = .ok (.iconst 1, 1) := by decide +kernel
theorem dX12_init_138 : decode cX12_init 138 = .ok (.iastore, 1) := by decide +kernel
theorem dX12_init_139 : decode cX12_init 139 = .ok (.iinc 1 1, 3) := by decide +kernel
theorem dX12_init_142 : decode cX12_init 142 = .ok (.goto (-41), 3) := by decide +kernel
theorem dX12_init_145 : decode cX12_init 145 = .ok (.aload_n 0, 1) := by decide +kernel
theorem dX12_init_146 : decode cX12_init 146 = .ok (.getfield 9, 3) := by decide +kernel
theorem dX12_init_149 : decode cX12_init 149 = .ok (.iconst 0, 1) := by decide +kernel
theorem dX12_init_150 : decode cX12_init 150 = .ok (.iconst 1, 1) := by decide +kernel
theorem dX12_init_151 : decode cX12_init 151 = .ok (.invokestatic 50, 3) := by decide +kernel
theorem dX12_init_154 : decode cX12_init 154 = .ok (.iconst 1, 1) := by decide +kernel
theorem dX12_init_155 : decode cX12_init 155 = .ok (.iastore, 1) := by decide +kernel
theorem dX12_init_156 : decode cX12_init 156 = .ok (.aload_n 0, 1) := by decide +kernel
theorem dX12_init_157 : decode cX12_init 157 = .ok (.getfield 9, 3) := by decide +kernel
theorem dX12_init_160 : decode cX12_init 160 = .ok (.iconst 1, 1) := by decide +kernel
theorem dX12_init_161 : decode cX12_init 161 = .ok (.iconst 1, 1) := by decide +kernel
theorem dX12_init_162 : decode cX12_init 162 = .ok (.invokestatic 50, 3) := by decide +kernel
theorem dX12_init_165 : decode cX12_init 165 = .ok (.iconst 1, 1) := by decide +kernel
theorem dX12_init_166 : decode cX12_init 166 = .ok (.iastore, 1) := by decide +kernel
theorem dX12_init_167 : decode cX12_init 167 = .ok (.return_, 1) := by decide +kernel
theorem dX12_isIn_0 : decode cX12_isIn 0 = .ok (.iload_n 0, 1) := by decide +kernel
theorem dX12_isIn_1 : decode cX12_isIn 1 = .ok (.iload_n 1, 1) := by decide +kernel
theorem dX12_isIn_2 : decode cX12_isIn 2 = .ok (.if_icmp .lt 12, 3) := by decide +kernel
theorem dX12_isIn_5 : decode cX12_isIn 5 = .ok (.iload_n 0, 1) := by decide +kernel
theorem dX12_isIn_6 : decode cX12_isIn 6 = .ok (.iload_n 2, 1) := by decide +kernel
theorem dX12_isIn_7 : decode cX12_isIn 7 = .ok (.if_icmp .gt 7, 3) := by decide +kernel
theorem dX12_isIn_10 : decode cX12_isIn 10 = .ok (.iconst 1, 1) := by decide +kernel
theorem dX12_isIn_11 : decode cX12_isIn 11 = .ok (.goto 4, 3) := by decide +kernel
theorem dX12_isIn_14 : decode cX12_isIn 14 = .ok (.iconst 0, 1) := by decide +kernel
theorem dX12_isIn_15 : decode cX12_isIn 15 = .ok (.ireturn, 1) := by decide +kernel
theorem dX12_least_0 : decode cX12_least 0 = .ok (.iload_n 0, 1) := by decide +kernel
theorem dX12_least_1 : decode cX12_least 1 = .ok (.iload_n 1, 1) := by decide +kernel
theorem dX12_least_2 : decode cX12_least 2 = .ok (.if_icmp .ge 7, 3) := by decide +kernel
theorem dX12_least_5 : decode cX12_least 5 = .ok (.iload_n 0, 1) := by decide +kernel
theorem dX12_least_6 : decode cX12_least 6 = .ok (.goto 4, 3) := by decide +kernel
theorem dX12_least_9 : decode cX12_least 9 = .ok (.iload_n 1, 1) := by decide +kernel
theorem dX12_least_10 : decode cX12_least 10 = .ok (.ireturn, 1) := by decide +kernel
theorem dX12_copies_0 : decode cX12_copies 0 = .ok (.iconst 0, 1) := by decide +kernel
theorem dX12_copies_1 : decode cX12_copies 1 = .ok (.istore_n 2, 1) := by decide +kernel
theorem dX12_copies_2 : decode cX12_copies 2 = .ok (.iload_n 2, 1) := by decide +kernel
theorem dX12_copies_3 : decode cX12_copies 3 = .ok (.bipush 42, 2) := by decide +kernel
theorem dX12_copies_5 : decode cX12_copies 5 = .ok (.if_icmp .ge 15, 3) := by decide +kernel
theorem dX12_copies_8 : decode cX12_copies 8 = .ok (.aload_n 1, 1) := by decide +kernel
theorem dX12_copies_9 : decode cX12_copies 9 = .ok (.iload_n 2, 1) := by decide +kernel
theorem dX12_copies_10 : decode cX12_copies 10 = .ok (.aload_n 0, 1) := by decide +kernel
theorem dX12_copies_11 : decode cX12_copies 11 = .ok (.iload_n 2, 1) := by decide +kernel
theorem dX12_copies_12 : decode cX12_copies 12 = .ok (.iaload, 1) := by decide +kernel
theorem dX12_copies_13 : decode cX12_copies 13 = .ok (.iastore, 1) := by decide +kernel
theorem dX12_copies_14 : decode cX12_copies 14 = .ok (.iinc 2 1, 3) := by decide +kernel
theorem dX12_copies_17 : decode cX12_copies 17 = .ok (.goto (-15), 3) := by decide +kernel
theorem dX12_copies_20 : decode cX12_copies 20 = .ok (.return_, 1) := by decide +kernel
theorem dX12_ofS_0 : decode cX12_ofS 0 = .ok (.iconst 4, 1) := by decide +kernel
theorem dX12_ofS_1 : decode cX12_ofS 1 = .ok (.iconst 2, 1) := by decide +kernel
theorem dX12_ofS_2 : decode cX12_ofS 2 = .ok (.iload_n 0, 1) := by decide +kernel
theorem dX12_ofS_3 : decode cX12_ofS 3 = .ok (.imul, 1) := by decide +kernel
theorem dX12_ofS_4 : decode cX12_ofS 4 = .ok (.iadd, 1) := by decide +kernel
theorem dX12_ofS_5 : decode cX12_ofS 5 = .ok (.iload_n 1, 1) := by decide +kernel
theorem dX12_ofS_6 : decode cX12_ofS 6 = .ok (.iadd, 1) := by decide +kernel
theorem dX12_ofS_7 : decode cX12_ofS 7 = .ok (.ireturn, 1) := by decide +kernel
theorem dX12_ofP_0 : decode cX12_ofP 0 = .ok (.bipush 20, 2) := by decide +kernel
theorem dX12_ofP_2 : decode cX12_ofP 2 = .ok (.iconst 4, 1) := by decide +kernel
theorem dX12_ofP_3 : decode cX12_ofP 3 = .ok (.iload_n 0, 1) := by decide +kernel
theorem dX12_ofP_4 : decode cX12_ofP 4 = .ok (.imul, 1) := by decide +kernel
theorem dX12_ofP_5 : decode cX12_ofP 5 = .ok (.iadd, 1) := by decide +kernel
theorem dX12_ofP_6 : decode cX12_ofP 6 = .ok (.iload_n 1, 1) := by decide +kernel
theorem dX12_ofP_7 : decode cX12_ofP 7 = .ok (.iadd, 1) := by decide +kernel
theorem dX12_ofP_8 : decode cX12_ofP 8 = .ok (.ireturn, 1) := by decide +kernel
theorem dX12_ofSide_0 : decode cX12_ofSide 0 = .ok (.bipush 36, 2) := by decide +kernel
theorem dX12_ofSide_2 : decode cX12_ofSide 2 = .ok (.iconst 3, 1) := by decide +kernel
theorem dX12_ofSide_3 : decode cX12_ofSide 3 = .ok (.iload_n 0, 1) := by decide +kernel
theorem dX12_ofSide_4 : decode cX12_ofSide 4 = .ok (.imul, 1) := by decide +kernel
theorem dX12_ofSide_5 : decode cX12_ofSide 5 = .ok (.iadd, 1) := by decide +kernel
theorem dX12_ofSide_6 : decode cX12_ofSide 6 = .ok (.iload_n 1, 1) := by decide +kernel
theorem dX12_ofSide_7 : decode cX12_ofSide 7 = .ok (.iadd, 1) := by decide +kernel
theorem dX12_ofSide_8 : decode cX12_ofSide 8 = .ok (.ireturn, 1) := by decide +kernel
theorem dX12_isStroke_0 : decode cX12_isStroke 0 = .ok (.iload_n 1, 1) := by decide +kernel
theorem dX12_isStroke_1 : decode cX12_isStroke 1 = .ok (.iconst 0, 1) := by decide +kernel
theorem dX12_isStroke_2 : decode cX12_isStroke 2 = .ok (.aload_n 0, 1) := by decide +kernel
theorem dX12_isStroke_3 : decode cX12_isStroke 3 = .ok (.getfield 9, 3) := by decide +kernel
theorem dX12_isStroke_6 : decode cX12_isStroke 6 = .ok (.iconst 0, 1) := by decide +kernel
theorem dX12_isStroke_7 : decode cX12_isStroke 7 = .ok (.iaload, 1) := by decide +kernel
theorem dX12_isStroke_8 : decode cX12_isStroke 8 = .ok (.iconst 1, 1) := by decide +kernel
theorem dX12_isStroke_9 : decode cX12_isStroke 9 = .ok (.isub, 1) := by decide +kernel
theorem dX12_isStroke_10 : decode cX12_isStroke 10 = .ok (.invokestatic 53, 3) := by decide +kernel
theorem dX12_isStroke_13 : decode cX12_isStroke 13 = .ok (.ireturn, 1) := by decide +kernel
theorem dX12_isCell_0 : decode cX12_isCell 0 = .ok (.iload_n 0, 1) := by decide +kernel
theorem dX12_isCell_1 : decode cX12_isCell 1 = .ok (.iconst 0, 1) := by decide +kernel
theorem dX12_isCell_2 : decode cX12_isCell 2 = .ok (.bipush 8, 2) := by decide +kernel
theorem dX12_isCell_4 : decode cX12_isCell 4 = .ok (.invokestatic 53, 3) := by decide +kernel
theorem dX12_isCell_7 : decode cX12_isCell 7 = .ok (.ireturn, 1) := by decide +kernel
theorem dX12_isPlayer_0 : decode cX12_isPlayer 0 = .ok (.iload_n 0, 1) := by decide +kernel
theorem dX12_isPlayer_1 : decode cX12_isPlayer 1 = .ok (.iconst 0, 1) := by decide +kernel
theorem dX12_isPlayer_2 : decode cX12_isPlayer 2 = .ok (.iconst 3, 1) := by decide +kernel
theorem dX12_isPlayer_3 : decode cX12_isPlayer 3 = .ok (.invokestatic 53, 3) := by decide +kernel
theorem dX12_isPlayer_6 : decode cX12_isPlayer 6 = .ok (.ireturn, 1) := by decide +kernel
theorem dX12_has_0 : decode cX12_has 0 = .ok (.iload_n 0, 1) := by decide +kernel
theorem dX12_has_1 : decode cX12_has 1 = .ok (.iload_n 1, 1) := by decide +kernel
theorem dX12_has_2 : decode cX12_has 2 = .ok (.ishr, 1) := by decide +kernel
theorem dX12_has_3 : decode cX12_has 3 = .ok (.iconst 1, 1) := by decide +kernel
theorem dX12_has_4 : decode cX12_has 4 = .ok (.iand, 1) := by decide +kernel
theorem dX12_has_5 : decode cX12_has 5 = .ok (.iconst 1, 1) := by decide +kernel
theorem dX12_has_6 : decode cX12_has 6 = .ok (.if_icmp .ne 7, 3) := by decide +kernel
theorem dX12_has_9 : decode cX12_has 9 = .ok (.iconst 1, 1) := by decide +kernel
theorem dX12_has_10 : decode cX12_has 10 = .ok (.goto 4, 3) := by decide +kernel
theorem dX12_has_13 : decode cX12_has 13 = .ok (.iconst 0, 1) := by decide +kernel
theorem dX12_has_14 : decode cX12_has 14 = .ok (.ireturn, 1) := by decide +kernel
theorem dX12_apart_0 : decode cX12_apart 0 = .ok (.iload_n 0, 1) := by decide +kernel
theorem dX12_apart_1 : decode cX12_apart 1 = .ok (.iload_n 1, 1) := by decide +kernel
theorem dX12_apart_2 : decode cX12_apart 2 = .ok (.if_icmp .ge 9, 3) := by decide +kernel
theorem dX12_apart_5 : decode cX12_apart 5 = .ok (.iload_n 1, 1) := by decide +kernel
theorem dX12_apart_6 : decode cX12_apart 6 = .ok (.iload_n 0, 1) := by decide +kernel
theorem dX12_apart_7 : decode cX12_apart 7 = .ok (.isub, 1) := by decide +kernel
theorem dX12_apart_8 : decode cX12_apart 8 = .ok (.goto 6, 3) := by decide +kernel
theorem dX12_apart_11 : decode cX12_apart 11 = .ok (.iload_n 0, 1) := by decide +kernel
theorem dX12_apart_12 : decode cX12_apart 12 = .ok (.iload_n 1, 1) := by decide +kernel
theorem dX12_apart_13 : decode cX12_apart 13 = .ok (.isub, 1) := by decide +kernel
theorem dX12_apart_14 : decode cX12_apart 14 = .ok (.ireturn, 1) := by decide +kernel
theorem dX12_wayOf_0 : decode cX12_wayOf 0 = .ok (.iload_n 0, 1) := by decide +kernel
theorem dX12_wayOf_1 : decode cX12_wayOf 1 = .ok (.iconst 3, 1) := by decide +kernel
theorem dX12_wayOf_2 : decode cX12_wayOf 2 = .ok (.idiv, 1) := by decide +kernel
theorem dX12_wayOf_3 : decode cX12_wayOf 3 = .ok (.iload_n 1, 1) := by decide +kernel
theorem dX12_wayOf_4 : decode cX12_wayOf 4 = .ok (.iconst 3, 1) := by decide +kernel
theorem dX12_wayOf_5 : decode cX12_wayOf 5 = .ok (.idiv, 1) := by decide +kernel
theorem dX12_wayOf_6 : decode cX12_wayOf 6 = .ok (.invokestatic 57, 3) := by decide +kernel
theorem dX12_wayOf_9 : decode cX12_wayOf 9 = .ok (.iload_n 0, 1) := by decide +kernel
theorem dX12_wayOf_10 : decode cX12_wayOf 10 = .ok (.iconst 3, 1) := by decide +kernel
theorem dX12_wayOf_11 : decode cX12_wayOf 11 = .ok (.irem, 1) := by decide +kernel
theorem dX12_wayOf_12 : decode cX12_wayOf 12 = .ok (.iload_n 1, 1) := by decide +kernel
theorem dX12_wayOf_13 : decode cX12_wayOf 13 = .ok (.iconst 3, 1) := by decide +kernel
theorem dX12_wayOf_14 : decode cX12_wayOf 14 = .ok (.irem, 1) := by decide +kernel
theorem dX12_wayOf_15 : decode cX12_wayOf 15 = .ok (.invokestatic 57, 3) := by decide +kernel
theorem dX12_wayOf_18 : decode cX12_wayOf 18 = .ok (.iadd, 1) := by decide +kernel
theorem dX12_wayOf_19 : decode cX12_wayOf 19 = .ok (.ireturn, 1) := by decide +kernel
theorem dX12_timeBy_0 : decode cX12_timeBy 0 = .ok (.iload_n 2, 1) := by decide +kernel
theorem dX12_timeBy_1 : decode cX12_timeBy 1 = .ok (.iconst 3, 1) := by decide +kernel
theorem dX12_timeBy_2 : decode cX12_timeBy 2 = .ok (.idiv, 1) := by decide +kernel
theorem dX12_timeBy_3 : decode cX12_timeBy 3 = .ok (.ifCond .ne 7, 3) := by decide +kernel
theorem dX12_timeBy_6 : decode cX12_timeBy 6 = .ok (.iconst 2, 1) := by decide +kernel
theorem dX12_timeBy_7 : decode cX12_timeBy 7 = .ok (.goto 4, 3) := by decide +kernel
theorem dX12_timeBy_10 : decode cX12_timeBy 10 = .ok (.iconst 3, 1) := by decide +kernel
theorem dX12_timeBy_11 : decode cX12_timeBy 11 = .ok (.istore_n 3, 1) := by decide +kernel
theorem dX12_timeBy_12 : decode cX12_timeBy 12 = .ok (.iload_n 0, 1) := by decide +kernel
theorem dX12_timeBy_13 : decode cX12_timeBy 13 = .ok (.tableswitch 66 1 7 #[43, 54, 56, 59, 66, 66, 63], 43) := by decide +kernel
theorem dX12_timeBy_56 : decode cX12_timeBy 56 = .ok (.iload_n 1, 1) := by decide +kernel
theorem dX12_timeBy_57 : decode cX12_timeBy 57 = .ok (.iconst 5, 1) := by decide +kernel
theorem dX12_timeBy_58 : decode cX12_timeBy 58 = .ok (.if_icmp .lt 7, 3) := by decide +kernel
theorem dX12_timeBy_61 : decode cX12_timeBy 61 = .ok (.iconst 1, 1) := by decide +kernel
theorem dX12_timeBy_62 : decode cX12_timeBy 62 = .ok (.goto 4, 3) := by decide +kernel
theorem dX12_timeBy_65 : decode cX12_timeBy 65 = .ok (.iconst 2, 1) := by decide +kernel
theorem dX12_timeBy_66 : decode cX12_timeBy 66 = .ok (.ireturn, 1) := by decide +kernel
theorem dX12_timeBy_67 : decode cX12_timeBy 67 = .ok (.iload_n 3, 1) := by decide +kernel
theorem dX12_timeBy_68 : decode cX12_timeBy 68 = .ok (.ireturn, 1) := by decide +kernel
theorem dX12_timeBy_69 : decode cX12_timeBy 69 = .ok (.bipush 6, 2) := by decide +kernel
theorem dX12_timeBy_71 : decode cX12_timeBy 71 = .ok (.ireturn, 1) := by decide +kernel
theorem dX12_timeBy_72 : decode cX12_timeBy 72 = .ok (.iload_n 3, 1) := by decide +kernel
theorem dX12_timeBy_73 : decode cX12_timeBy 73 = .ok (.iconst 1, 1) := by decide +kernel
theorem dX12_timeBy_74 : decode cX12_timeBy 74 = .ok (.isub, 1) := by decide +kernel
theorem dX12_timeBy_75 : decode cX12_timeBy 75 = .ok (.ireturn, 1) := by decide +kernel
theorem dX12_timeBy_76 : decode cX12_timeBy 76 = .ok (.bipush 7, 2) := by decide +kernel
theorem dX12_timeBy_78 : decode cX12_timeBy 78 = .ok (.ireturn, 1) := by decide +kernel
theorem dX12_timeBy_79 : decode cX12_timeBy 79 = .ok (.iconst 3, 1) := by decide +kernel
theorem dX12_timeBy_80 : decode cX12_timeBy 80 = .ok (.ireturn, 1) := by decide +kernel
theorem dX12_tiresBy_0 : decode cX12_tiresBy 0 = .ok (.iload_n 0, 1) := by decide +kernel
theorem dX12_tiresBy_1 : decode cX12_tiresBy 1 = .ok (.tableswitch 53 1 7 #[43, 45, 51, 45, 53, 53, 51], 43) := by decide +kernel
theorem dX12_tiresBy_44 : decode cX12_tiresBy 44 = .ok (.iconst 5, 1) := by decide +kernel
theorem dX12_tiresBy_45 : decode cX12_tiresBy 45 = .ok (.ireturn, 1) := by decide +kernel
theorem dX12_tiresBy_46 : decode cX12_tiresBy 46 = .ok (.iconst 1, 1) := by decide +kernel
theorem dX12_tiresBy_47 : decode cX12_tiresBy 47 = .ok (.iload_n 1, 1) := by decide +kernel
theorem dX12_tiresBy_48 : decode cX12_tiresBy 48 = .ok (.iconst 3, 1) := by decide +kernel
theorem dX12_tiresBy_49 : decode cX12_tiresBy 49 = .ok (.idiv, 1) := by decide +kernel
theorem dX12_tiresBy_50 : decode cX12_tiresBy 50 = .ok (.iadd, 1) := by decide +kernel
theorem dX12_tiresBy_51 : decode cX12_tiresBy 51 = .ok (.ireturn, 1) := by decide +kernel
theorem dX12_tiresBy_52 : decode cX12_tiresBy 52 = .ok (.iconst 2, 1) := by decide +kernel
theorem dX12_tiresBy_53 : decode cX12_tiresBy 53 = .ok (.ireturn, 1) := by decide +kernel
theorem dX12_tiresBy_54 : decode cX12_tiresBy 54 = .ok (.iconst 1, 1) := by decide +kernel
theorem dX12_tiresBy_55 : decode cX12_tiresBy 55 = .ok (.ireturn, 1) := by decide +kernel
theorem dX12_fallsIn_0 : decode cX12_fallsIn 0 = .ok (.iload_n 2, 1) := by decide +kernel
theorem dX12_fallsIn_1 : decode cX12_fallsIn 1 = .ok (.iconst 3, 1) := by decide +kernel
theorem dX12_fallsIn_2 : decode cX12_fallsIn 2 = .ok (.idiv, 1) := by decide +kernel
theorem dX12_fallsIn_3 : decode cX12_fallsIn 3 = .ok (.iconst 3, 1) := by decide +kernel
theorem dX12_fallsIn_4 : decode cX12_fallsIn 4 = .ok (.imul, 1) := by decide +kernel
theorem dX12_fallsIn_5 : decode cX12_fallsIn 5 = .ok (.istore_n 3, 1) := by decide +kernel
theorem dX12_fallsIn_6 : decode cX12_fallsIn 6 = .ok (.iload_n 2, 1) := by decide +kernel
theorem dX12_fallsIn_7 : decode cX12_fallsIn 7 = .ok (.iconst 3, 1) := by decide +kernel
theorem dX12_fallsIn_8 : decode cX12_fallsIn 8 = .ok (.irem, 1) := by decide +kernel
theorem dX12_fallsIn_9 : decode cX12_fallsIn 9 = .ok (.aload_n 0, 1) := by decide +kernel
theorem dX12_fallsIn_10 : decode cX12_fallsIn 10 = .ok (.iconst 3, 1) := by decide +kernel
theorem dX12_fallsIn_11 : decode cX12_fallsIn 11 = .ok (.iaload, 1) := by decide +kernel
theorem dX12_fallsIn_12 : decode cX12_fallsIn 12 = .ok (.iadd, 1) := by decide +kernel
theorem dX12_fallsIn_13 : decode cX12_fallsIn 13 = .ok (.istore 4, 2) := by decide +kernel
theorem dX12_fallsIn_15 : decode cX12_fallsIn 15 = .ok (.aload_n 0, 1) := by decide +kernel
theorem dX12_fallsIn_16 : decode cX12_fallsIn 16 = .ok (.iload_n 1, 1) := by decide +kernel
theorem dX12_fallsIn_17 : decode cX12_fallsIn 17 = .ok (.iconst 0, 1) := by decide +kernel
theorem dX12_fallsIn_18 : decode cX12_fallsIn 18 = .ok (.invokestatic 60, 3) := by decide +kernel
theorem dX12_fallsIn_21 : decode cX12_fallsIn 21 = .ok (.iaload, 1) := by decide +kernel
theorem dX12_fallsIn_22 : decode cX12_fallsIn 22 = .ok (.lookupswitch 54 #[(6, 26), (7, 30)], 26) := by decide +kernel
theorem dX12_fallsIn_48 : decode cX12_fallsIn 48 = .ok (.iload_n 3, 1) := by decide +kernel
theorem dX12_fallsIn_49 : decode cX12_fallsIn 49 = .ok (.iconst 1, 1) := by decide +kernel
theorem dX12_fallsIn_50 : decode cX12_fallsIn 50 = .ok (.iadd, 1) := by decide +kernel
theorem dX12_fallsIn_51 : decode cX12_fallsIn 51 = .ok (.ireturn, 1) := by decide +kernel
theorem dX12_fallsIn_52 : decode cX12_fallsIn 52 = .ok (.iload_n 3, 1) := by decide +kernel
theorem dX12_fallsIn_53 : decode cX12_fallsIn 53 = .ok (.iload 4, 2) := by decide +kernel
theorem dX12_fallsIn_55 : decode cX12_fallsIn 55 = .ok (.ifCond .ge 7, 3) := by decide +kernel
theorem dX12_fallsIn_58 : decode cX12_fallsIn 58 = .ok (.iconst 0, 1) := by decide +kernel
theorem dX12_fallsIn_59 : decode cX12_fallsIn 59 = .ok (.goto 15, 3) := by decide +kernel
theorem dX12_fallsIn_62 : decode cX12_fallsIn 62 = .ok (.iload 4, 2) := by decide +kernel
theorem dX12_fallsIn_64 : decode cX12_fallsIn 64 = .ok (.iconst 2, 1) := by decide +kernel
theorem dX12_fallsIn_65 : decode cX12_fallsIn 65 = .ok (.if_icmp .le 7, 3) := by decide +kernel
theorem dX12_fallsIn_68 : decode cX12_fallsIn 68 = .ok (.iconst 2, 1) := by decide +kernel
theorem dX12_fallsIn_69 : decode cX12_fallsIn 69 = .ok (.goto 5, 3) := by decide +kernel
theorem dX12_fallsIn_72 : decode cX12_fallsIn 72 = .ok (.iload 4, 2) := by decide +kernel
theorem dX12_fallsIn_74 : decode cX12_fallsIn 74 = .ok (.iadd, 1) := by decide +kernel
theorem dX12_fallsIn_75 : decode cX12_fallsIn 75 = .ok (.ireturn, 1) := by decide +kernel
theorem dX12_fallsIn_76 : decode cX12_fallsIn 76 = .ok (.iload_n 2, 1) := by decide +kernel
theorem dX12_fallsIn_77 : decode cX12_fallsIn 77 = .ok (.ireturn, 1) := by decide +kernel
theorem dX12_timeIn_0 : decode cX12_timeIn 0 = .ok (.aload_n 0, 1) := by decide +kernel
theorem dX12_timeIn_1 : decode cX12_timeIn 1 = .ok (.iload_n 1, 1) := by decide +kernel
theorem dX12_timeIn_2 : decode cX12_timeIn 2 = .ok (.iconst 0, 1) := by decide +kernel
theorem dX12_timeIn_3 : decode cX12_timeIn 3 = .ok (.invokestatic 60, 3) := by decide +kernel
theorem dX12_timeIn_6 : decode cX12_timeIn 6 = .ok (.iaload, 1) := by decide +kernel
theorem dX12_timeIn_7 : decode cX12_timeIn 7 = .ok (.aload_n 0, 1) := by decide +kernel
theorem dX12_timeIn_8 : decode cX12_timeIn 8 = .ok (.iload_n 1, 1) := by decide +kernel
theorem dX12_timeIn_9 : decode cX12_timeIn 9 = .ok (.iconst 1, 1) := by decide +kernel
theorem dX12_timeIn_10 : decode cX12_timeIn 10 = .ok (.invokestatic 60, 3) := by decide +kernel
theorem dX12_timeIn_13 : decode cX12_timeIn 13 = .ok (.iaload, 1) := by decide +kernel
theorem dX12_timeIn_14 : decode cX12_timeIn 14 = .ok (.iload_n 2, 1) := by decide +kernel
theorem dX12_timeIn_15 : decode cX12_timeIn 15 = .ok (.invokestatic 63, 3) := by decide +kernel
theorem dX12_timeIn_18 : decode cX12_timeIn 18 = .ok (.ireturn, 1) := by decide +kernel
theorem dX12_sideOf_0 : decode cX12_sideOf 0 = .ok (.iload_n 0, 1) := by decide +kernel
theorem dX12_sideOf_1 : decode cX12_sideOf 1 = .ok (.iconst 2, 1) := by decide +kernel
theorem dX12_sideOf_2 : decode cX12_sideOf 2 = .ok (.idiv, 1) := by decide +kernel
theorem dX12_sideOf_3 : decode cX12_sideOf 3 = .ok (.ireturn, 1) := by decide +kernel
theorem dX12_partner_0 : decode cX12_partner 0 = .ok (.iload_n 0, 1) := by decide +kernel
theorem dX12_partner_1 : decode cX12_partner 1 = .ok (.iconst 2, 1) := by decide +kernel
theorem dX12_partner_2 : decode cX12_partner 2 = .ok (.irem, 1) := by decide +kernel
theorem dX12_partner_3 : decode cX12_partner 3 = .ok (.ifCond .ne 9, 3) := by decide +kernel
theorem dX12_partner_6 : decode cX12_partner 6 = .ok (.iload_n 0, 1) := by decide +kernel
theorem dX12_partner_7 : decode cX12_partner 7 = .ok (.iconst 1, 1) := by decide +kernel
theorem dX12_partner_8 : decode cX12_partner 8 = .ok (.iadd, 1) := by decide +kernel
theorem dX12_partner_9 : decode cX12_partner 9 = .ok (.goto 6, 3) := by decide +kernel
theorem dX12_partner_12 : decode cX12_partner 12 = .ok (.iload_n 0, 1) := by decide +kernel
theorem dX12_partner_13 : decode cX12_partner 13 = .ok (.iconst 1, 1) := by decide +kernel
theorem dX12_partner_14 : decode cX12_partner 14 = .ok (.isub, 1) := by decide +kernel
theorem dX12_partner_15 : decode cX12_partner 15 = .ok (.ireturn, 1) := by decide +kernel
theorem dX12_stepsIn_0 : decode cX12_stepsIn 0 = .ok (.aload_n 0, 1) := by decide +kernel
theorem dX12_stepsIn_1 : decode cX12_stepsIn 1 = .ok (.iload_n 1, 1) := by decide +kernel
theorem dX12_stepsIn_2 : decode cX12_stepsIn 2 = .ok (.iconst 1, 1) := by decide +kernel
theorem dX12_stepsIn_3 : decode cX12_stepsIn 3 = .ok (.invokestatic 46, 3) := by decide +kernel
theorem dX12_stepsIn_6 : decode cX12_stepsIn 6 = .ok (.iaload, 1) := by decide +kernel
theorem dX12_stepsIn_7 : decode cX12_stepsIn 7 = .ok (.aload_n 0, 1) := by decide +kernel
theorem dX12_stepsIn_8 : decode cX12_stepsIn 8 = .ok (.iload_n 1, 1) := by decide +kernel
theorem dX12_stepsIn_9 : decode cX12_stepsIn 9 = .ok (.iconst 2, 1) := by decide +kernel
theorem dX12_stepsIn_10 : decode cX12_stepsIn 10 = .ok (.invokestatic 46, 3) := by decide +kernel
theorem dX12_stepsIn_13 : decode cX12_stepsIn 13 = .ok (.iaload, 1) := by decide +kernel
theorem dX12_stepsIn_14 : decode cX12_stepsIn 14 = .ok (.bipush 30, 2) := by decide +kernel
theorem dX12_stepsIn_16 : decode cX12_stepsIn 16 = .ok (.idiv, 1) := by decide +kernel
theorem dX12_stepsIn_17 : decode cX12_stepsIn 17 = .ok (.isub, 1) := by decide +kernel
theorem dX12_stepsIn_18 : decode cX12_stepsIn 18 = .ok (.istore_n 3, 1) := by decide +kernel
theorem dX12_stepsIn_19 : decode cX12_stepsIn 19 = .ok (.iload_n 2, 1) := by decide +kernel
theorem dX12_stepsIn_20 : decode cX12_stepsIn 20 = .ok (.iload_n 3, 1) := by decide +kernel
theorem dX12_stepsIn_21 : decode cX12_stepsIn 21 = .ok (.iconst 1, 1) := by decide +kernel
theorem dX12_stepsIn_22 : decode cX12_stepsIn 22 = .ok (.if_icmp .ge 7, 3) := by decide +kernel
theorem dX12_stepsIn_25 : decode cX12_stepsIn 25 = .ok (.iconst 1, 1) := by decide +kernel
theorem dX12_stepsIn_26 : decode cX12_stepsIn 26 = .ok (.goto 4, 3) := by decide +kernel
theorem dX12_stepsIn_29 : decode cX12_stepsIn 29 = .ok (.iload_n 3, 1) := by decide +kernel
theorem dX12_stepsIn_30 : decode cX12_stepsIn 30 = .ok (.imul, 1) := by decide +kernel
theorem dX12_stepsIn_31 : decode cX12_stepsIn 31 = .ok (.ireturn, 1) := by decide +kernel
theorem dX12_isTired_0 : decode cX12_isTired 0 = .ok (.aload_n 0, 1) := by decide +kernel
theorem dX12_isTired_1 : decode cX12_isTired 1 = .ok (.iload_n 1, 1) := by decide +kernel
theorem dX12_isTired_2 : decode cX12_isTired 2 = .ok (.iconst 2, 1) := by decide +kernel
theorem dX12_isTired_3 : decode cX12_isTired 3 = .ok (.invokestatic 46, 3) := by decide +kernel
theorem dX12_isTired_6 : decode cX12_isTired 6 = .ok (.bipush 99, 2) := by decide +kernel
theorem dX12_isTired_8 : decode cX12_isTired 8 = .ok (.aload_n 0, 1) := by decide +kernel
theorem dX12_isTired_9 : decode cX12_isTired 9 = .ok (.iload_n 1, 1) := by decide +kernel
theorem dX12_isTired_10 : decode cX12_isTired 10 = .ok (.iconst 2, 1) := by decide +kernel
theorem dX12_isTired_11 : decode cX12_isTired 11 = .ok (.invokestatic 46, 3) := by decide +kernel
theorem dX12_isTired_14 : decode cX12_isTired 14 = .ok (.iaload, 1) := by decide +kernel
theorem dX12_isTired_15 : decode cX12_isTired 15 = .ok (.iload_n 2, 1) := by decide +kernel
theorem dX12_isTired_16 : decode cX12_isTired 16 = .ok (.iadd, 1) := by decide +kernel
theorem dX12_isTired_17 : decode cX12_isTired 17 = .ok (.invokestatic 67, 3) := by decide +kernel
theorem dX12_isTired_20 : decode cX12_isTired 20 = .ok (.iastore, 1) := by decide +kernel
theorem dX12_isTired_21 : decode cX12_isTired 21 = .ok (.return_, 1) := by decide +kernel
theorem dX12_whoseIn_0 : decode cX12_whoseIn 0 = .ok (.iconst 2, 1) := by decide +kernel
theorem dX12_whoseIn_1 : decode cX12_whoseIn 1 = .ok (.iload_n 1, 1) := by decide +kernel
theorem dX12_whoseIn_2 : decode cX12_whoseIn 2 = .ok (.imul, 1) := by decide +kernel
theorem dX12_whoseIn_3 : decode cX12_whoseIn 3 = .ok (.istore_n 3, 1) := by decide +kernel
theorem dX12_whoseIn_4 : decode cX12_whoseIn 4 = .ok (.aload_n 0, 1) := by decide +kernel
theorem dX12_whoseIn_5 : decode cX12_whoseIn 5 = .ok (.iload_n 3, 1) := by decide +kernel
theorem dX12_whoseIn_6 : decode cX12_whoseIn 6 = .ok (.iconst 0, 1) := by decide +kernel
theorem dX12_whoseIn_7 : decode cX12_whoseIn 7 = .ok (.invokestatic 46, 3) := by decide +kernel
theorem dX12_whoseIn_10 : decode cX12_whoseIn 10 = .ok (.iaload, 1) := by decide +kernel
theorem dX12_whoseIn_11 : decode cX12_whoseIn 11 = .ok (.iload_n 2, 1) := by decide +kernel
theorem dX12_whoseIn_12 : decode cX12_whoseIn 12 = .ok (.invokestatic 70, 3) := by decide +kernel
theorem dX12_whoseIn_15 : decode cX12_whoseIn 15 = .ok (.istore 4, 2) := by decide +kernel
theorem dX12_whoseIn_17 : decode cX12_whoseIn 17 = .ok (.aload_n 0, 1) := by decide +kernel
theorem dX12_whoseIn_18 : decode cX12_whoseIn 18 = .ok (.iload_n 3, 1) := by decide +kernel
theorem dX12_whoseIn_19 : decode cX12_whoseIn 19 = .ok (.iconst 1, 1) := by decide +kernel
theorem dX12_whoseIn_20 : decode cX12_whoseIn 20 = .ok (.iadd, 1) := by decide +kernel
theorem dX12_whoseIn_21 : decode cX12_whoseIn 21 = .ok (.iconst 0, 1) := by decide +kernel
theorem dX12_whoseIn_22 : decode cX12_whoseIn 22 = .ok (.invokestatic 46, 3) := by decide +kernel
theorem dX12_whoseIn_25 : decode cX12_whoseIn 25 = .ok (.iaload, 1) := by decide +kernel
theorem dX12_whoseIn_26 : decode cX12_whoseIn 26 = .ok (.iload_n 2, 1) := by decide +kernel
theorem dX12_whoseIn_27 : decode cX12_whoseIn 27 = .ok (.invokestatic 70, 3) := by decide +kernel
theorem dX12_whoseIn_30 : decode cX12_whoseIn 30 = .ok (.istore 5, 2) := by decide +kernel
theorem dX12_whoseIn_32 : decode cX12_whoseIn 32 = .ok (.iload 4, 2) := by decide +kernel
theorem dX12_whoseIn_34 : decode cX12_whoseIn 34 = .ok (.iload 5, 2) := by decide +kernel
theorem dX12_whoseIn_36 : decode cX12_whoseIn 36 = .ok (.if_icmp .eq 18, 3) := by decide +kernel
theorem dX12_whoseIn_39 : decode cX12_whoseIn 39 = .ok (.iload 4, 2) := by decide +kernel
theorem dX12_whoseIn_41 : decode cX12_whoseIn 41 = .ok (.iload 5, 2) := by decide +kernel
theorem dX12_whoseIn_43 : decode cX12_whoseIn 43 = .ok (.if_icmp .ge 7, 3) := by decide +kernel
theorem dX12_whoseIn_46 : decode cX12_whoseIn 46 = .ok (.iload_n 3, 1) := by decide +kernel
theorem dX12_whoseIn_47 : decode cX12_whoseIn 47 = .ok (.goto 6, 3) := by decide +kernel
theorem dX12_whoseIn_50 : decode cX12_whoseIn 50 = .ok (.iload_n 3, 1) := by decide +kernel
theorem dX12_whoseIn_51 : decode cX12_whoseIn 51 = .ok (.iconst 1, 1) := by decide +kernel
theorem dX12_whoseIn_52 : decode cX12_whoseIn 52 = .ok (.iadd, 1) := by decide +kernel
theorem dX12_whoseIn_53 : decode cX12_whoseIn 53 = .ok (.ireturn, 1) := by decide +kernel
theorem dX12_whoseIn_54 : decode cX12_whoseIn 54 = .ok (.aload_n 0, 1) := by decide +kernel
theorem dX12_whoseIn_55 : decode cX12_whoseIn 55 = .ok (.iload_n 1, 1) := by decide +kernel
theorem dX12_whoseIn_56 : decode cX12_whoseIn 56 = .ok (.iconst 1, 1) := by decide +kernel
theorem dX12_whoseIn_57 : decode cX12_whoseIn 57 = .ok (.invokestatic 50, 3) := by decide +kernel
theorem dX12_whoseIn_60 : decode cX12_whoseIn 60 = .ok (.iaload, 1) := by decide +kernel
theorem dX12_whoseIn_61 : decode cX12_whoseIn 61 = .ok (.istore 6, 2) := by decide +kernel
theorem dX12_whoseIn_63 : decode cX12_whoseIn 63 = .ok (.iload 6, 2) := by decide +kernel
theorem dX12_whoseIn_65 : decode cX12_whoseIn 65 = .ok (.iconst 1, 1) := by decide +kernel
theorem dX12_whoseIn_66 : decode cX12_whoseIn 66 = .ok (.if_icmp .eq 9, 3) := by decide +kernel
theorem dX12_whoseIn_69 : decode cX12_whoseIn 69 = .ok (.iload 6, 2) := by decide +kernel
theorem dX12_whoseIn_71 : decode cX12_whoseIn 71 = .ok (.iconst 2, 1) := by decide +kernel
theorem dX12_whoseIn_72 : decode cX12_whoseIn 72 = .ok (.if_icmp .ne 5, 3) := by decide +kernel
theorem dX12_whoseIn_75 : decode cX12_whoseIn 75 = .ok (.iload_n 3, 1) := by decide +kernel
theorem dX12_whoseIn_76 : decode cX12_whoseIn 76 = .ok (.ireturn, 1) := by decide +kernel
theorem dX12_whoseIn_77 : decode cX12_whoseIn 77 = .ok (.aload_n 0, 1) := by decide +kernel
theorem dX12_whoseIn_78 : decode cX12_whoseIn 78 = .ok (.iload_n 3, 1) := by decide +kernel
theorem dX12_whoseIn_79 : decode cX12_whoseIn 79 = .ok (.iconst 3, 1) := by decide +kernel
theorem dX12_whoseIn_80 : decode cX12_whoseIn 80 = .ok (.invokestatic 46, 3) := by decide +kernel
theorem dX12_whoseIn_83 : decode cX12_whoseIn 83 = .ok (.iaload, 1) := by decide +kernel
theorem dX12_whoseIn_84 : decode cX12_whoseIn 84 = .ok (.aload_n 0, 1) := by decide +kernel
theorem dX12_whoseIn_85 : decode cX12_whoseIn 85 = .ok (.iload_n 3, 1) := by decide +kernel
theorem dX12_whoseIn_86 : decode cX12_whoseIn 86 = .ok (.iconst 1, 1) := by decide +kernel
theorem dX12_whoseIn_87 : decode cX12_whoseIn 87 = .ok (.iadd, 1) := by decide +kernel
theorem dX12_whoseIn_88 : decode cX12_whoseIn 88 = .ok (.iconst 3, 1) := by decide +kernel
theorem dX12_whoseIn_89 : decode cX12_whoseIn 89 = .ok (.invokestatic 46, 3) := by decide +kernel
theorem dX12_whoseIn_92 : decode cX12_whoseIn 92 = .ok (.iaload, 1) := by decide +kernel
theorem dX12_whoseIn_93 : decode cX12_whoseIn 93 = .ok (.if_icmp .eq 7, 3) := by decide +kernel
theorem dX12_whoseIn_96 : decode cX12_whoseIn 96 = .ok (.iconst 1, 1) := by decide +kernel
theorem dX12_whoseIn_97 : decode cX12_whoseIn 97 = .ok (.goto 4, 3) := by decide +kernel
theorem dX12_whoseIn_100 : decode cX12_whoseIn 100 = .ok (.iconst 0, 1) := by decide +kernel
theorem dX12_whoseIn_101 : decode cX12_whoseIn 101 = .ok (.istore 7, 2) := by decide +kernel
theorem dX12_whoseIn_103 : decode cX12_whoseIn 103 = .ok (.iload 6, 2) := by decide +kernel
theorem dX12_whoseIn_105 : decode cX12_whoseIn 105 = .ok (.iconst 3, 1) := by decide +kernel
theorem dX12_whoseIn_106 : decode cX12_whoseIn 106 = .ok (.if_icmp .ne 29, 3) := by decide +kernel
theorem dX12_whoseIn_109 : decode cX12_whoseIn 109 = .ok (.iload 7, 2) := by decide +kernel
theorem dX12_whoseIn_111 : decode cX12_whoseIn 111 = .ok (.ifCond .eq 24, 3) := by decide +kernel
theorem dX12_whoseIn_114 : decode cX12_whoseIn 114 = .ok (.aload_n 0, 1) := by decide +kernel
theorem dX12_whoseIn_115 : decode cX12_whoseIn 115 = .ok (.iload_n 3, 1) := by decide +kernel
theorem dX12_whoseIn_116 : decode cX12_whoseIn 116 = .ok (.iconst 3, 1) := by decide +kernel
theorem dX12_whoseIn_117 : decode cX12_whoseIn 117 = .ok (.invokestatic 46, 3) := by decide +kernel
theorem dX12_whoseIn_120 : decode cX12_whoseIn 120 = .ok (.iaload, 1) := by decide +kernel
theorem dX12_whoseIn_121 : decode cX12_whoseIn 121 = .ok (.iconst 1, 1) := by decide +kernel
theorem dX12_whoseIn_122 : decode cX12_whoseIn 122 = .ok (.if_icmp .ne 7, 3) := by decide +kernel
theorem dX12_whoseIn_125 : decode cX12_whoseIn 125 = .ok (.iload_n 3, 1) := by decide +kernel
theorem dX12_whoseIn_126 : decode cX12_whoseIn 126 = .ok (.goto 11, 3) := by decide +kernel
theorem dX12_whoseIn_129 : decode cX12_whoseIn 129 = .ok (.iload_n 3, 1) := by decide +kernel
theorem dX12_whoseIn_130 : decode cX12_whoseIn 130 = .ok (.iconst 1, 1) := by decide +kernel
theorem dX12_whoseIn_131 : decode cX12_whoseIn 131 = .ok (.iadd, 1) := by decide +kernel
theorem dX12_whoseIn_132 : decode cX12_whoseIn 132 = .ok (.goto 5, 3) := by decide +kernel
theorem dX12_whoseIn_135 : decode cX12_whoseIn 135 = .ok (.bipush 9, 2) := by decide +kernel
theorem dX12_whoseIn_137 : decode cX12_whoseIn 137 = .ok (.ireturn, 1) := by decide +kernel
theorem dX12_isBoths_0 : decode cX12_isBoths 0 = .ok (.aload_n 0, 1) := by decide +kernel
theorem dX12_isBoths_1 : decode cX12_isBoths 1 = .ok (.iload_n 1, 1) := by decide +kernel
theorem dX12_isBoths_2 : decode cX12_isBoths 2 = .ok (.iconst 1, 1) := by decide +kernel
theorem dX12_isBoths_3 : decode cX12_isBoths 3 = .ok (.invokestatic 50, 3) := by decide +kernel
theorem dX12_isBoths_6 : decode cX12_isBoths 6 = .ok (.iaload, 1) := by decide +kernel
theorem dX12_isBoths_7 : decode cX12_isBoths 7 = .ok (.iconst 2, 1) := by decide +kernel
theorem dX12_isBoths_8 : decode cX12_isBoths 8 = .ok (.if_icmp .ne 38, 3) := by decide +kernel
theorem dX12_isBoths_11 : decode cX12_isBoths 11 = .ok (.aload_n 0, 1) := by decide +kernel
theorem dX12_isBoths_12 : decode cX12_isBoths 12 = .ok (.iconst 2, 1) := by decide +kernel
theorem dX12_isBoths_13 : decode cX12_isBoths 13 = .ok (.iload_n 1, 1) := by decide +kernel
theorem dX12_isBoths_14 : decode cX12_isBoths 14 = .ok (.imul, 1) := by decide +kernel
theorem dX12_isBoths_15 : decode cX12_isBoths 15 = .ok (.iconst 0, 1) := by decide +kernel
theorem dX12_isBoths_16 : decode cX12_isBoths 16 = .ok (.invokestatic 46, 3) := by decide +kernel
theorem dX12_isBoths_19 : decode cX12_isBoths 19 = .ok (.iaload, 1) := by decide +kernel
theorem dX12_isBoths_20 : decode cX12_isBoths 20 = .ok (.iload_n 2, 1) := by decide +kernel
theorem dX12_isBoths_21 : decode cX12_isBoths 21 = .ok (.invokestatic 70, 3) := by decide +kernel
theorem dX12_isBoths_24 : decode cX12_isBoths 24 = .ok (.aload_n 0, 1) := by decide +kernel
theorem dX12_isBoths_25 : decode cX12_isBoths 25 = .ok (.iconst 2, 1) := by decide +kernel
theorem dX12_isBoths_26 : decode cX12_isBoths 26 = .ok (.iload_n 1, 1) := by decide +kernel
theorem dX12_isBoths_27 : decode cX12_isBoths 27 = .ok (.imul, 1) := by decide +kernel
theorem dX12_isBoths_28 : decode cX12_isBoths 28 = .ok (.iconst 1, 1) := by decide +kernel
theorem dX12_isBoths_29 : decode cX12_isBoths 29 = .ok (.iadd, 1) := by decide +kernel
theorem dX12_isBoths_30 : decode cX12_isBoths 30 = .ok (.iconst 0, 1) := by decide +kernel
theorem dX12_isBoths_31 : decode cX12_isBoths 31 = .ok (.invokestatic 46, 3) := by decide +kernel
theorem dX12_isBoths_34 : decode cX12_isBoths 34 = .ok (.iaload, 1) := by decide +kernel
theorem dX12_isBoths_35 : decode cX12_isBoths 35 = .ok (.iload_n 2, 1) := by decide +kernel
theorem dX12_isBoths_36 : decode cX12_isBoths 36 = .ok (.invokestatic 70, 3) := by decide +kernel
theorem dX12_isBoths_39 : decode cX12_isBoths 39 = .ok (.if_icmp .ne 7, 3) := by decide +kernel
theorem dX12_isBoths_42 : decode cX12_isBoths 42 = .ok (.iconst 1, 1) := by decide +kernel
theorem dX12_isBoths_43 : decode cX12_isBoths 43 = .ok (.goto 4, 3) := by decide +kernel
theorem dX12_isBoths_46 : decode cX12_isBoths 46 = .ok (.iconst 0, 1) := by decide +kernel
theorem dX12_isBoths_47 : decode cX12_isBoths 47 = .ok (.ireturn, 1) := by decide +kernel
theorem dX12_placeFor_0 : decode cX12_placeFor 0 = .ok (.iload_n 0, 1) := by decide +kernel
theorem dX12_placeFor_1 : decode cX12_placeFor 1 = .ok (.ifCond .ne 11, 3) := by decide +kernel
theorem dX12_placeFor_4 : decode cX12_placeFor 4 = .ok (.iconst 5, 1) := by decide +kernel
theorem dX12_placeFor_5 : decode cX12_placeFor 5 = .ok (.iload_n 1, 1) := by decide +kernel
theorem dX12_placeFor_6 : decode cX12_placeFor 6 = .ok (.iconst 3, 1) := by decide +kernel
theorem dX12_placeFor_7 : decode cX12_placeFor 7 = .ok (.irem, 1) := by decide +kernel
theorem dX12_placeFor_8 : decode cX12_placeFor 8 = .ok (.isub, 1) := by decide +kernel
theorem dX12_placeFor_9 : decode cX12_placeFor 9 = .ok (.goto 12, 3) := by decide +kernel
theorem dX12_placeFor_12 : decode cX12_placeFor 12 = .ok (.iconst 3, 1) := by decide +kernel
theorem dX12_placeFor_13 : decode cX12_placeFor 13 = .ok (.iconst 2, 1) := by decide +kernel
theorem dX12_placeFor_14 : decode cX12_placeFor 14 = .ok (.iload_n 1, 1) := by decide +kernel
theorem dX12_placeFor_15 : decode cX12_placeFor 15 = .ok (.iconst 3, 1) := by decide +kernel
theorem dX12_placeFor_16 : decode cX12_placeFor 16 = .ok (.idiv, 1) := by decide +kernel
theorem dX12_placeFor_17 : decode cX12_placeFor 17 = .ok (.isub, 1) := by decide +kernel
theorem dX12_placeFor_18 : decode cX12_placeFor 18 = .ok (.imul, 1) := by decide +kernel
theorem dX12_placeFor_19 : decode cX12_placeFor 19 = .ok (.iconst 1, 1) := by decide +kernel
theorem dX12_placeFor_20 : decode cX12_placeFor 20 = .ok (.iadd, 1) := by decide +kernel
theorem dX12_placeFor_21 : decode cX12_placeFor 21 = .ok (.ireturn, 1) := by decide +kernel
theorem dX12_towards_0 : decode cX12_towards 0 = .ok (.iload_n 2, 1) := by decide +kernel
theorem dX12_towards_1 : decode cX12_towards 1 = .ok (.istore_n 3, 1) := by decide +kernel
theorem dX12_towards_2 : decode cX12_towards 2 = .ok (.iload_n 0, 1) := by decide +kernel
theorem dX12_towards_3 : decode cX12_towards 3 = .ok (.iconst 3, 1) := by decide +kernel
theorem dX12_towards_4 : decode cX12_towards 4 = .ok (.irem, 1) := by decide +kernel
theorem dX12_towards_5 : decode cX12_towards 5 = .ok (.istore 4, 2) := by decide +kernel
theorem dX12_towards_7 : decode cX12_towards 7 = .ok (.iload_n 0, 1) := by decide +kernel
theorem dX12_towards_8 : decode cX12_towards 8 = .ok (.iconst 3, 1) := by decide +kernel
theorem dX12_towards_9 : decode cX12_towards 9 = .ok (.idiv, 1) := by decide +kernel
theorem dX12_towards_10 : decode cX12_towards 10 = .ok (.istore 5, 2) := by decide +kernel
theorem dX12_towards_12 : decode cX12_towards 12 = .ok (.iload_n 3, 1) := by decide +kernel
theorem dX12_towards_13 : decode cX12_towards 13 = .ok (.ifCond .le 72, 3) := by decide +kernel
theorem dX12_towards_16 : decode cX12_towards 16 = .ok (.iload 4, 2) := by decide +kernel
theorem dX12_towards_18 : decode cX12_towards 18 = .ok (.iload_n 1, 1) := by decide +kernel
theorem dX12_towards_19 : decode cX12_towards 19 = .ok (.iconst 3, 1) := by decide +kernel
theorem dX12_towards_20 : decode cX12_towards 20 = .ok (.irem, 1) := by decide +kernel
theorem dX12_towards_21 : decode cX12_towards 21 = .ok (.if_icmp .ne 11, 3) := by decide +kernel
theorem dX12_towards_24 : decode cX12_towards 24 = .ok (.iload 5, 2) := by decide +kernel
theorem dX12_towards_26 : decode cX12_towards 26 = .ok (.iload_n 1, 1) := by decide +kernel
theorem dX12_towards_27 : decode cX12_towards 27 = .ok (.iconst 3, 1) := by decide +kernel
theorem dX12_towards_28 : decode cX12_towards 28 = .ok (.idiv, 1) := by decide +kernel
theorem dX12_towards_29 : decode cX12_towards 29 = .ok (.if_icmp .eq 56, 3) := by decide +kernel
theorem dX12_towards_32 : decode cX12_towards 32 = .ok (.iload 4, 2) := by decide +kernel
theorem dX12_towards_34 : decode cX12_towards 34 = .ok (.iload_n 1, 1) := by decide +kernel
theorem dX12_towards_35 : decode cX12_towards 35 = .ok (.iconst 3, 1) := by decide +kernel
theorem dX12_towards_36 : decode cX12_towards 36 = .ok (.irem, 1) := by decide +kernel
theorem dX12_towards_37 : decode cX12_towards 37 = .ok (.if_icmp .eq 24, 3) := by decide +kernel
theorem dX12_towards_40 : decode cX12_towards 40 = .ok (.iload 4, 2) := by decide +kernel
theorem dX12_towards_42 : decode cX12_towards 42 = .ok (.iload 4, 2) := by decide +kernel
theorem dX12_towards_44 : decode cX12_towards 44 = .ok (.iload_n 1, 1) := by decide +kernel
theorem dX12_towards_45 : decode cX12_towards 45 = .ok (.iconst 3, 1) := by decide +kernel
theorem dX12_towards_46 : decode cX12_towards 46 = .ok (.irem, 1) := by decide +kernel
theorem dX12_towards_47 : decode cX12_towards 47 = .ok (.if_icmp .ge 7, 3) := by decide +kernel
theorem dX12_towards_50 : decode cX12_towards 50 = .ok (.iconst 1, 1) := by decide +kernel
theorem dX12_towards_51 : decode cX12_towards 51 = .ok (.goto 4, 3) := by decide +kernel
theorem dX12_towards_54 : decode cX12_towards 54 = .ok (.iconst (-1), 1) := by decide +kernel
theorem dX12_towards_55 : decode cX12_towards 55 = .ok (.iadd, 1) := by decide +kernel
theorem dX12_towards_56 : decode cX12_towards 56 = .ok (.istore 4, 2) := by decide +kernel
theorem dX12_towards_58 : decode cX12_towards 58 = .ok (.goto 21, 3) := by decide +kernel
theorem dX12_towards_61 : decode cX12_towards 61 = .ok (.iload 5, 2) := by decide +kernel
theorem dX12_towards_63 : decode cX12_towards 63 = .ok (.iload 5, 2) := by decide +kernel
theorem dX12_towards_65 : decode cX12_towards 65 = .ok (.iload_n 1, 1) := by decide +kernel
theorem dX12_towards_66 : decode cX12_towards 66 = .ok (.iconst 3, 1) := by decide +kernel
theorem dX12_towards_67 : decode cX12_towards 67 = .ok (.idiv, 1) := by decide +kernel
theorem dX12_towards_68 : decode cX12_towards 68 = .ok (.if_icmp .ge 7, 3) := by decide +kernel
theorem dX12_towards_71 : decode cX12_towards 71 = .ok (.iconst 1, 1) := by decide +kernel
theorem dX12_towards_72 : decode cX12_towards 72 = .ok (.goto 4, 3) := by decide +kernel
theorem dX12_towards_75 : decode cX12_towards 75 = .ok (.iconst (-1), 1) := by decide +kernel
theorem dX12_towards_76 : decode cX12_towards 76 = .ok (.iadd, 1) := by decide +kernel
theorem dX12_towards_77 : decode cX12_towards 77 = .ok (.istore 5, 2) := by decide +kernel
theorem dX12_towards_79 : decode cX12_towards 79 = .ok (.iinc 3 (-1), 3) := by decide +kernel
theorem dX12_towards_82 : decode cX12_towards 82 = .ok (.goto (-70), 3) := by decide +kernel
theorem dX12_towards_85 : decode cX12_towards 85 = .ok (.iconst 3, 1) := by decide +kernel
theorem dX12_towards_86 : decode cX12_towards 86 = .ok (.iload 5, 2) := by decide +kernel
theorem dX12_towards_88 : decode cX12_towards 88 = .ok (.imul, 1) := by decide +kernel
theorem dX12_towards_89 : decode cX12_towards 89 = .ok (.iload 4, 2) := by decide +kernel
theorem dX12_towards_91 : decode cX12_towards 91 = .ok (.iadd, 1) := by decide +kernel
theorem dX12_towards_92 : decode cX12_towards 92 = .ok (.ireturn, 1) := by decide +kernel
theorem dX12_moves_0 : decode cX12_moves 0 = .ok (.aload_n 0, 1) := by decide +kernel
theorem dX12_moves_1 : decode cX12_moves 1 = .ok (.getfield 22, 3) := by decide +kernel
theorem dX12_moves_4 : decode cX12_moves 4 = .ok (.iload_n 2, 1) := by decide +kernel
theorem dX12_moves_5 : decode cX12_moves 5 = .ok (.dup2, 1) := by decide +kernel
theorem dX12_moves_6 : decode cX12_moves 6 = .ok (.iaload, 1) := by decide +kernel
theorem dX12_moves_7 : decode cX12_moves 7 = .ok (.aload_n 1, 1) := by decide +kernel
theorem dX12_moves_8 : decode cX12_moves 8 = .ok (.iload_n 2, 1) := by decide +kernel
theorem dX12_moves_9 : decode cX12_moves 9 = .ok (.iconst 0, 1) := by decide +kernel
theorem dX12_moves_10 : decode cX12_moves 10 = .ok (.invokestatic 46, 3) := by decide +kernel
theorem dX12_moves_13 : decode cX12_moves 13 = .ok (.iaload, 1) := by decide +kernel
theorem dX12_moves_14 : decode cX12_moves 14 = .ok (.iload_n 3, 1) := by decide +kernel
theorem dX12_moves_15 : decode cX12_moves 15 = .ok (.invokestatic 70, 3) := by decide +kernel
theorem dX12_moves_18 : decode cX12_moves 18 = .ok (.iadd, 1) := by decide +kernel
theorem dX12_moves_19 : decode cX12_moves 19 = .ok (.iastore, 1) := by decide +kernel
theorem dX12_moves_20 : decode cX12_moves 20 = .ok (.aload_n 1, 1) := by decide +kernel
theorem dX12_moves_21 : decode cX12_moves 21 = .ok (.iload_n 2, 1) := by decide +kernel
theorem dX12_moves_22 : decode cX12_moves 22 = .ok (.iconst 0, 1) := by decide +kernel
theorem dX12_moves_23 : decode cX12_moves 23 = .ok (.invokestatic 46, 3) := by decide +kernel
theorem dX12_moves_26 : decode cX12_moves 26 = .ok (.iload_n 3, 1) := by decide +kernel
theorem dX12_moves_27 : decode cX12_moves 27 = .ok (.iastore, 1) := by decide +kernel
theorem dX12_moves_28 : decode cX12_moves 28 = .ok (.return_, 1) := by decide +kernel
theorem dX12_hits_0 : decode cX12_hits 0 = .ok (.aload_n 1, 1) := by decide +kernel
theorem dX12_hits_1 : decode cX12_hits 1 = .ok (.iconst 2, 1) := by decide +kernel
theorem dX12_hits_2 : decode cX12_hits 2 = .ok (.iaload, 1) := by decide +kernel
theorem dX12_hits_3 : decode cX12_hits 3 = .ok (.istore 4, 2) := by decide +kernel
theorem dX12_hits_5 : decode cX12_hits 5 = .ok (.iconst 1, 1) := by decide +kernel
theorem dX12_hits_6 : decode cX12_hits 6 = .ok (.iload 4, 2) := by decide +kernel
theorem dX12_hits_8 : decode cX12_hits 8 = .ok (.invokestatic 73, 3) := by decide +kernel
theorem dX12_hits_11 : decode cX12_hits 11 = .ok (.isub, 1) := by decide +kernel
theorem dX12_hits_12 : decode cX12_hits 12 = .ok (.istore 5, 2) := by decide +kernel
theorem dX12_hits_14 : decode cX12_hits 14 = .ok (.aload_n 1, 1) := by decide +kernel
theorem dX12_hits_15 : decode cX12_hits 15 = .ok (.iload_n 2, 1) := by decide +kernel
theorem dX12_hits_16 : decode cX12_hits 16 = .ok (.iload_n 3, 1) := by decide +kernel
theorem dX12_hits_17 : decode cX12_hits 17 = .ok (.invokestatic 77, 3) := by decide +kernel
theorem dX12_hits_20 : decode cX12_hits 20 = .ok (.istore 6, 2) := by decide +kernel
theorem dX12_hits_22 : decode cX12_hits 22 = .ok (.aload_n 1, 1) := by decide +kernel
theorem dX12_hits_23 : decode cX12_hits 23 = .ok (.iload_n 2, 1) := by decide +kernel
theorem dX12_hits_24 : decode cX12_hits 24 = .ok (.iload 6, 2) := by decide +kernel
theorem dX12_hits_26 : decode cX12_hits 26 = .ok (.invokestatic 81, 3) := by decide +kernel
theorem dX12_hits_29 : decode cX12_hits 29 = .ok (.istore 7, 2) := by decide +kernel
theorem dX12_hits_31 : decode cX12_hits 31 = .ok (.aload_n 1, 1) := by decide +kernel
theorem dX12_hits_32 : decode cX12_hits 32 = .ok (.iload 5, 2) := by decide +kernel
theorem dX12_hits_34 : decode cX12_hits 34 = .ok (.iload 6, 2) := by decide +kernel
theorem dX12_hits_36 : decode cX12_hits 36 = .ok (.invokestatic 84, 3) := by decide +kernel
theorem dX12_hits_39 : decode cX12_hits 39 = .ok (.istore 8, 2) := by decide +kernel
theorem dX12_hits_41 : decode cX12_hits 41 = .ok (.aload_n 1, 1) := by decide +kernel
theorem dX12_hits_42 : decode cX12_hits 42 = .ok (.iconst 1, 1) := by decide +kernel
theorem dX12_hits_43 : decode cX12_hits 43 = .ok (.dup2, 1) := by decide +kernel
theorem dX12_hits_44 : decode cX12_hits 44 = .ok (.iaload, 1) := by decide +kernel
theorem dX12_hits_45 : decode cX12_hits 45 = .ok (.iconst 1, 1) := by decide +kernel
theorem dX12_hits_46 : decode cX12_hits 46 = .ok (.iadd, 1) := by decide +kernel
theorem dX12_hits_47 : decode cX12_hits 47 = .ok (.iastore, 1) := by decide +kernel
theorem dX12_hits_48 : decode cX12_hits 48 = .ok (.aload_n 1, 1) := by decide +kernel
theorem dX12_hits_49 : decode cX12_hits 49 = .ok (.iload 4, 2) := by decide +kernel
theorem dX12_hits_51 : decode cX12_hits 51 = .ok (.aload_n 1, 1) := by decide +kernel
theorem dX12_hits_52 : decode cX12_hits 52 = .ok (.iload_n 2, 1) := by decide +kernel
theorem dX12_hits_53 : decode cX12_hits 53 = .ok (.iconst 0, 1) := by decide +kernel
theorem dX12_hits_54 : decode cX12_hits 54 = .ok (.invokestatic 60, 3) := by decide +kernel
theorem dX12_hits_57 : decode cX12_hits 57 = .ok (.iaload, 1) := by decide +kernel
theorem dX12_hits_58 : decode cX12_hits 58 = .ok (.aload_n 1, 1) := by decide +kernel
theorem dX12_hits_59 : decode cX12_hits 59 = .ok (.iload_n 2, 1) := by decide +kernel
theorem dX12_hits_60 : decode cX12_hits 60 = .ok (.iconst 1, 1) := by decide +kernel
theorem dX12_hits_61 : decode cX12_hits 61 = .ok (.invokestatic 60, 3) := by decide +kernel
theorem dX12_hits_64 : decode cX12_hits 64 = .ok (.iaload, 1) := by decide +kernel
theorem dX12_hits_65 : decode cX12_hits 65 = .ok (.invokestatic 87, 3) := by decide +kernel
theorem dX12_hits_68 : decode cX12_hits 68 = .ok (.invokestatic 90, 3) := by decide +kernel
theorem dX12_hits_71 : decode cX12_hits 71 = .ok (.aload_n 1, 1) := by decide +kernel
theorem dX12_hits_72 : decode cX12_hits 72 = .ok (.iload 5, 2) := by decide +kernel
theorem dX12_hits_74 : decode cX12_hits 74 = .ok (.iload 6, 2) := by decide +kernel
theorem dX12_hits_76 : decode cX12_hits 76 = .ok (.invokestatic 94, 3) := by decide +kernel
theorem dX12_hits_79 : decode cX12_hits 79 = .ok (.ifCond .eq 23, 3) := by decide +kernel
theorem dX12_hits_82 : decode cX12_hits 82 = .ok (.aload_n 1, 1) := by decide +kernel
theorem dX12_hits_83 : decode cX12_hits 83 = .ok (.iconst 2, 1) := by decide +kernel
theorem dX12_hits_84 : decode cX12_hits 84 = .ok (.iload 5, 2) := by decide +kernel
theorem dX12_hits_86 : decode cX12_hits 86 = .ok (.imul, 1) := by decide +kernel
theorem dX12_hits_87 : decode cX12_hits 87 = .ok (.iconst 3, 1) := by decide +kernel
theorem dX12_hits_88 : decode cX12_hits 88 = .ok (.invokestatic 90, 3) := by decide +kernel
theorem dX12_hits_91 : decode cX12_hits 91 = .ok (.aload_n 1, 1) := by decide +kernel
theorem dX12_hits_92 : decode cX12_hits 92 = .ok (.iconst 2, 1) := by decide +kernel
theorem dX12_hits_93 : decode cX12_hits 93 = .ok (.iload 5, 2) := by decide +kernel
theorem dX12_hits_95 : decode cX12_hits 95 = .ok (.imul, 1) := by decide +kernel
theorem dX12_hits_96 : decode cX12_hits 96 = .ok (.iconst 1, 1) := by decide +kernel
theorem dX12_hits_97 : decode cX12_hits 97 = .ok (.iadd, 1) := by decide +kernel
theorem dX12_hits_98 : decode cX12_hits 98 = .ok (.iconst 3, 1) := by decide +kernel
theorem dX12_hits_99 : decode cX12_hits 99 = .ok (.invokestatic 90, 3) := by decide +kernel
theorem dX12_hits_102 : decode cX12_hits 102 = .ok (.iload 8, 2) := by decide +kernel
theorem dX12_hits_104 : decode cX12_hits 104 = .ok (.bipush 9, 2) := by decide +kernel
theorem dX12_hits_106 : decode cX12_hits 106 = .ok (.if_icmp .eq 27, 3) := by decide +kernel
theorem dX12_hits_109 : decode cX12_hits 109 = .ok (.aload_n 1, 1) := by decide +kernel
theorem dX12_hits_110 : decode cX12_hits 110 = .ok (.iload 8, 2) := by decide +kernel
theorem dX12_hits_112 : decode cX12_hits 112 = .ok (.iconst 0, 1) := by decide +kernel
theorem dX12_hits_113 : decode cX12_hits 113 = .ok (.invokestatic 46, 3) := by decide +kernel
theorem dX12_hits_116 : decode cX12_hits 116 = .ok (.iaload, 1) := by decide +kernel
theorem dX12_hits_117 : decode cX12_hits 117 = .ok (.iload 6, 2) := by decide +kernel
theorem dX12_hits_119 : decode cX12_hits 119 = .ok (.invokestatic 70, 3) := by decide +kernel
theorem dX12_hits_122 : decode cX12_hits 122 = .ok (.aload_n 1, 1) := by decide +kernel
theorem dX12_hits_123 : decode cX12_hits 123 = .ok (.iload 8, 2) := by decide +kernel
theorem dX12_hits_125 : decode cX12_hits 125 = .ok (.iload 7, 2) := by decide +kernel
theorem dX12_hits_127 : decode cX12_hits 127 = .ok (.invokestatic 98, 3) := by decide +kernel
theorem dX12_hits_130 : decode cX12_hits 130 = .ok (.if_icmp .le 28, 3) := by decide +kernel
theorem dX12_hits_133 : decode cX12_hits 133 = .ok (.aload_n 1, 1) := by decide +kernel
theorem dX12_hits_134 : decode cX12_hits 134 = .ok (.iconst 1, 1) := by decide +kernel
theorem dX12_hits_135 : decode cX12_hits 135 = .ok (.iload 5, 2) := by decide +kernel
theorem dX12_hits_137 : decode cX12_hits 137 = .ok (.isub, 1) := by decide +kernel
theorem dX12_hits_138 : decode cX12_hits 138 = .ok (.iconst 2, 1) := by decide +kernel
theorem dX12_hits_139 : decode cX12_hits 139 = .ok (.invokestatic 50, 3) := by decide +kernel
theorem dX12_hits_142 : decode cX12_hits 142 = .ok (.dup2, 1) := by decide +kernel
theorem dX12_hits_143 : decode cX12_hits 143 = .ok (.iaload, 1) := by decide +kernel
theorem dX12_hits_144 : decode cX12_hits 144 = .ok (.iconst 1, 1) := by decide +kernel
theorem dX12_hits_145 : decode cX12_hits 145 = .ok (.iadd, 1) := by decide +kernel
theorem dX12_hits_146 : decode cX12_hits 146 = .ok (.iastore, 1) := by decide +kernel
theorem dX12_hits_147 : decode cX12_hits 147 = .ok (.aload_n 1, 1) := by decide +kernel
theorem dX12_hits_148 : decode cX12_hits 148 = .ok (.iconst 2, 1) := by decide +kernel
theorem dX12_hits_149 : decode cX12_hits 149 = .ok (.iconst 2, 1) := by decide +kernel
theorem dX12_hits_150 : decode cX12_hits 150 = .ok (.iconst 1, 1) := by decide +kernel
theorem dX12_hits_151 : decode cX12_hits 151 = .ok (.iload 5, 2) := by decide +kernel
theorem dX12_hits_153 : decode cX12_hits 153 = .ok (.isub, 1) := by decide +kernel
theorem dX12_hits_154 : decode cX12_hits 154 = .ok (.imul, 1) := by decide +kernel
theorem dX12_hits_155 : decode cX12_hits 155 = .ok (.iastore, 1) := by decide +kernel
theorem dX12_hits_156 : decode cX12_hits 156 = .ok (.iconst 1, 1) := by decide +kernel
theorem dX12_hits_157 : decode cX12_hits 157 = .ok (.ireturn, 1) := by decide +kernel
theorem dX12_hits_158 : decode cX12_hits 158 = .ok (.aload_n 1, 1) := by decide +kernel
theorem dX12_hits_159 : decode cX12_hits 159 = .ok (.iload 8, 2) := by decide +kernel
theorem dX12_hits_161 : decode cX12_hits 161 = .ok (.iconst 0, 1) := by decide +kernel
theorem dX12_hits_162 : decode cX12_hits 162 = .ok (.invokestatic 46, 3) := by decide +kernel
theorem dX12_hits_165 : decode cX12_hits 165 = .ok (.iaload, 1) := by decide +kernel
theorem dX12_hits_166 : decode cX12_hits 166 = .ok (.iload 6, 2) := by decide +kernel
theorem dX12_hits_168 : decode cX12_hits 168 = .ok (.invokestatic 70, 3) := by decide +kernel
theorem dX12_hits_171 : decode cX12_hits 171 = .ok (.istore 9, 2) := by decide +kernel
theorem dX12_hits_173 : decode cX12_hits 173 = .ok (.aload_n 0, 1) := by decide +kernel
theorem dX12_hits_174 : decode cX12_hits 174 = .ok (.aload_n 1, 1) := by decide +kernel
theorem dX12_hits_175 : decode cX12_hits 175 = .ok (.iload 8, 2) := by decide +kernel
theorem dX12_hits_177 : decode cX12_hits 177 = .ok (.iload 6, 2) := by decide +kernel
theorem dX12_hits_179 : decode cX12_hits 179 = .ok (.invokevirtual 101, 3) := by decide +kernel
theorem dX12_hits_182 : decode cX12_hits 182 = .ok (.aload_n 1, 1) := by decide +kernel
theorem dX12_hits_183 : decode cX12_hits 183 = .ok (.iload 8, 2) := by decide +kernel
theorem dX12_hits_185 : decode cX12_hits 185 = .ok (.iload 9, 2) := by decide +kernel
theorem dX12_hits_187 : decode cX12_hits 187 = .ok (.invokestatic 90, 3) := by decide +kernel
theorem dX12_hits_190 : decode cX12_hits 190 = .ok (.aload_n 1, 1) := by decide +kernel
theorem dX12_hits_191 : decode cX12_hits 191 = .ok (.iconst 2, 1) := by decide +kernel
theorem dX12_hits_192 : decode cX12_hits 192 = .ok (.iload 8, 2) := by decide +kernel
theorem dX12_hits_194 : decode cX12_hits 194 = .ok (.iastore, 1) := by decide +kernel
theorem dX12_hits_195 : decode cX12_hits 195 = .ok (.iload 8, 2) := by decide +kernel
theorem dX12_hits_197 : decode cX12_hits 197 = .ok (.invokestatic 104, 3) := by decide +kernel
theorem dX12_hits_200 : decode cX12_hits 200 = .ok (.istore 10, 2) := by decide +kernel
theorem dX12_hits_202 : decode cX12_hits 202 = .ok (.aload_n 0, 1) := by decide +kernel
theorem dX12_hits_203 : decode cX12_hits 203 = .ok (.aload_n 1, 1) := by decide +kernel
theorem dX12_hits_204 : decode cX12_hits 204 = .ok (.iload 10, 2) := by decide +kernel
theorem dX12_hits_206 : decode cX12_hits 206 = .ok (.aload_n 1, 1) := by decide +kernel
theorem dX12_hits_207 : decode cX12_hits 207 = .ok (.iload 10, 2) := by decide +kernel
theorem dX12_hits_209 : decode cX12_hits 209 = .ok (.iconst 0, 1) := by decide +kernel
theorem dX12_hits_210 : decode cX12_hits 210 = .ok (.invokestatic 46, 3) := by decide +kernel
theorem dX12_hits_213 : decode cX12_hits 213 = .ok (.iaload, 1) := by decide +kernel
theorem dX12_hits_214 : decode cX12_hits 214 = .ok (.aload_n 1, 1) := by decide +kernel
theorem dX12_hits_215 : decode cX12_hits 215 = .ok (.iload 5, 2) := by decide +kernel
theorem dX12_hits_217 : decode cX12_hits 217 = .ok (.iconst 0, 1) := by decide +kernel
theorem dX12_hits_218 : decode cX12_hits 218 = .ok (.invokestatic 50, 3) := by decide +kernel
theorem dX12_hits_221 : decode cX12_hits 221 = .ok (.iaload, 1) := by decide +kernel
theorem dX12_hits_222 : decode cX12_hits 222 = .ok (.iload 6, 2) := by decide +kernel
theorem dX12_hits_224 : decode cX12_hits 224 = .ok (.invokestatic 107, 3) := by decide +kernel
theorem dX12_hits_227 : decode cX12_hits 227 = .ok (.aload_n 1, 1) := by decide +kernel
theorem dX12_hits_228 : decode cX12_hits 228 = .ok (.iload 10, 2) := by decide +kernel
theorem dX12_hits_230 : decode cX12_hits 230 = .ok (.iload 7, 2) := by decide +kernel
theorem dX12_hits_232 : decode cX12_hits 232 = .ok (.invokestatic 98, 3) := by decide +kernel
theorem dX12_hits_235 : decode cX12_hits 235 = .ok (.invokestatic 110, 3) := by decide +kernel
theorem dX12_hits_238 : decode cX12_hits 238 = .ok (.invokevirtual 101, 3) := by decide +kernel
theorem dX12_hits_241 : decode cX12_hits 241 = .ok (.iconst 0, 1) := by decide +kernel
theorem dX12_hits_242 : decode cX12_hits 242 = .ok (.ireturn, 1) := by decide +kernel
theorem dX12_here_0 : decode cX12_here 0 = .ok (.aload_n 0, 1) := by decide +kernel
theorem dX12_here_1 : decode cX12_here 1 = .ok (.getfield 113, 3) := by decide +kernel
theorem dX12_here_4 : decode cX12_here 4 = .ok (.aload_n 0, 1) := by decide +kernel
theorem dX12_here_5 : decode cX12_here 5 = .ok (.getfield 117, 3) := by decide +kernel
theorem dX12_here_8 : decode cX12_here 8 = .ok (.if_icmp .ge 24, 3) := by decide +kernel
theorem dX12_here_11 : decode cX12_here 11 = .ok (.aload_n 0, 1) := by decide +kernel
theorem dX12_here_12 : decode cX12_here 12 = .ok (.getfield 43, 3) := by decide +kernel
theorem dX12_here_15 : decode cX12_here 15 = .ok (.aload_n 0, 1) := by decide +kernel
theorem dX12_here_16 : decode cX12_here 16 = .ok (.getfield 120, 3) := by decide +kernel
theorem dX12_here_19 : decode cX12_here 19 = .ok (.aload_n 0, 1) := by decide +kernel
theorem dX12_here_20 : decode cX12_here 20 = .ok (.getfield 113, 3) := by decide +kernel
theorem dX12_here_23 : decode cX12_here 23 = .ok (.iadd, 1) := by decide +kernel
theorem dX12_here_24 : decode cX12_here 24 = .ok (.iaload, 1) := by decide +kernel
theorem dX12_here_25 : decode cX12_here 25 = .ok (.sipush 255, 3) := by decide +kernel
theorem dX12_here_28 : decode cX12_here 28 = .ok (.iand, 1) := by decide +kernel
theorem dX12_here_29 : decode cX12_here 29 = .ok (.goto 4, 3) := by decide +kernel
theorem dX12_here_32 : decode cX12_here 32 = .ok (.iconst (-1), 1) := by decide +kernel
theorem dX12_here_33 : decode cX12_here 33 = .ok (.ireturn, 1) := by decide +kernel
theorem dX12_readsNumber_0 : decode cX12_readsNumber 0 = .ok (.aload_n 0, 1) := by decide +kernel
theorem dX12_readsNumber_1 : decode cX12_readsNumber 1 = .ok (.getfield 25, 3) := by decide +kernel
theorem dX12_readsNumber_4 : decode cX12_readsNumber 4 = .ok (.iload_n 1, 1) := by decide +kernel
theorem dX12_readsNumber_5 : decode cX12_readsNumber 5 = .ok (.iconst 0, 1) := by decide +kernel
theorem dX12_readsNumber_6 : decode cX12_readsNumber 6 = .ok (.iastore, 1) := by decide +kernel
theorem dX12_readsNumber_7 : decode cX12_readsNumber 7 = .ok (.iconst 0, 1) := by decide +kernel
theorem dX12_readsNumber_8 : decode cX12_readsNumber 8 = .ok (.istore_n 3, 1) := by decide +kernel
theorem dX12_readsNumber_9 : decode cX12_readsNumber 9 = .ok (.iload_n 3, 1) := by decide +kernel
theorem dX12_readsNumber_10 : decode cX12_readsNumber 10 = .ok (.iload_n 2, 1) := by decide +kernel
theorem dX12_readsNumber_11 : decode cX12_readsNumber 11 = .ok (.if_icmp .ge 58, 3) := by decide +kernel
theorem dX12_readsNumber_14 : decode cX12_readsNumber 14 = .ok (.aload_n 0, 1) := by decide +kernel
theorem dX12_readsNumber_15 : decode cX12_readsNumber 15 = .ok (.invokevirtual 123, 3) := by decide +kernel
theorem dX12_readsNumber_18 : decode cX12_readsNumber 18 = .ok (.bipush 48, 2) := by decide +kernel
theorem dX12_readsNumber_20 : decode cX12_readsNumber 20 = .ok (.bipush 57, 2) := by decide +kernel
theorem dX12_readsNumber_22 : decode cX12_readsNumber 22 = .ok (.invokestatic 53, 3) := by decide +kernel
theorem dX12_readsNumber_25 : decode cX12_readsNumber 25 = .ok (.ifCond .ne 5, 3) := by decide +kernel
theorem dX12_readsNumber_28 : decode cX12_readsNumber 28 = .ok (.iconst 0, 1) := by decide +kernel
theorem dX12_readsNumber_29 : decode cX12_readsNumber 29 = .ok (.ireturn, 1) := by decide +kernel
theorem dX12_readsNumber_30 : decode cX12_readsNumber 30 = .ok (.aload_n 0, 1) := by decide +kernel
theorem dX12_readsNumber_31 : decode cX12_readsNumber 31 = .ok (.getfield 25, 3) := by decide +kernel
theorem dX12_readsNumber_34 : decode cX12_readsNumber 34 = .ok (.iload_n 1, 1) := by decide +kernel
theorem dX12_readsNumber_35 : decode cX12_readsNumber 35 = .ok (.bipush 10, 2) := by decide +kernel
theorem dX12_readsNumber_37 : decode cX12_readsNumber 37 = .ok (.aload_n 0, 1) := by decide +kernel
theorem dX12_readsNumber_38 : decode cX12_readsNumber 38 = .ok (.getfield 25, 3) := by decide +kernel
theorem dX12_readsNumber_41 : decode cX12_readsNumber 41 = .ok (.iload_n 1, 1) := by decide +kernel
theorem dX12_readsNumber_42 : decode cX12_readsNumber 42 = .ok (.iaload, 1) := by decide +kernel
theorem dX12_readsNumber_43 : decode cX12_readsNumber 43 = .ok (.imul, 1) := by decide +kernel
theorem dX12_readsNumber_44 : decode cX12_readsNumber 44 = .ok (.aload_n 0, 1) := by decide +kernel
theorem dX12_readsNumber_45 : decode cX12_readsNumber 45 = .ok (.invokevirtual 123, 3) := by decide +kernel
theorem dX12_readsNumber_48 : decode cX12_readsNumber 48 = .ok (.iadd, 1) := by decide +kernel
theorem dX12_readsNumber_49 : decode cX12_readsNumber 49 = .ok (.bipush 48, 2) := by decide +kernel
theorem dX12_readsNumber_51 : decode cX12_readsNumber 51 = .ok (.isub, 1) := by decide +kernel
theorem dX12_readsNumber_52 : decode cX12_readsNumber 52 = .ok (.iastore, 1) := by decide +kernel
theorem dX12_readsNumber_53 : decode cX12_readsNumber 53 = .ok (.aload_n 0, 1) := by decide +kernel
theorem dX12_readsNumber_54 : decode cX12_readsNumber 54 = .ok (.dup, 1) := by decide +kernel
theorem dX12_readsNumber_55 : decode cX12_readsNumber 55 = .ok (.getfield 113, 3) := by decide +kernel
theorem dX12_readsNumber_58 : decode cX12_readsNumber 58 = .ok (.iconst 1, 1) := by decide +kernel
theorem dX12_readsNumber_59 : decode cX12_readsNumber 59 = .ok (.iadd, 1) := by decide +kernel
theorem dX12_readsNumber_60 : decode cX12_readsNumber 60 = .ok (.putfield 113, 3) := by decide +kernel
theorem dX12_readsNumber_63 : decode cX12_readsNumber 63 = .ok (.iinc 3 1, 3) := by decide +kernel
theorem dX12_readsNumber_66 : decode cX12_readsNumber 66 = .ok (.goto (-57), 3) := by decide +kernel
theorem dX12_readsNumber_69 : decode cX12_readsNumber 69 = .ok (.iconst 1, 1) := by decide +kernel
theorem dX12_readsNumber_70 : decode cX12_readsNumber 70 = .ok (.ireturn, 1) := by decide +kernel
theorem dX12_readsStatement_0 : decode cX12_readsStatement 0 = .ok (.aload_n 0, 1) := by decide +kernel
theorem dX12_readsStatement_1 : decode cX12_readsStatement 1 = .ok (.invokevirtual 123, 3) := by decide +kernel
theorem dX12_readsStatement_4 : decode cX12_readsStatement 4 = .ok (.istore_n 1, 1) := by decide +kernel
theorem dX12_readsStatement_5 : decode cX12_readsStatement 5 = .ok (.aload_n 0, 1) := by decide +kernel
theorem dX12_readsStatement_6 : decode cX12_readsStatement 6 = .ok (.dup, 1) := by decide +kernel
theorem dX12_readsStatement_7 : decode cX12_readsStatement 7 = .ok (.getfield 113, 3) := by decide +kernel
theorem dX12_readsStatement_10 : decode cX12_readsStatement 10 = .ok (.iconst 1, 1) := by decide +kernel
theorem dX12_readsStatement_11 : decode cX12_readsStatement 11 = .ok (.iadd, 1) := by decide +kernel
theorem dX12_readsStatement_12 : decode cX12_readsStatement 12 = .ok (.putfield 113, 3) := by decide +kernel
theorem dX12_readsStatement_15 : decode cX12_readsStatement 15 = .ok (.iload_n 1, 1) := by decide +kernel
theorem dX12_readsStatement_16 : decode cX12_readsStatement 16 = .ok (.tableswitch 208 98 120 #[108, 208, 198, 208, 108, 208, 108, 208, 208, 208, 198, 208, 208, 208, 135, 208, 208, 208, 171, 208, 208, 208, 108], 108) := by decide +kernel
theorem dX12_readsStatement_124 : decode cX12_readsStatement 124 = .ok (.aload_n 0, 1) := by decide +kernel
theorem dX12_readsStatement_125 : decode cX12_readsStatement 125 = .ok (.iconst 0, 1) := by decide +kernel
theorem dX12_readsStatement_126 : decode cX12_readsStatement 126 = .ok (.iconst 1, 1) := by decide +kernel
theorem dX12_readsStatement_127 : decode cX12_readsStatement 127 = .ok (.invokevirtual 127, 3) := by decide +kernel
theorem dX12_readsStatement_130 : decode cX12_readsStatement 130 = .ok (.ifCond .eq 16, 3) := by decide +kernel
theorem dX12_readsStatement_133 : decode cX12_readsStatement 133 = .ok (.aload_n 0, 1) := by decide +kernel
theorem dX12_readsStatement_134 : decode cX12_readsStatement 134 = .ok (.iconst 1, 1) := by decide +kernel
theorem dX12_readsStatement_135 : decode cX12_readsStatement 135 = .ok (.iconst 1, 1) := by decide +kernel
theorem dX12_readsStatement_136 : decode cX12_readsStatement 136 = .ok (.invokevirtual 127, 3) := by decide +kernel
theorem dX12_readsStatement_139 : decode cX12_readsStatement 139 = .ok (.ifCond .eq 7, 3) := by decide +kernel
theorem dX12_readsStatement_142 : decode cX12_readsStatement 142 = .ok (.iconst 1, 1) := by decide +kernel
theorem dX12_readsStatement_143 : decode cX12_readsStatement 143 = .ok (.goto 4, 3) := by decide +kernel
theorem dX12_readsStatement_146 : decode cX12_readsStatement 146 = .ok (.iconst 0, 1) := by decide +kernel
theorem dX12_readsStatement_147 : decode cX12_readsStatement 147 = .ok (.istore_n 2, 1) := by decide +kernel
theorem dX12_readsStatement_148 : decode cX12_readsStatement 148 = .ok (.goto 88, 3) := by decide +kernel
theorem dX12_readsStatement_151 : decode cX12_readsStatement 151 = .ok (.aload_n 0, 1) := by decide +kernel
theorem dX12_readsStatement_152 : decode cX12_readsStatement 152 = .ok (.iconst 0, 1) := by decide +kernel
theorem dX12_readsStatement_153 : decode cX12_readsStatement 153 = .ok (.iconst 1, 1) := by decide +kernel
theorem dX12_readsStatement_154 : decode cX12_readsStatement 154 = .ok (.invokevirtual 127, 3) := by decide +kernel
theorem dX12_readsStatement_157 : decode cX12_readsStatement 157 = .ok (.ifCond .eq 25, 3) := by decide +kernel
theorem dX12_readsStatement_160 : decode cX12_readsStatement 160 = .ok (.aload_n 0, 1) := by decide +kernel
theorem dX12_readsStatement_161 : decode cX12_readsStatement 161 = .ok (.iconst 1, 1) := by decide +kernel
theorem dX12_readsStatement_162 : decode cX12_readsStatement 162 = .ok (.iconst 1, 1) := by decide +kernel
theorem dX12_readsStatement_163 : decode cX12_readsStatement 163 = .ok (.invokevirtual 127, 3) := by decide +kernel
theorem dX12_readsStatement_166 : decode cX12_readsStatement 166 = .ok (.ifCond .eq 16, 3) := by decide +kernel
theorem dX12_readsStatement_169 : decode cX12_readsStatement 169 = .ok (.aload_n 0, 1) := by decide +kernel
theorem dX12_readsStatement_170 : decode cX12_readsStatement 170 = .ok (.iconst 2, 1) := by decide +kernel
theorem dX12_readsStatement_171 : decode cX12_readsStatement 171 = .ok (.iconst 1, 1) := by decide +kernel
theorem dX12_readsStatement_172 : decode cX12_readsStatement 172 = .ok (.invokevirtual 127, 3) := by decide +kernel
theorem dX12_readsStatement_175 : decode cX12_readsStatement 175 = .ok (.ifCond .eq 7, 3) := by decide +kernel
theorem dX12_readsStatement_178 : decode cX12_readsStatement 178 = .ok (.iconst 1, 1) := by decide +kernel
theorem dX12_readsStatement_179 : decode cX12_readsStatement 179 = .ok (.goto 4, 3) := by decide +kernel
theorem dX12_readsStatement_182 : decode cX12_readsStatement 182 = .ok (.iconst 0, 1) := by decide +kernel
theorem dX12_readsStatement_183 : decode cX12_readsStatement 183 = .ok (.istore_n 2, 1) := by decide +kernel
theorem dX12_readsStatement_184 : decode cX12_readsStatement 184 = .ok (.goto 52, 3) := by decide +kernel
theorem dX12_readsStatement_187 : decode cX12_readsStatement 187 = .ok (.aload_n 0, 1) := by decide +kernel
theorem dX12_readsStatement_188 : decode cX12_readsStatement 188 = .ok (.iconst 0, 1) := by decide +kernel
theorem dX12_readsStatement_189 : decode cX12_readsStatement 189 = .ok (.iconst 1, 1) := by decide +kernel
theorem dX12_readsStatement_190 : decode cX12_readsStatement 190 = .ok (.invokevirtual 127, 3) := by decide +kernel
theorem dX12_readsStatement_193 : decode cX12_readsStatement 193 = .ok (.ifCond .eq 16, 3) := by decide +kernel
theorem dX12_readsStatement_196 : decode cX12_readsStatement 196 = .ok (.aload_n 0, 1) := by decide +kernel
theorem dX12_readsStatement_197 : decode cX12_readsStatement 197 = .ok (.iconst 1, 1) := by decide +kernel
theorem dX12_readsStatement_198 : decode cX12_readsStatement 198 = .ok (.iconst 2, 1) := by decide +kernel
theorem dX12_readsStatement_199 : decode cX12_readsStatement 199 = .ok (.invokevirtual 127, 3) := by decide +kernel
theorem dX12_readsStatement_202 : decode cX12_readsStatement 202 = .ok (.ifCond .eq 7, 3) := by decide +kernel
theorem dX12_readsStatement_205 : decode cX12_readsStatement 205 = .ok (.iconst 1, 1) := by decide +kernel
theorem dX12_readsStatement_206 : decode cX12_readsStatement 206 = .ok (.goto 4, 3) := by decide +kernel
theorem dX12_readsStatement_209 : decode cX12_readsStatement 209 = .ok (.iconst 0, 1) := by decide +kernel
theorem dX12_readsStatement_210 : decode cX12_readsStatement 210 = .ok (.istore_n 2, 1) := by decide +kernel
theorem dX12_readsStatement_211 : decode cX12_readsStatement 211 = .ok (.goto 25, 3) := by decide +kernel
theorem dX12_readsStatement_214 : decode cX12_readsStatement 214 = .ok (.aload_n 0, 1) := by decide +kernel
theorem dX12_readsStatement_215 : decode cX12_readsStatement 215 = .ok (.iconst 0, 1) := by decide +kernel
theorem dX12_readsStatement_216 : decode cX12_readsStatement 216 = .ok (.iconst 1, 1) := by decide +kernel
theorem dX12_readsStatement_217 : decode cX12_readsStatement 217 = .ok (.invokevirtual 127, 3) := by decide +kernel
theorem dX12_readsStatement_220 : decode cX12_readsStatement 220 = .ok (.istore_n 2, 1) := by decide +kernel
theorem dX12_readsStatement_221 : decode cX12_readsStatement 221 = .ok (.goto 15, 3) := by decide +kernel
theorem dX12_readsStatement_224 : decode cX12_readsStatement 224 = .ok (.aload_n 0, 1) := by decide +kernel
theorem dX12_readsStatement_225 : decode cX12_readsStatement 225 = .ok (.dup, 1) := by decide +kernel
theorem dX12_readsStatement_226 : decode cX12_readsStatement 226 = .ok (.getfield 113, 3) := by decide +kernel
theorem dX12_readsStatement_229 : decode cX12_readsStatement 229 = .ok (.iconst 1, 1) := by decide +kernel
theorem dX12_readsStatement_230 : decode cX12_readsStatement 230 = .ok (.isub, 1) := by decide +kernel
theorem dX12_readsStatement_231 : decode cX12_readsStatement 231 = .ok (.putfield 113, 3) := by decide +kernel
theorem dX12_readsStatement_234 : decode cX12_readsStatement 234 = .ok (.iconst 0, 1) := by decide +kernel
theorem dX12_readsStatement_235 : decode cX12_readsStatement 235 = .ok (.ireturn, 1) := by decide +kernel
theorem dX12_readsStatement_236 : decode cX12_readsStatement 236 = .ok (.iload_n 2, 1) := by decide +kernel
theorem dX12_readsStatement_237 : decode cX12_readsStatement 237 = .ok (.ifCond .eq 12, 3) := by decide +kernel
theorem dX12_readsStatement_240 : decode cX12_readsStatement 240 = .ok (.aload_n 0, 1) := by decide +kernel
theorem dX12_readsStatement_241 : decode cX12_readsStatement 241 = .ok (.invokevirtual 123, 3) := by decide +kernel
theorem dX12_readsStatement_244 : decode cX12_readsStatement 244 = .ok (.bipush 59, 2) := by decide +kernel
theorem dX12_readsStatement_246 : decode cX12_readsStatement 246 = .ok (.if_icmp .eq 5, 3) := by decide +kernel
theorem dX12_readsStatement_249 : decode cX12_readsStatement 249 = .ok (.iconst 0, 1) := by decide +kernel
theorem dX12_readsStatement_250 : decode cX12_readsStatement 250 = .ok (.ireturn, 1) := by decide +kernel
theorem dX12_readsStatement_251 : decode cX12_readsStatement 251 = .ok (.aload_n 0, 1) := by decide +kernel
theorem dX12_readsStatement_252 : decode cX12_readsStatement 252 = .ok (.dup, 1) := by decide +kernel
theorem dX12_readsStatement_253 : decode cX12_readsStatement 253 = .ok (.getfield 113, 3) := by decide +kernel
theorem dX12_readsStatement_256 : decode cX12_readsStatement 256 = .ok (.iconst 1, 1) := by decide +kernel
theorem dX12_readsStatement_257 : decode cX12_readsStatement 257 = .ok (.iadd, 1) := by decide +kernel
theorem dX12_readsStatement_258 : decode cX12_readsStatement 258 = .ok (.putfield 113, 3) := by decide +kernel
theorem dX12_readsStatement_261 : decode cX12_readsStatement 261 = .ok (.iconst 1, 1) := by decide +kernel
theorem dX12_readsStatement_262 : decode cX12_readsStatement 262 = .ok (.ireturn, 1) := by decide +kernel
theorem dX12_adds_0 : decode cX12_adds 0 = .ok (.aload_n 0, 1) := by decide +kernel
theorem dX12_adds_1 : decode cX12_adds 1 = .ok (.getfield 9, 3) := by decide +kernel
theorem dX12_adds_4 : decode cX12_adds 4 = .ok (.aload_n 0, 1) := by decide +kernel
theorem dX12_adds_5 : decode cX12_adds 5 = .ok (.getfield 9, 3) := by decide +kernel
theorem dX12_adds_8 : decode cX12_adds 8 = .ok (.iconst 0, 1) := by decide +kernel
theorem dX12_adds_9 : decode cX12_adds 9 = .ok (.iaload, 1) := by decide +kernel
theorem dX12_adds_10 : decode cX12_adds 10 = .ok (.iconst 0, 1) := by decide +kernel
theorem dX12_adds_11 : decode cX12_adds 11 = .ok (.invokestatic 60, 3) := by decide +kernel
theorem dX12_adds_14 : decode cX12_adds 14 = .ok (.iload_n 1, 1) := by decide +kernel
theorem dX12_adds_15 : decode cX12_adds 15 = .ok (.iastore, 1) := by decide +kernel
theorem dX12_adds_16 : decode cX12_adds 16 = .ok (.aload_n 0, 1) := by decide +kernel
theorem dX12_adds_17 : decode cX12_adds 17 = .ok (.getfield 9, 3) := by decide +kernel
theorem dX12_adds_20 : decode cX12_adds 20 = .ok (.aload_n 0, 1) := by decide +kernel
theorem dX12_adds_21 : decode cX12_adds 21 = .ok (.getfield 9, 3) := by decide +kernel
theorem dX12_adds_24 : decode cX12_adds 24 = .ok (.iconst 0, 1) := by decide +kernel
theorem dX12_adds_25 : decode cX12_adds 25 = .ok (.iaload, 1) := by decide +kernel
theorem dX12_adds_26 : decode cX12_adds 26 = .ok (.iconst 1, 1) := by decide +kernel
theorem dX12_adds_27 : decode cX12_adds 27 = .ok (.invokestatic 60, 3) := by decide +kernel
theorem dX12_adds_30 : decode cX12_adds 30 = .ok (.iload_n 2, 1) := by decide +kernel
theorem dX12_adds_31 : decode cX12_adds 31 = .ok (.iastore, 1) := by decide +kernel
theorem dX12_adds_32 : decode cX12_adds 32 = .ok (.aload_n 0, 1) := by decide +kernel
theorem dX12_adds_33 : decode cX12_adds 33 = .ok (.getfield 9, 3) := by decide +kernel
theorem dX12_adds_36 : decode cX12_adds 36 = .ok (.iconst 0, 1) := by decide +kernel
theorem dX12_adds_37 : decode cX12_adds 37 = .ok (.dup2, 1) := by decide +kernel
theorem dX12_adds_38 : decode cX12_adds 38 = .ok (.iaload, 1) := by decide +kernel
theorem dX12_adds_39 : decode cX12_adds 39 = .ok (.iconst 1, 1) := by decide +kernel
theorem dX12_adds_40 : decode cX12_adds 40 = .ok (.iadd, 1) := by decide +kernel
theorem dX12_adds_41 : decode cX12_adds 41 = .ok (.iastore, 1) := by decide +kernel
theorem dX12_adds_42 : decode cX12_adds 42 = .ok (.return_, 1) := by decide +kernel
theorem dX12_isOver_0 : decode cX12_isOver 0 = .ok (.aload_n 0, 1) := by decide +kernel
theorem dX12_isOver_1 : decode cX12_isOver 1 = .ok (.getfield 9, 3) := by decide +kernel
theorem dX12_isOver_4 : decode cX12_isOver 4 = .ok (.iconst 1, 1) := by decide +kernel
theorem dX12_isOver_5 : decode cX12_isOver 5 = .ok (.iaload, 1) := by decide +kernel
theorem dX12_isOver_6 : decode cX12_isOver 6 = .ok (.sipush 999, 3) := by decide +kernel
theorem dX12_isOver_9 : decode cX12_isOver 9 = .ok (.if_icmp .eq 33, 3) := by decide +kernel
theorem dX12_isOver_12 : decode cX12_isOver 12 = .ok (.aload_n 0, 1) := by decide +kernel
theorem dX12_isOver_13 : decode cX12_isOver 13 = .ok (.getfield 9, 3) := by decide +kernel
theorem dX12_isOver_16 : decode cX12_isOver 16 = .ok (.iconst 0, 1) := by decide +kernel
theorem dX12_isOver_17 : decode cX12_isOver 17 = .ok (.iconst 2, 1) := by decide +kernel
theorem dX12_isOver_18 : decode cX12_isOver 18 = .ok (.invokestatic 50, 3) := by decide +kernel
theorem dX12_isOver_21 : decode cX12_isOver 21 = .ok (.iaload, 1) := by decide +kernel
theorem dX12_isOver_22 : decode cX12_isOver 22 = .ok (.bipush 99, 2) := by decide +kernel
theorem dX12_isOver_24 : decode cX12_isOver 24 = .ok (.if_icmp .eq 18, 3) := by decide +kernel
theorem dX12_isOver_27 : decode cX12_isOver 27 = .ok (.aload_n 0, 1) := by decide +kernel
theorem dX12_isOver_28 : decode cX12_isOver 28 = .ok (.getfield 9, 3) := by decide +kernel
theorem dX12_isOver_31 : decode cX12_isOver 31 = .ok (.iconst 1, 1) := by decide +kernel
theorem dX12_isOver_32 : decode cX12_isOver 32 = .ok (.iconst 2, 1) := by decide +kernel
theorem dX12_isOver_33 : decode cX12_isOver 33 = .ok (.invokestatic 50, 3) := by decide +kernel
theorem dX12_isOver_36 : decode cX12_isOver 36 = .ok (.iaload, 1) := by decide +kernel
theorem dX12_isOver_37 : decode cX12_isOver 37 = .ok (.bipush 99, 2) := by decide +kernel
theorem dX12_isOver_39 : decode cX12_isOver 39 = .ok (.if_icmp .ne 7, 3) := by decide +kernel
theorem dX12_isOver_42 : decode cX12_isOver 42 = .ok (.iconst 1, 1) := by decide +kernel
theorem dX12_isOver_43 : decode cX12_isOver 43 = .ok (.goto 4, 3) := by decide +kernel
theorem dX12_isOver_46 : decode cX12_isOver 46 = .ok (.iconst 0, 1) := by decide +kernel
theorem dX12_isOver_47 : decode cX12_isOver 47 = .ok (.ireturn, 1) := by decide +kernel
theorem dX12_isDone_0 : decode cX12_isDone 0 = .ok (.aload_n 0, 1) := by decide +kernel
theorem dX12_isDone_1 : decode cX12_isDone 1 = .ok (.getfield 25, 3) := by decide +kernel
theorem dX12_isDone_4 : decode cX12_isDone 4 = .ok (.iconst 0, 1) := by decide +kernel
theorem dX12_isDone_5 : decode cX12_isDone 5 = .ok (.iaload, 1) := by decide +kernel
theorem dX12_isDone_6 : decode cX12_isDone 6 = .ok (.istore_n 2, 1) := by decide +kernel
theorem dX12_isDone_7 : decode cX12_isDone 7 = .ok (.aload_n 0, 1) := by decide +kernel
theorem dX12_isDone_8 : decode cX12_isDone 8 = .ok (.getfield 25, 3) := by decide +kernel
theorem dX12_isDone_11 : decode cX12_isDone 11 = .ok (.iconst 1, 1) := by decide +kernel
theorem dX12_isDone_12 : decode cX12_isDone 12 = .ok (.iaload, 1) := by decide +kernel
theorem dX12_isDone_13 : decode cX12_isDone 13 = .ok (.istore_n 3, 1) := by decide +kernel
theorem dX12_isDone_14 : decode cX12_isDone 14 = .ok (.iload_n 1, 1) := by decide +kernel
theorem dX12_isDone_15 : decode cX12_isDone 15 = .ok (.tableswitch 285 98 116 #[89, 285, 267, 285, 222, 285, 222, 285, 285, 285, 197, 285, 285, 285, 116, 285, 285, 285, 175], 89) := by decide +kernel
theorem dX12_isDone_104 : decode cX12_isDone 104 = .ok (.iload_n 2, 1) := by decide +kernel
theorem dX12_isDone_105 : decode cX12_isDone 105 = .ok (.bipush 8, 2) := by decide +kernel
theorem dX12_isDone_107 : decode cX12_isDone 107 = .ok (.if_icmp .ge 14, 3) := by decide +kernel
theorem dX12_isDone_110 : decode cX12_isDone 110 = .ok (.aload_n 0, 1) := by decide +kernel
theorem dX12_isDone_111 : decode cX12_isDone 111 = .ok (.getfield 9, 3) := by decide +kernel
theorem dX12_isDone_114 : decode cX12_isDone 114 = .ok (.iconst 0, 1) := by decide +kernel
theorem dX12_isDone_115 : decode cX12_isDone 115 = .ok (.iaload, 1) := by decide +kernel
theorem dX12_isDone_116 : decode cX12_isDone 116 = .ok (.bipush 8, 2) := by decide +kernel
theorem dX12_isDone_118 : decode cX12_isDone 118 = .ok (.if_icmp .ne 5, 3) := by decide +kernel
theorem dX12_isDone_121 : decode cX12_isDone 121 = .ok (.iconst 0, 1) := by decide +kernel
theorem dX12_isDone_122 : decode cX12_isDone 122 = .ok (.ireturn, 1) := by decide +kernel
theorem dX12_isDone_123 : decode cX12_isDone 123 = .ok (.aload_n 0, 1) := by decide +kernel
theorem dX12_isDone_124 : decode cX12_isDone 124 = .ok (.iload_n 2, 1) := by decide +kernel
theorem dX12_isDone_125 : decode cX12_isDone 125 = .ok (.iload_n 3, 1) := by decide +kernel
theorem dX12_isDone_126 : decode cX12_isDone 126 = .ok (.invokevirtual 131, 3) := by decide +kernel
theorem dX12_isDone_129 : decode cX12_isDone 129 = .ok (.iconst 1, 1) := by decide +kernel
theorem dX12_isDone_130 : decode cX12_isDone 130 = .ok (.ireturn, 1) := by decide +kernel
theorem dX12_isDone_131 : decode cX12_isDone 131 = .ok (.iload_n 2, 1) := by decide +kernel
theorem dX12_isDone_132 : decode cX12_isDone 132 = .ok (.invokestatic 135, 3) := by decide +kernel
theorem dX12_isDone_135 : decode cX12_isDone 135 = .ok (.ifCond .eq 24, 3) := by decide +kernel
theorem dX12_isDone_138 : decode cX12_isDone 138 = .ok (.iload_n 3, 1) := by decide +kernel
theorem dX12_isDone_139 : decode cX12_isDone 139 = .ok (.invokestatic 139, 3) := by decide +kernel
theorem dX12_isDone_142 : decode cX12_isDone 142 = .ok (.ifCond .eq 17, 3) := by decide +kernel
theorem dX12_isDone_145 : decode cX12_isDone 145 = .ok (.aload_n 0, 1) := by decide +kernel
theorem dX12_isDone_146 : decode cX12_isDone 146 = .ok (.getfield 25, 3) := by decide +kernel
theorem dX12_isDone_149 : decode cX12_isDone 149 = .ok (.iconst 2, 1) := by decide +kernel
theorem dX12_isDone_150 : decode cX12_isDone 150 = .ok (.iaload, 1) := by decide +kernel
theorem dX12_isDone_151 : decode cX12_isDone 151 = .ok (.iconst 1, 1) := by decide +kernel
theorem dX12_isDone_152 : decode cX12_isDone 152 = .ok (.iconst 4, 1) := by decide +kernel
theorem dX12_isDone_153 : decode cX12_isDone 153 = .ok (.invokestatic 53, 3) := by decide +kernel
theorem dX12_isDone_156 : decode cX12_isDone 156 = .ok (.ifCond .ne 5, 3) := by decide +kernel
theorem dX12_isDone_159 : decode cX12_isDone 159 = .ok (.iconst 0, 1) := by decide +kernel
theorem dX12_isDone_160 : decode cX12_isDone 160 = .ok (.ireturn, 1) := by decide +kernel
theorem dX12_isDone_161 : decode cX12_isDone 161 = .ok (.aload_n 0, 1) := by decide +kernel
theorem dX12_isDone_162 : decode cX12_isDone 162 = .ok (.getfield 9, 3) := by decide +kernel
theorem dX12_isDone_165 : decode cX12_isDone 165 = .ok (.iload_n 2, 1) := by decide +kernel
theorem dX12_isDone_166 : decode cX12_isDone 166 = .ok (.iconst 0, 1) := by decide +kernel
theorem dX12_isDone_167 : decode cX12_isDone 167 = .ok (.invokestatic 46, 3) := by decide +kernel
theorem dX12_isDone_170 : decode cX12_isDone 170 = .ok (.iload_n 3, 1) := by decide +kernel
theorem dX12_isDone_171 : decode cX12_isDone 171 = .ok (.iastore, 1) := by decide +kernel
theorem dX12_isDone_172 : decode cX12_isDone 172 = .ok (.aload_n 0, 1) := by decide +kernel
theorem dX12_isDone_173 : decode cX12_isDone 173 = .ok (.getfield 9, 3) := by decide +kernel
theorem dX12_isDone_176 : decode cX12_isDone 176 = .ok (.iload_n 2, 1) := by decide +kernel
theorem dX12_isDone_177 : decode cX12_isDone 177 = .ok (.iconst 1, 1) := by decide +kernel
theorem dX12_isDone_178 : decode cX12_isDone 178 = .ok (.invokestatic 46, 3) := by decide +kernel
theorem dX12_isDone_181 : decode cX12_isDone 181 = .ok (.aload_n 0, 1) := by decide +kernel
theorem dX12_isDone_182 : decode cX12_isDone 182 = .ok (.getfield 25, 3) := by decide +kernel
theorem dX12_isDone_185 : decode cX12_isDone 185 = .ok (.iconst 2, 1) := by decide +kernel
theorem dX12_isDone_186 : decode cX12_isDone 186 = .ok (.iaload, 1) := by decide +kernel
theorem dX12_isDone_187 : decode cX12_isDone 187 = .ok (.iastore, 1) := by decide +kernel
theorem dX12_isDone_188 : decode cX12_isDone 188 = .ok (.iconst 1, 1) := by decide +kernel
theorem dX12_isDone_189 : decode cX12_isDone 189 = .ok (.ireturn, 1) := by decide +kernel
theorem dX12_isDone_190 : decode cX12_isDone 190 = .ok (.iload_n 2, 1) := by decide +kernel
theorem dX12_isDone_191 : decode cX12_isDone 191 = .ok (.invokestatic 135, 3) := by decide +kernel
theorem dX12_isDone_194 : decode cX12_isDone 194 = .ok (.ifCond .ne 5, 3) := by decide +kernel
theorem dX12_isDone_197 : decode cX12_isDone 197 = .ok (.iconst 0, 1) := by decide +kernel
theorem dX12_isDone_198 : decode cX12_isDone 198 = .ok (.ireturn, 1) := by decide +kernel
theorem dX12_isDone_199 : decode cX12_isDone 199 = .ok (.aload_n 0, 1) := by decide +kernel
theorem dX12_isDone_200 : decode cX12_isDone 200 = .ok (.getfield 9, 3) := by decide +kernel
theorem dX12_isDone_203 : decode cX12_isDone 203 = .ok (.iload_n 2, 1) := by decide +kernel
theorem dX12_isDone_204 : decode cX12_isDone 204 = .ok (.iconst 2, 1) := by decide +kernel
theorem dX12_isDone_205 : decode cX12_isDone 205 = .ok (.invokestatic 46, 3) := by decide +kernel
theorem dX12_isDone_208 : decode cX12_isDone 208 = .ok (.iload_n 3, 1) := by decide +kernel
theorem dX12_isDone_209 : decode cX12_isDone 209 = .ok (.iastore, 1) := by decide +kernel
theorem dX12_isDone_210 : decode cX12_isDone 210 = .ok (.iconst 1, 1) := by decide +kernel
theorem dX12_isDone_211 : decode cX12_isDone 211 = .ok (.ireturn, 1) := by decide +kernel
theorem dX12_isDone_212 : decode cX12_isDone 212 = .ok (.iload_n 2, 1) := by decide +kernel
theorem dX12_isDone_213 : decode cX12_isDone 213 = .ok (.invokestatic 135, 3) := by decide +kernel
theorem dX12_isDone_216 : decode cX12_isDone 216 = .ok (.ifCond .ne 5, 3) := by decide +kernel
theorem dX12_isDone_219 : decode cX12_isDone 219 = .ok (.iconst 0, 1) := by decide +kernel
theorem dX12_isDone_220 : decode cX12_isDone 220 = .ok (.ireturn, 1) := by decide +kernel
theorem dX12_isDone_221 : decode cX12_isDone 221 = .ok (.aload_n 0, 1) := by decide +kernel
theorem dX12_isDone_222 : decode cX12_isDone 222 = .ok (.getfield 9, 3) := by decide +kernel
theorem dX12_isDone_225 : decode cX12_isDone 225 = .ok (.iload_n 2, 1) := by decide +kernel
theorem dX12_isDone_226 : decode cX12_isDone 226 = .ok (.iconst 3, 1) := by decide +kernel
theorem dX12_isDone_227 : decode cX12_isDone 227 = .ok (.invokestatic 46, 3) := by decide +kernel
theorem dX12_isDone_230 : decode cX12_isDone 230 = .ok (.dup2, 1) := by decide +kernel
theorem dX12_isDone_231 : decode cX12_isDone 231 = .ok (.iaload, 1) := by decide +kernel
theorem dX12_isDone_232 : decode cX12_isDone 232 = .ok (.iconst 1, 1) := by decide +kernel
theorem dX12_isDone_233 : decode cX12_isDone 233 = .ok (.ixor, 1) := by decide +kernel
theorem dX12_isDone_234 : decode cX12_isDone 234 = .ok (.iastore, 1) := by decide +kernel
theorem dX12_isDone_235 : decode cX12_isDone 235 = .ok (.iconst 1, 1) := by decide +kernel
theorem dX12_isDone_236 : decode cX12_isDone 236 = .ok (.ireturn, 1) := by decide +kernel
theorem dX12_isDone_237 : decode cX12_isDone 237 = .ok (.iload_n 2, 1) := by decide +kernel
theorem dX12_isDone_238 : decode cX12_isDone 238 = .ok (.iconst 1, 1) := by decide +kernel
theorem dX12_isDone_239 : decode cX12_isDone 239 = .ok (.if_icmp .gt 18, 3) := by decide +kernel
theorem dX12_isDone_242 : decode cX12_isDone 242 = .ok (.iload_n 3, 1) := by decide +kernel
theorem dX12_isDone_243 : decode cX12_isDone 243 = .ok (.iload_n 1, 1) := by decide +kernel
theorem dX12_isDone_244 : decode cX12_isDone 244 = .ok (.bipush 102, 2) := by decide +kernel
theorem dX12_isDone_246 : decode cX12_isDone 246 = .ok (.if_icmp .ne 7, 3) := by decide +kernel
theorem dX12_isDone_249 : decode cX12_isDone 249 = .ok (.iconst 1, 1) := by decide +kernel
theorem dX12_isDone_250 : decode cX12_isDone 250 = .ok (.goto 4, 3) := by decide +kernel
theorem dX12_isDone_253 : decode cX12_isDone 253 = .ok (.iconst 3, 1) := by decide +kernel
theorem dX12_isDone_254 : decode cX12_isDone 254 = .ok (.if_icmp .le 5, 3) := by decide +kernel
theorem dX12_isDone_257 : decode cX12_isDone 257 = .ok (.iconst 0, 1) := by decide +kernel
theorem dX12_isDone_258 : decode cX12_isDone 258 = .ok (.ireturn, 1) := by decide +kernel
theorem dX12_isDone_259 : decode cX12_isDone 259 = .ok (.aload_n 0, 1) := by decide +kernel
theorem dX12_isDone_260 : decode cX12_isDone 260 = .ok (.getfield 9, 3) := by decide +kernel
theorem dX12_isDone_263 : decode cX12_isDone 263 = .ok (.iload_n 2, 1) := by decide +kernel
theorem dX12_isDone_264 : decode cX12_isDone 264 = .ok (.iload_n 1, 1) := by decide +kernel
theorem dX12_isDone_265 : decode cX12_isDone 265 = .ok (.bipush 102, 2) := by decide +kernel
theorem dX12_isDone_267 : decode cX12_isDone 267 = .ok (.if_icmp .ne 7, 3) := by decide +kernel
theorem dX12_isDone_270 : decode cX12_isDone 270 = .ok (.iconst 0, 1) := by decide +kernel
theorem dX12_isDone_271 : decode cX12_isDone 271 = .ok (.goto 4, 3) := by decide +kernel
theorem dX12_isDone_274 : decode cX12_isDone 274 = .ok (.iconst 1, 1) := by decide +kernel
theorem dX12_isDone_275 : decode cX12_isDone 275 = .ok (.invokestatic 50, 3) := by decide +kernel
theorem dX12_isDone_278 : decode cX12_isDone 278 = .ok (.iload_n 3, 1) := by decide +kernel
theorem dX12_isDone_279 : decode cX12_isDone 279 = .ok (.iastore, 1) := by decide +kernel
theorem dX12_isDone_280 : decode cX12_isDone 280 = .ok (.iconst 1, 1) := by decide +kernel
theorem dX12_isDone_281 : decode cX12_isDone 281 = .ok (.ireturn, 1) := by decide +kernel
theorem dX12_isDone_282 : decode cX12_isDone 282 = .ok (.iload_n 2, 1) := by decide +kernel
theorem dX12_isDone_283 : decode cX12_isDone 283 = .ok (.iconst 2, 1) := by decide +kernel
theorem dX12_isDone_284 : decode cX12_isDone 284 = .ok (.if_icmp .le 5, 3) := by decide +kernel
theorem dX12_isDone_287 : decode cX12_isDone 287 = .ok (.iconst 0, 1) := by decide +kernel
theorem dX12_isDone_288 : decode cX12_isDone 288 = .ok (.ireturn, 1) := by decide +kernel
theorem dX12_isDone_289 : decode cX12_isDone 289 = .ok (.aload_n 0, 1) := by decide +kernel
theorem dX12_isDone_290 : decode cX12_isDone 290 = .ok (.getfield 9, 3) := by decide +kernel
theorem dX12_isDone_293 : decode cX12_isDone 293 = .ok (.iconst 3, 1) := by decide +kernel
theorem dX12_isDone_294 : decode cX12_isDone 294 = .ok (.iload_n 2, 1) := by decide +kernel
theorem dX12_isDone_295 : decode cX12_isDone 295 = .ok (.iconst 1, 1) := by decide +kernel
theorem dX12_isDone_296 : decode cX12_isDone 296 = .ok (.isub, 1) := by decide +kernel
theorem dX12_isDone_297 : decode cX12_isDone 297 = .ok (.iastore, 1) := by decide +kernel
theorem dX12_isDone_298 : decode cX12_isDone 298 = .ok (.iconst 1, 1) := by decide +kernel
theorem dX12_isDone_299 : decode cX12_isDone 299 = .ok (.ireturn, 1) := by decide +kernel
theorem dX12_isDone_300 : decode cX12_isDone 300 = .ok (.aload_n 0, 1) := by decide +kernel
theorem dX12_isDone_301 : decode cX12_isDone 301 = .ok (.iload_n 2, 1) := by decide +kernel
theorem dX12_isDone_302 : decode cX12_isDone 302 = .ok (.invokevirtual 142, 3) := by decide +kernel
theorem dX12_isDone_305 : decode cX12_isDone 305 = .ok (.ifCond .eq 17, 3) := by decide +kernel
theorem dX12_isDone_308 : decode cX12_isDone 308 = .ok (.iload_n 3, 1) := by decide +kernel
theorem dX12_isDone_309 : decode cX12_isDone 309 = .ok (.invokestatic 139, 3) := by decide +kernel
theorem dX12_isDone_312 : decode cX12_isDone 312 = .ok (.ifCond .eq 10, 3) := by decide +kernel
theorem dX12_isDone_315 : decode cX12_isDone 315 = .ok (.aload_n 0, 1) := by decide +kernel
theorem dX12_isDone_316 : decode cX12_isDone 316 = .ok (.invokevirtual 145, 3) := by decide +kernel
theorem dX12_isDone_319 : decode cX12_isDone 319 = .ok (.ifCond .eq 5, 3) := by decide +kernel
theorem dX12_isDone_322 : decode cX12_isDone 322 = .ok (.iconst 0, 1) := by decide +kernel
theorem dX12_isDone_323 : decode cX12_isDone 323 = .ok (.ireturn, 1) := by decide +kernel
theorem dX12_isDone_324 : decode cX12_isDone 324 = .ok (.aload_n 0, 1) := by decide +kernel
theorem dX12_isDone_325 : decode cX12_isDone 325 = .ok (.aload_n 0, 1) := by decide +kernel
theorem dX12_isDone_326 : decode cX12_isDone 326 = .ok (.getfield 9, 3) := by decide +kernel
theorem dX12_isDone_329 : decode cX12_isDone 329 = .ok (.iload_n 2, 1) := by decide +kernel
theorem dX12_isDone_330 : decode cX12_isDone 330 = .ok (.iload_n 3, 1) := by decide +kernel
theorem dX12_isDone_331 : decode cX12_isDone 331 = .ok (.invokevirtual 149, 3) := by decide +kernel
theorem dX12_isDone_334 : decode cX12_isDone 334 = .ok (.istore 4, 2) := by decide +kernel
theorem dX12_isDone_336 : decode cX12_isDone 336 = .ok (.iconst 1, 1) := by decide +kernel
theorem dX12_isDone_337 : decode cX12_isDone 337 = .ok (.ireturn, 1) := by decide +kernel
theorem dX12_court_0 : decode cX12_court 0 = .ok (.aload_n 0, 1) := by decide +kernel
theorem dX12_court_1 : decode cX12_court 1 = .ok (.iload_n 1, 1) := by decide +kernel
theorem dX12_court_2 : decode cX12_court 2 = .ok (.iconst 0, 1) := by decide +kernel
theorem dX12_court_3 : decode cX12_court 3 = .ok (.invokevirtual 152, 3) := by decide +kernel
theorem dX12_court_6 : decode cX12_court 6 = .ok (.istore_n 2, 1) := by decide +kernel
theorem dX12_court_7 : decode cX12_court 7 = .ok (.iload_n 2, 1) := by decide +kernel
theorem dX12_court_8 : decode cX12_court 8 = .ok (.ifCond .eq 5, 3) := by decide +kernel
theorem dX12_court_11 : decode cX12_court 11 = .ok (.iload_n 2, 1) := by decide +kernel
theorem dX12_court_12 : decode cX12_court 12 = .ok (.ireturn, 1) := by decide +kernel
theorem dX12_court_13 : decode cX12_court 13 = .ok (.aload_n 0, 1) := by decide +kernel
theorem dX12_court_14 : decode cX12_court 14 = .ok (.bipush 100, 2) := by decide +kernel
theorem dX12_court_16 : decode cX12_court 16 = .ok (.iload_n 1, 1) := by decide +kernel
theorem dX12_court_17 : decode cX12_court 17 = .ok (.imul, 1) := by decide +kernel
theorem dX12_court_18 : decode cX12_court 18 = .ok (.putfield 120, 3) := by decide +kernel
theorem dX12_court_21 : decode cX12_court 21 = .ok (.aload_n 0, 1) := by decide +kernel
theorem dX12_court_22 : decode cX12_court 22 = .ok (.aload_n 0, 1) := by decide +kernel
theorem dX12_court_23 : decode cX12_court 23 = .ok (.getfield 40, 3) := by decide +kernel
theorem dX12_court_26 : decode cX12_court 26 = .ok (.iload_n 1, 1) := by decide +kernel
theorem dX12_court_27 : decode cX12_court 27 = .ok (.iaload, 1) := by decide +kernel
theorem dX12_court_28 : decode cX12_court 28 = .ok (.putfield 117, 3) := by decide +kernel
theorem dX12_court_31 : decode cX12_court 31 = .ok (.aload_n 0, 1) := by decide +kernel
theorem dX12_court_32 : decode cX12_court 32 = .ok (.iconst 0, 1) := by decide +kernel
theorem dX12_court_33 : decode cX12_court 33 = .ok (.putfield 113, 3) := by decide +kernel
theorem dX12_court_36 : decode cX12_court 36 = .ok (.iconst 0, 1) := by decide +kernel
theorem dX12_court_37 : decode cX12_court 37 = .ok (.istore_n 3, 1) := by decide +kernel
theorem dX12_court_38 : decode cX12_court 38 = .ok (.iconst 0, 1) := by decide +kernel
theorem dX12_court_39 : decode cX12_court 39 = .ok (.istore 4, 2) := by decide +kernel
theorem dX12_court_41 : decode cX12_court 41 = .ok (.aload_n 0, 1) := by decide +kernel
theorem dX12_court_42 : decode cX12_court 42 = .ok (.invokevirtual 155, 3) := by decide +kernel
theorem dX12_court_45 : decode cX12_court 45 = .ok (.ifCond .ne 13, 3) := by decide +kernel
theorem dX12_court_48 : decode cX12_court 48 = .ok (.sipush (-1000), 3) := by decide +kernel
theorem dX12_court_51 : decode cX12_court 51 = .ok (.aload_n 0, 1) := by decide +kernel
theorem dX12_court_52 : decode cX12_court 52 = .ok (.getfield 113, 3) := by decide +kernel
theorem dX12_court_55 : decode cX12_court 55 = .ok (.isub, 1) := by decide +kernel
theorem dX12_court_56 : decode cX12_court 56 = .ok (.istore 4, 2) := by decide +kernel
theorem dX12_court_58 : decode cX12_court 58 = .ok (.iinc 3 1, 3) := by decide +kernel
theorem dX12_court_61 : decode cX12_court 61 = .ok (.iload 4, 2) := by decide +kernel
theorem dX12_court_63 : decode cX12_court 63 = .ok (.ifCond .ne 14, 3) := by decide +kernel
theorem dX12_court_66 : decode cX12_court 66 = .ok (.aload_n 0, 1) := by decide +kernel
theorem dX12_court_67 : decode cX12_court 67 = .ok (.getfield 113, 3) := by decide +kernel
theorem dX12_court_70 : decode cX12_court 70 = .ok (.aload_n 0, 1) := by decide +kernel
theorem dX12_court_71 : decode cX12_court 71 = .ok (.getfield 117, 3) := by decide +kernel
theorem dX12_court_74 : decode cX12_court 74 = .ok (.if_icmp .lt (-33), 3) := by decide +kernel
theorem dX12_court_77 : decode cX12_court 77 = .ok (.aload_n 0, 1) := by decide +kernel
theorem dX12_court_78 : decode cX12_court 78 = .ok (.getfield 9, 3) := by decide +kernel
theorem dX12_court_81 : decode cX12_court 81 = .ok (.aload_n 0, 1) := by decide +kernel
theorem dX12_court_82 : decode cX12_court 82 = .ok (.getfield 19, 3) := by decide +kernel
theorem dX12_court_85 : decode cX12_court 85 = .ok (.invokestatic 158, 3) := by decide +kernel
theorem dX12_court_88 : decode cX12_court 88 = .ok (.aload_n 0, 1) := by decide +kernel
theorem dX12_court_89 : decode cX12_court 89 = .ok (.iconst 0, 1) := by decide +kernel
theorem dX12_court_90 : decode cX12_court 90 = .ok (.putfield 113, 3) := by decide +kernel
theorem dX12_court_93 : decode cX12_court 93 = .ok (.iload 4, 2) := by decide +kernel
theorem dX12_court_95 : decode cX12_court 95 = .ok (.ifCond .ne 66, 3) := by decide +kernel
theorem dX12_court_98 : decode cX12_court 98 = .ok (.aload_n 0, 1) := by decide +kernel
theorem dX12_court_99 : decode cX12_court 99 = .ok (.getfield 113, 3) := by decide +kernel
theorem dX12_court_102 : decode cX12_court 102 = .ok (.aload_n 0, 1) := by decide +kernel
theorem dX12_court_103 : decode cX12_court 103 = .ok (.getfield 117, 3) := by decide +kernel
theorem dX12_court_106 : decode cX12_court 106 = .ok (.if_icmp .ge 55, 3) := by decide +kernel
theorem dX12_court_109 : decode cX12_court 109 = .ok (.aload_n 0, 1) := by decide +kernel
theorem dX12_court_110 : decode cX12_court 110 = .ok (.getfield 113, 3) := by decide +kernel
theorem dX12_court_113 : decode cX12_court 113 = .ok (.istore 5, 2) := by decide +kernel
theorem dX12_court_115 : decode cX12_court 115 = .ok (.aload_n 0, 1) := by decide +kernel
theorem dX12_court_116 : decode cX12_court 116 = .ok (.invokevirtual 123, 3) := by decide +kernel
theorem dX12_court_119 : decode cX12_court 119 = .ok (.istore 6, 2) := by decide +kernel
theorem dX12_court_121 : decode cX12_court 121 = .ok (.aload_n 0, 1) := by decide +kernel
theorem dX12_court_122 : decode cX12_court 122 = .ok (.invokevirtual 155, 3) := by decide +kernel
theorem dX12_court_125 : decode cX12_court 125 = .ok (.istore 7, 2) := by decide +kernel
theorem dX12_court_127 : decode cX12_court 127 = .ok (.aload_n 0, 1) := by decide +kernel
theorem dX12_court_128 : decode cX12_court 128 = .ok (.iload 6, 2) := by decide +kernel
theorem dX12_court_130 : decode cX12_court 130 = .ok (.invokevirtual 162, 3) := by decide +kernel
theorem dX12_court_133 : decode cX12_court 133 = .ok (.ifCond .eq 6, 3) := by decide +kernel
theorem dX12_court_136 : decode cX12_court 136 = .ok (.goto (-43), 3) := by decide +kernel
theorem dX12_court_139 : decode cX12_court 139 = .ok (.sipush (-2000), 3) := by decide +kernel
theorem dX12_court_142 : decode cX12_court 142 = .ok (.iload 5, 2) := by decide +kernel
theorem dX12_court_144 : decode cX12_court 144 = .ok (.isub, 1) := by decide +kernel
theorem dX12_court_145 : decode cX12_court 145 = .ok (.istore 4, 2) := by decide +kernel
theorem dX12_court_147 : decode cX12_court 147 = .ok (.aload_n 0, 1) := by decide +kernel
theorem dX12_court_148 : decode cX12_court 148 = .ok (.getfield 19, 3) := by decide +kernel
theorem dX12_court_151 : decode cX12_court 151 = .ok (.aload_n 0, 1) := by decide +kernel
theorem dX12_court_152 : decode cX12_court 152 = .ok (.getfield 9, 3) := by decide +kernel
theorem dX12_court_155 : decode cX12_court 155 = .ok (.invokestatic 158, 3) := by decide +kernel
theorem dX12_court_158 : decode cX12_court 158 = .ok (.goto (-65), 3) := by decide +kernel
theorem dX12_court_161 : decode cX12_court 161 = .ok (.iload 4, 2) := by decide +kernel
theorem dX12_court_163 : decode cX12_court 163 = .ok (.ifCond .ne 7, 3) := by decide +kernel
theorem dX12_court_166 : decode cX12_court 166 = .ok (.iload_n 3, 1) := by decide +kernel
theorem dX12_court_167 : decode cX12_court 167 = .ok (.goto 5, 3) := by decide +kernel
theorem dX12_court_170 : decode cX12_court 170 = .ok (.iload 4, 2) := by decide +kernel
theorem dX12_court_172 : decode cX12_court 172 = .ok (.ireturn, 1) := by decide +kernel
theorem dX12_stroke_0 : decode cX12_stroke 0 = .ok (.aload_n 0, 1) := by decide +kernel
theorem dX12_stroke_1 : decode cX12_stroke 1 = .ok (.iload_n 1, 1) := by decide +kernel
theorem dX12_stroke_2 : decode cX12_stroke 2 = .ok (.invokevirtual 142, 3) := by decide +kernel
theorem dX12_stroke_5 : decode cX12_stroke 5 = .ok (.ifCond .eq 12, 3) := by decide +kernel
theorem dX12_stroke_8 : decode cX12_stroke 8 = .ok (.iload_n 2, 1) := by decide +kernel
theorem dX12_stroke_9 : decode cX12_stroke 9 = .ok (.iconst 0, 1) := by decide +kernel
theorem dX12_stroke_10 : decode cX12_stroke 10 = .ok (.iconst 4, 1) := by decide +kernel
theorem dX12_stroke_11 : decode cX12_stroke 11 = .ok (.invokestatic 53, 3) := by decide +kernel
theorem dX12_stroke_14 : decode cX12_stroke 14 = .ok (.ifCond .ne 5, 3) := by decide +kernel
theorem dX12_stroke_17 : decode cX12_stroke 17 = .ok (.iconst (-1), 1) := by decide +kernel
theorem dX12_stroke_18 : decode cX12_stroke 18 = .ok (.ireturn, 1) := by decide +kernel
theorem dX12_stroke_19 : decode cX12_stroke 19 = .ok (.aload_n 0, 1) := by decide +kernel
theorem dX12_stroke_20 : decode cX12_stroke 20 = .ok (.getfield 9, 3) := by decide +kernel
theorem dX12_stroke_23 : decode cX12_stroke 23 = .ok (.iload_n 1, 1) := by decide +kernel
theorem dX12_stroke_24 : decode cX12_stroke 24 = .ok (.iconst 0, 1) := by decide +kernel
theorem dX12_stroke_25 : decode cX12_stroke 25 = .ok (.invokestatic 60, 3) := by decide +kernel
theorem dX12_stroke_28 : decode cX12_stroke 28 = .ok (.iaload, 1) := by decide +kernel
theorem dX12_stroke_29 : decode cX12_stroke 29 = .ok (.istore_n 3, 1) := by decide +kernel
theorem dX12_stroke_30 : decode cX12_stroke 30 = .ok (.aload_n 0, 1) := by decide +kernel
theorem dX12_stroke_31 : decode cX12_stroke 31 = .ok (.getfield 9, 3) := by decide +kernel
theorem dX12_stroke_34 : decode cX12_stroke 34 = .ok (.iload_n 1, 1) := by decide +kernel
theorem dX12_stroke_35 : decode cX12_stroke 35 = .ok (.iconst 1, 1) := by decide +kernel
theorem dX12_stroke_36 : decode cX12_stroke 36 = .ok (.invokestatic 60, 3) := by decide +kernel
theorem dX12_stroke_39 : decode cX12_stroke 39 = .ok (.iaload, 1) := by decide +kernel
theorem dX12_stroke_40 : decode cX12_stroke 40 = .ok (.istore 4, 2) := by decide +kernel
theorem dX12_stroke_42 : decode cX12_stroke 42 = .ok (.iload_n 2, 1) := by decide +kernel
theorem dX12_stroke_43 : decode cX12_stroke 43 = .ok (.ifCond .ne 7, 3) := by decide +kernel
theorem dX12_stroke_46 : decode cX12_stroke 46 = .ok (.iload_n 3, 1) := by decide +kernel
theorem dX12_stroke_47 : decode cX12_stroke 47 = .ok (.goto 44, 3) := by decide +kernel
theorem dX12_stroke_50 : decode cX12_stroke 50 = .ok (.iload_n 2, 1) := by decide +kernel
theorem dX12_stroke_51 : decode cX12_stroke 51 = .ok (.iconst 1, 1) := by decide +kernel
theorem dX12_stroke_52 : decode cX12_stroke 52 = .ok (.if_icmp .ne 8, 3) := by decide +kernel
theorem dX12_stroke_55 : decode cX12_stroke 55 = .ok (.iload 4, 2) := by decide +kernel
theorem dX12_stroke_57 : decode cX12_stroke 57 = .ok (.goto 34, 3) := by decide +kernel
theorem dX12_stroke_60 : decode cX12_stroke 60 = .ok (.iload_n 2, 1) := by decide +kernel
theorem dX12_stroke_61 : decode cX12_stroke 61 = .ok (.iconst 2, 1) := by decide +kernel
theorem dX12_stroke_62 : decode cX12_stroke 62 = .ok (.if_icmp .ne 12, 3) := by decide +kernel
theorem dX12_stroke_65 : decode cX12_stroke 65 = .ok (.iload_n 3, 1) := by decide +kernel
theorem dX12_stroke_66 : decode cX12_stroke 66 = .ok (.iload 4, 2) := by decide +kernel
theorem dX12_stroke_68 : decode cX12_stroke 68 = .ok (.invokestatic 87, 3) := by decide +kernel
theorem dX12_stroke_71 : decode cX12_stroke 71 = .ok (.goto 20, 3) := by decide +kernel
theorem dX12_stroke_74 : decode cX12_stroke 74 = .ok (.iload_n 3, 1) := by decide +kernel
theorem dX12_stroke_75 : decode cX12_stroke 75 = .ok (.iload 4, 2) := by decide +kernel
theorem dX12_stroke_77 : decode cX12_stroke 77 = .ok (.iload_n 2, 1) := by decide +kernel
theorem dX12_stroke_78 : decode cX12_stroke 78 = .ok (.iconst 3, 1) := by decide +kernel
theorem dX12_stroke_79 : decode cX12_stroke 79 = .ok (.if_icmp .ne 7, 3) := by decide +kernel
theorem dX12_stroke_82 : decode cX12_stroke 82 = .ok (.iconst 0, 1) := by decide +kernel
theorem dX12_stroke_83 : decode cX12_stroke 83 = .ok (.goto 5, 3) := by decide +kernel
theorem dX12_stroke_86 : decode cX12_stroke 86 = .ok (.bipush 8, 2) := by decide +kernel
theorem dX12_stroke_88 : decode cX12_stroke 88 = .ok (.invokestatic 63, 3) := by decide +kernel
theorem dX12_stroke_91 : decode cX12_stroke 91 = .ok (.ireturn, 1) := by decide +kernel
theorem dX12_player_0 : decode cX12_player 0 = .ok (.iload_n 1, 1) := by decide +kernel
theorem dX12_player_1 : decode cX12_player 1 = .ok (.invokestatic 135, 3) := by decide +kernel
theorem dX12_player_4 : decode cX12_player 4 = .ok (.ifCond .eq 12, 3) := by decide +kernel
theorem dX12_player_7 : decode cX12_player 7 = .ok (.iload_n 2, 1) := by decide +kernel
theorem dX12_player_8 : decode cX12_player 8 = .ok (.iconst 0, 1) := by decide +kernel
theorem dX12_player_9 : decode cX12_player 9 = .ok (.iconst 4, 1) := by decide +kernel
theorem dX12_player_10 : decode cX12_player 10 = .ok (.invokestatic 53, 3) := by decide +kernel
theorem dX12_player_13 : decode cX12_player 13 = .ok (.ifCond .ne 5, 3) := by decide +kernel
theorem dX12_player_16 : decode cX12_player 16 = .ok (.iconst (-1), 1) := by decide +kernel
theorem dX12_player_17 : decode cX12_player 17 = .ok (.ireturn, 1) := by decide +kernel
theorem dX12_player_18 : decode cX12_player 18 = .ok (.iload_n 2, 1) := by decide +kernel
theorem dX12_player_19 : decode cX12_player 19 = .ok (.iconst 4, 1) := by decide +kernel
theorem dX12_player_20 : decode cX12_player 20 = .ok (.if_icmp .ne 15, 3) := by decide +kernel
theorem dX12_player_23 : decode cX12_player 23 = .ok (.aload_n 0, 1) := by decide +kernel
theorem dX12_player_24 : decode cX12_player 24 = .ok (.getfield 9, 3) := by decide +kernel
theorem dX12_player_27 : decode cX12_player 27 = .ok (.iload_n 1, 1) := by decide +kernel
theorem dX12_player_28 : decode cX12_player 28 = .ok (.iconst 1, 1) := by decide +kernel
theorem dX12_player_29 : decode cX12_player 29 = .ok (.invokestatic 98, 3) := by decide +kernel
theorem dX12_player_32 : decode cX12_player 32 = .ok (.goto 13, 3) := by decide +kernel
theorem dX12_player_35 : decode cX12_player 35 = .ok (.aload_n 0, 1) := by decide +kernel
theorem dX12_player_36 : decode cX12_player 36 = .ok (.getfield 9, 3) := by decide +kernel
theorem dX12_player_39 : decode cX12_player 39 = .ok (.iload_n 1, 1) := by decide +kernel
theorem dX12_player_40 : decode cX12_player 40 = .ok (.iload_n 2, 1) := by decide +kernel
theorem dX12_player_41 : decode cX12_player 41 = .ok (.invokestatic 46, 3) := by decide +kernel
theorem dX12_player_44 : decode cX12_player 44 = .ok (.iaload, 1) := by decide +kernel
theorem dX12_player_45 : decode cX12_player 45 = .ok (.ireturn, 1) := by decide +kernel
theorem dX12_outOfPlace_0 : decode cX12_outOfPlace 0 = .ok (.aload_n 0, 1) := by decide +kernel
theorem dX12_outOfPlace_1 : decode cX12_outOfPlace 1 = .ok (.getfield 9, 3) := by decide +kernel
theorem dX12_outOfPlace_4 : decode cX12_outOfPlace 4 = .ok (.iconst 2, 1) := by decide +kernel
theorem dX12_outOfPlace_5 : decode cX12_outOfPlace 5 = .ok (.iaload, 1) := by decide +kernel
theorem dX12_outOfPlace_6 : decode cX12_outOfPlace 6 = .ok (.invokestatic 73, 3) := by decide +kernel
theorem dX12_outOfPlace_9 : decode cX12_outOfPlace 9 = .ok (.iload_n 1, 1) := by decide +kernel
theorem dX12_outOfPlace_10 : decode cX12_outOfPlace 10 = .ok (.if_icmp .ne 12, 3) := by decide +kernel
theorem dX12_outOfPlace_13 : decode cX12_outOfPlace 13 = .ok (.aload_n 0, 1) := by decide +kernel
theorem dX12_outOfPlace_14 : decode cX12_outOfPlace 14 = .ok (.getfield 9, 3) := by decide +kernel
theorem dX12_outOfPlace_17 : decode cX12_outOfPlace 17 = .ok (.iconst 2, 1) := by decide +kernel
theorem dX12_outOfPlace_18 : decode cX12_outOfPlace 18 = .ok (.iaload, 1) := by decide +kernel
theorem dX12_outOfPlace_19 : decode cX12_outOfPlace 19 = .ok (.goto 6, 3) := by decide +kernel
theorem dX12_outOfPlace_22 : decode cX12_outOfPlace 22 = .ok (.iconst 2, 1) := by decide +kernel
theorem dX12_outOfPlace_23 : decode cX12_outOfPlace 23 = .ok (.iload_n 1, 1) := by decide +kernel
theorem dX12_outOfPlace_24 : decode cX12_outOfPlace 24 = .ok (.imul, 1) := by decide +kernel
theorem dX12_outOfPlace_25 : decode cX12_outOfPlace 25 = .ok (.istore_n 2, 1) := by decide +kernel
theorem dX12_outOfPlace_26 : decode cX12_outOfPlace 26 = .ok (.aload_n 0, 1) := by decide +kernel
theorem dX12_outOfPlace_27 : decode cX12_outOfPlace 27 = .ok (.getfield 9, 3) := by decide +kernel
theorem dX12_outOfPlace_30 : decode cX12_outOfPlace 30 = .ok (.iload_n 2, 1) := by decide +kernel
theorem dX12_outOfPlace_31 : decode cX12_outOfPlace 31 = .ok (.invokestatic 104, 3) := by decide +kernel
theorem dX12_outOfPlace_34 : decode cX12_outOfPlace 34 = .ok (.iconst 0, 1) := by decide +kernel
theorem dX12_outOfPlace_35 : decode cX12_outOfPlace 35 = .ok (.invokestatic 46, 3) := by decide +kernel
theorem dX12_outOfPlace_38 : decode cX12_outOfPlace 38 = .ok (.iaload, 1) := by decide +kernel
theorem dX12_outOfPlace_39 : decode cX12_outOfPlace 39 = .ok (.aload_n 0, 1) := by decide +kernel
theorem dX12_outOfPlace_40 : decode cX12_outOfPlace 40 = .ok (.getfield 9, 3) := by decide +kernel
theorem dX12_outOfPlace_43 : decode cX12_outOfPlace 43 = .ok (.iload_n 1, 1) := by decide +kernel
theorem dX12_outOfPlace_44 : decode cX12_outOfPlace 44 = .ok (.iconst 0, 1) := by decide +kernel
theorem dX12_outOfPlace_45 : decode cX12_outOfPlace 45 = .ok (.invokestatic 50, 3) := by decide +kernel
theorem dX12_outOfPlace_48 : decode cX12_outOfPlace 48 = .ok (.iaload, 1) := by decide +kernel
theorem dX12_outOfPlace_49 : decode cX12_outOfPlace 49 = .ok (.aload_n 0, 1) := by decide +kernel
theorem dX12_outOfPlace_50 : decode cX12_outOfPlace 50 = .ok (.getfield 9, 3) := by decide +kernel
theorem dX12_outOfPlace_53 : decode cX12_outOfPlace 53 = .ok (.iload_n 2, 1) := by decide +kernel
theorem dX12_outOfPlace_54 : decode cX12_outOfPlace 54 = .ok (.iconst 0, 1) := by decide +kernel
theorem dX12_outOfPlace_55 : decode cX12_outOfPlace 55 = .ok (.invokestatic 46, 3) := by decide +kernel
theorem dX12_outOfPlace_58 : decode cX12_outOfPlace 58 = .ok (.iaload, 1) := by decide +kernel
theorem dX12_outOfPlace_59 : decode cX12_outOfPlace 59 = .ok (.invokestatic 107, 3) := by decide +kernel
theorem dX12_outOfPlace_62 : decode cX12_outOfPlace 62 = .ok (.invokestatic 70, 3) := by decide +kernel
theorem dX12_outOfPlace_65 : decode cX12_outOfPlace 65 = .ok (.ireturn, 1) := by decide +kernel
theorem dX12_side_0 : decode cX12_side 0 = .ok (.iload_n 1, 1) := by decide +kernel
theorem dX12_side_1 : decode cX12_side 1 = .ok (.iconst 0, 1) := by decide +kernel
theorem dX12_side_2 : decode cX12_side 2 = .ok (.iconst 1, 1) := by decide +kernel
theorem dX12_side_3 : decode cX12_side 3 = .ok (.invokestatic 53, 3) := by decide +kernel
theorem dX12_side_6 : decode cX12_side 6 = .ok (.ifCond .eq 12, 3) := by decide +kernel
theorem dX12_side_9 : decode cX12_side 9 = .ok (.iload_n 2, 1) := by decide +kernel
theorem dX12_side_10 : decode cX12_side 10 = .ok (.iconst 0, 1) := by decide +kernel
theorem dX12_side_11 : decode cX12_side 11 = .ok (.iconst 3, 1) := by decide +kernel
theorem dX12_side_12 : decode cX12_side 12 = .ok (.invokestatic 53, 3) := by decide +kernel
theorem dX12_side_15 : decode cX12_side 15 = .ok (.ifCond .ne 5, 3) := by decide +kernel
theorem dX12_side_18 : decode cX12_side 18 = .ok (.iconst (-1), 1) := by decide +kernel
theorem dX12_side_19 : decode cX12_side 19 = .ok (.ireturn, 1) := by decide +kernel
theorem dX12_side_20 : decode cX12_side 20 = .ok (.iload_n 2, 1) := by decide +kernel
theorem dX12_side_21 : decode cX12_side 21 = .ok (.iconst 3, 1) := by decide +kernel
theorem dX12_side_22 : decode cX12_side 22 = .ok (.if_icmp .ne 11, 3) := by decide +kernel
theorem dX12_side_25 : decode cX12_side 25 = .ok (.aload_n 0, 1) := by decide +kernel
theorem dX12_side_26 : decode cX12_side 26 = .ok (.iload_n 1, 1) := by decide +kernel
theorem dX12_side_27 : decode cX12_side 27 = .ok (.invokevirtual 165, 3) := by decide +kernel
theorem dX12_side_30 : decode cX12_side 30 = .ok (.goto 13, 3) := by decide +kernel
theorem dX12_side_33 : decode cX12_side 33 = .ok (.aload_n 0, 1) := by decide +kernel
theorem dX12_side_34 : decode cX12_side 34 = .ok (.getfield 9, 3) := by decide +kernel
theorem dX12_side_37 : decode cX12_side 37 = .ok (.iload_n 1, 1) := by decide +kernel
theorem dX12_side_38 : decode cX12_side 38 = .ok (.iload_n 2, 1) := by decide +kernel
theorem dX12_side_39 : decode cX12_side 39 = .ok (.invokestatic 50, 3) := by decide +kernel
theorem dX12_side_42 : decode cX12_side 42 = .ok (.iaload, 1) := by decide +kernel
theorem dX12_side_43 : decode cX12_side 43 = .ok (.ireturn, 1) := by decide +kernel
theorem dX12_learns_0 : decode cX12_learns 0 = .ok (.aload_n 0, 1) := by decide +kernel
theorem dX12_learns_1 : decode cX12_learns 1 = .ok (.iload_n 1, 1) := by decide +kernel
theorem dX12_learns_2 : decode cX12_learns 2 = .ok (.invokevirtual 168, 3) := by decide +kernel
theorem dX12_learns_5 : decode cX12_learns 5 = .ok (.istore_n 2, 1) := by decide +kernel
theorem dX12_learns_6 : decode cX12_learns 6 = .ok (.iload_n 2, 1) := by decide +kernel
theorem dX12_learns_7 : decode cX12_learns 7 = .ok (.ifCond .eq 5, 3) := by decide +kernel
theorem dX12_learns_10 : decode cX12_learns 10 = .ok (.iload_n 2, 1) := by decide +kernel
theorem dX12_learns_11 : decode cX12_learns 11 = .ok (.ireturn, 1) := by decide +kernel
theorem dX12_learns_12 : decode cX12_learns 12 = .ok (.aload_n 0, 1) := by decide +kernel
theorem dX12_learns_13 : decode cX12_learns 13 = .ok (.getfield 9, 3) := by decide +kernel
theorem dX12_learns_16 : decode cX12_learns 16 = .ok (.iconst 0, 1) := by decide +kernel
theorem dX12_learns_17 : decode cX12_learns 17 = .ok (.iaload, 1) := by decide +kernel
theorem dX12_learns_18 : decode cX12_learns 18 = .ok (.bipush 8, 2) := by decide +kernel
theorem dX12_learns_20 : decode cX12_learns 20 = .ok (.if_icmp .ne 6, 3) := by decide +kernel
theorem dX12_learns_23 : decode cX12_learns 23 = .ok (.bipush (-2), 2) := by decide +kernel
theorem dX12_learns_25 : decode cX12_learns 25 = .ok (.ireturn, 1) := by decide +kernel
theorem dX12_learns_26 : decode cX12_learns 26 = .ok (.aload_n 0, 1) := by decide +kernel
theorem dX12_learns_27 : decode cX12_learns 27 = .ok (.aload_n 0, 1) := by decide +kernel
theorem dX12_learns_28 : decode cX12_learns 28 = .ok (.getfield 31, 3) := by decide +kernel
theorem dX12_learns_31 : decode cX12_learns 31 = .ok (.iload_n 1, 1) := by decide +kernel
theorem dX12_learns_32 : decode cX12_learns 32 = .ok (.iaload, 1) := by decide +kernel
theorem dX12_learns_33 : decode cX12_learns 33 = .ok (.aload_n 0, 1) := by decide +kernel
theorem dX12_learns_34 : decode cX12_learns 34 = .ok (.getfield 34, 3) := by decide +kernel
theorem dX12_learns_37 : decode cX12_learns 37 = .ok (.iload_n 1, 1) := by decide +kernel
theorem dX12_learns_38 : decode cX12_learns 38 = .ok (.iaload, 1) := by decide +kernel
theorem dX12_learns_39 : decode cX12_learns 39 = .ok (.invokevirtual 131, 3) := by decide +kernel
theorem dX12_learns_42 : decode cX12_learns 42 = .ok (.aload_n 0, 1) := by decide +kernel
theorem dX12_learns_43 : decode cX12_learns 43 = .ok (.getfield 9, 3) := by decide +kernel
theorem dX12_learns_46 : decode cX12_learns 46 = .ok (.iconst 0, 1) := by decide +kernel
theorem dX12_learns_47 : decode cX12_learns 47 = .ok (.iaload, 1) := by decide +kernel
theorem dX12_learns_48 : decode cX12_learns 48 = .ok (.iconst 1, 1) := by decide +kernel
theorem dX12_learns_49 : decode cX12_learns 49 = .ok (.isub, 1) := by decide +kernel
theorem dX12_learns_50 : decode cX12_learns 50 = .ok (.ireturn, 1) := by decide +kernel
theorem dX12_stands_0 : decode cX12_stands 0 = .ok (.iload_n 1, 1) := by decide +kernel
theorem dX12_stands_1 : decode cX12_stands 1 = .ok (.invokestatic 135, 3) := by decide +kernel
theorem dX12_stands_4 : decode cX12_stands 4 = .ok (.ifCond .eq 19, 3) := by decide +kernel
theorem dX12_stands_7 : decode cX12_stands 7 = .ok (.iload_n 2, 1) := by decide +kernel
theorem dX12_stands_8 : decode cX12_stands 8 = .ok (.invokestatic 139, 3) := by decide +kernel
theorem dX12_stands_11 : decode cX12_stands 11 = .ok (.ifCond .eq 12, 3) := by decide +kernel
theorem dX12_stands_14 : decode cX12_stands 14 = .ok (.iload_n 3, 1) := by decide +kernel
theorem dX12_stands_15 : decode cX12_stands 15 = .ok (.iconst 1, 1) := by decide +kernel
theorem dX12_stands_16 : decode cX12_stands 16 = .ok (.iconst 4, 1) := by decide +kernel
theorem dX12_stands_17 : decode cX12_stands 17 = .ok (.invokestatic 53, 3) := by decide +kernel
theorem dX12_stands_20 : decode cX12_stands 20 = .ok (.ifCond .ne 5, 3) := by decide +kernel
theorem dX12_stands_23 : decode cX12_stands 23 = .ok (.iconst (-1), 1) := by decide +kernel
theorem dX12_stands_24 : decode cX12_stands 24 = .ok (.ireturn, 1) := by decide +kernel
theorem dX12_stands_25 : decode cX12_stands 25 = .ok (.aload_n 0, 1) := by decide +kernel
theorem dX12_stands_26 : decode cX12_stands 26 = .ok (.getfield 9, 3) := by decide +kernel
theorem dX12_stands_29 : decode cX12_stands 29 = .ok (.iload_n 1, 1) := by decide +kernel
theorem dX12_stands_30 : decode cX12_stands 30 = .ok (.iconst 0, 1) := by decide +kernel
theorem dX12_stands_31 : decode cX12_stands 31 = .ok (.invokestatic 46, 3) := by decide +kernel
theorem dX12_stands_34 : decode cX12_stands 34 = .ok (.iaload, 1) := by decide +kernel
theorem dX12_stands_35 : decode cX12_stands 35 = .ok (.istore 4, 2) := by decide +kernel
theorem dX12_stands_37 : decode cX12_stands 37 = .ok (.aload_n 0, 1) := by decide +kernel
theorem dX12_stands_38 : decode cX12_stands 38 = .ok (.getfield 9, 3) := by decide +kernel
theorem dX12_stands_41 : decode cX12_stands 41 = .ok (.iload_n 1, 1) := by decide +kernel
theorem dX12_stands_42 : decode cX12_stands 42 = .ok (.iconst 0, 1) := by decide +kernel
theorem dX12_stands_43 : decode cX12_stands 43 = .ok (.invokestatic 46, 3) := by decide +kernel
theorem dX12_stands_46 : decode cX12_stands 46 = .ok (.iload_n 2, 1) := by decide +kernel
theorem dX12_stands_47 : decode cX12_stands 47 = .ok (.iastore, 1) := by decide +kernel
theorem dX12_stands_48 : decode cX12_stands 48 = .ok (.aload_n 0, 1) := by decide +kernel
theorem dX12_stands_49 : decode cX12_stands 49 = .ok (.getfield 9, 3) := by decide +kernel
theorem dX12_stands_52 : decode cX12_stands 52 = .ok (.iload_n 1, 1) := by decide +kernel
theorem dX12_stands_53 : decode cX12_stands 53 = .ok (.iconst 1, 1) := by decide +kernel
theorem dX12_stands_54 : decode cX12_stands 54 = .ok (.invokestatic 46, 3) := by decide +kernel
theorem dX12_stands_57 : decode cX12_stands 57 = .ok (.iload_n 3, 1) := by decide +kernel
theorem dX12_stands_58 : decode cX12_stands 58 = .ok (.iastore, 1) := by decide +kernel
theorem dX12_stands_59 : decode cX12_stands 59 = .ok (.iload 4, 2) := by decide +kernel
theorem dX12_stands_61 : decode cX12_stands 61 = .ok (.ireturn, 1) := by decide +kernel
theorem dX12_tires_0 : decode cX12_tires 0 = .ok (.iload_n 1, 1) := by decide +kernel
theorem dX12_tires_1 : decode cX12_tires 1 = .ok (.invokestatic 135, 3) := by decide +kernel
theorem dX12_tires_4 : decode cX12_tires 4 = .ok (.ifCond .eq 13, 3) := by decide +kernel
theorem dX12_tires_7 : decode cX12_tires 7 = .ok (.iload_n 2, 1) := by decide +kernel
theorem dX12_tires_8 : decode cX12_tires 8 = .ok (.iconst 0, 1) := by decide +kernel
theorem dX12_tires_9 : decode cX12_tires 9 = .ok (.bipush 99, 2) := by decide +kernel
theorem dX12_tires_11 : decode cX12_tires 11 = .ok (.invokestatic 53, 3) := by decide +kernel
theorem dX12_tires_14 : decode cX12_tires 14 = .ok (.ifCond .ne 5, 3) := by decide +kernel
theorem dX12_tires_17 : decode cX12_tires 17 = .ok (.iconst (-1), 1) := by decide +kernel
theorem dX12_tires_18 : decode cX12_tires 18 = .ok (.ireturn, 1) := by decide +kernel
theorem dX12_tires_19 : decode cX12_tires 19 = .ok (.aload_n 0, 1) := by decide +kernel
theorem dX12_tires_20 : decode cX12_tires 20 = .ok (.getfield 9, 3) := by decide +kernel
theorem dX12_tires_23 : decode cX12_tires 23 = .ok (.iload_n 1, 1) := by decide +kernel
theorem dX12_tires_24 : decode cX12_tires 24 = .ok (.iconst 2, 1) := by decide +kernel
theorem dX12_tires_25 : decode cX12_tires 25 = .ok (.invokestatic 46, 3) := by decide +kernel
theorem dX12_tires_28 : decode cX12_tires 28 = .ok (.iaload, 1) := by decide +kernel
theorem dX12_tires_29 : decode cX12_tires 29 = .ok (.istore_n 3, 1) := by decide +kernel
theorem dX12_tires_30 : decode cX12_tires 30 = .ok (.aload_n 0, 1) := by decide +kernel
theorem dX12_tires_31 : decode cX12_tires 31 = .ok (.getfield 9, 3) := by decide +kernel
theorem dX12_tires_34 : decode cX12_tires 34 = .ok (.iload_n 1, 1) := by decide +kernel
theorem dX12_tires_35 : decode cX12_tires 35 = .ok (.iconst 2, 1) := by decide +kernel
theorem dX12_tires_36 : decode cX12_tires 36 = .ok (.invokestatic 46, 3) := by decide +kernel
theorem dX12_tires_39 : decode cX12_tires 39 = .ok (.iload_n 2, 1) := by decide +kernel
theorem dX12_tires_40 : decode cX12_tires 40 = .ok (.iastore, 1) := by decide +kernel
theorem dX12_tires_41 : decode cX12_tires 41 = .ok (.iload_n 3, 1) := by decide +kernel
theorem dX12_tires_42 : decode cX12_tires 42 = .ok (.ireturn, 1) := by decide +kernel
theorem dX12_hands_0 : decode cX12_hands 0 = .ok (.iload_n 1, 1) := by decide +kernel
theorem dX12_hands_1 : decode cX12_hands 1 = .ok (.invokestatic 135, 3) := by decide +kernel
theorem dX12_hands_4 : decode cX12_hands 4 = .ok (.ifCond .ne 5, 3) := by decide +kernel
theorem dX12_hands_7 : decode cX12_hands 7 = .ok (.iconst (-1), 1) := by decide +kernel
theorem dX12_hands_8 : decode cX12_hands 8 = .ok (.ireturn, 1) := by decide +kernel
theorem dX12_hands_9 : decode cX12_hands 9 = .ok (.aload_n 0, 1) := by decide +kernel
theorem dX12_hands_10 : decode cX12_hands 10 = .ok (.getfield 9, 3) := by decide +kernel
theorem dX12_hands_13 : decode cX12_hands 13 = .ok (.iload_n 1, 1) := by decide +kernel
theorem dX12_hands_14 : decode cX12_hands 14 = .ok (.iconst 3, 1) := by decide +kernel
theorem dX12_hands_15 : decode cX12_hands 15 = .ok (.invokestatic 46, 3) := by decide +kernel
theorem dX12_hands_18 : decode cX12_hands 18 = .ok (.dup2, 1) := by decide +kernel
theorem dX12_hands_19 : decode cX12_hands 19 = .ok (.iaload, 1) := by decide +kernel
theorem dX12_hands_20 : decode cX12_hands 20 = .ok (.iconst 1, 1) := by decide +kernel
theorem dX12_hands_21 : decode cX12_hands 21 = .ok (.ixor, 1) := by decide +kernel
theorem dX12_hands_22 : decode cX12_hands 22 = .ok (.iastore, 1) := by decide +kernel
theorem dX12_hands_23 : decode cX12_hands 23 = .ok (.aload_n 0, 1) := by decide +kernel
theorem dX12_hands_24 : decode cX12_hands 24 = .ok (.getfield 9, 3) := by decide +kernel
theorem dX12_hands_27 : decode cX12_hands 27 = .ok (.iload_n 1, 1) := by decide +kernel
theorem dX12_hands_28 : decode cX12_hands 28 = .ok (.iconst 3, 1) := by decide +kernel
theorem dX12_hands_29 : decode cX12_hands 29 = .ok (.invokestatic 46, 3) := by decide +kernel
theorem dX12_hands_32 : decode cX12_hands 32 = .ok (.iaload, 1) := by decide +kernel
theorem dX12_hands_33 : decode cX12_hands 33 = .ok (.ireturn, 1) := by decide +kernel
theorem dX12_forms_0 : decode cX12_forms 0 = .ok (.iload_n 1, 1) := by decide +kernel
theorem dX12_forms_1 : decode cX12_forms 1 = .ok (.iconst 0, 1) := by decide +kernel
theorem dX12_forms_2 : decode cX12_forms 2 = .ok (.iconst 1, 1) := by decide +kernel
theorem dX12_forms_3 : decode cX12_forms 3 = .ok (.invokestatic 53, 3) := by decide +kernel
theorem dX12_forms_6 : decode cX12_forms 6 = .ok (.ifCond .eq 29, 3) := by decide +kernel
theorem dX12_forms_9 : decode cX12_forms 9 = .ok (.iload_n 2, 1) := by decide +kernel
theorem dX12_forms_10 : decode cX12_forms 10 = .ok (.iconst 0, 1) := by decide +kernel
theorem dX12_forms_11 : decode cX12_forms 11 = .ok (.iconst 1, 1) := by decide +kernel
theorem dX12_forms_12 : decode cX12_forms 12 = .ok (.invokestatic 53, 3) := by decide +kernel
theorem dX12_forms_15 : decode cX12_forms 15 = .ok (.ifCond .eq 20, 3) := by decide +kernel
theorem dX12_forms_18 : decode cX12_forms 18 = .ok (.iload_n 3, 1) := by decide +kernel
theorem dX12_forms_19 : decode cX12_forms 19 = .ok (.iconst 0, 1) := by decide +kernel
theorem dX12_forms_20 : decode cX12_forms 20 = .ok (.iload_n 2, 1) := by decide +kernel
theorem dX12_forms_21 : decode cX12_forms 21 = .ok (.ifCond .ne 7, 3) := by decide +kernel
theorem dX12_forms_24 : decode cX12_forms 24 = .ok (.iconst 1, 1) := by decide +kernel
theorem dX12_forms_25 : decode cX12_forms 25 = .ok (.goto 4, 3) := by decide +kernel
theorem dX12_forms_28 : decode cX12_forms 28 = .ok (.iconst 3, 1) := by decide +kernel
theorem dX12_forms_29 : decode cX12_forms 29 = .ok (.invokestatic 53, 3) := by decide +kernel
theorem dX12_forms_32 : decode cX12_forms 32 = .ok (.ifCond .ne 5, 3) := by decide +kernel
theorem dX12_forms_35 : decode cX12_forms 35 = .ok (.iconst (-1), 1) := by decide +kernel
theorem dX12_forms_36 : decode cX12_forms 36 = .ok (.ireturn, 1) := by decide +kernel
theorem dX12_forms_37 : decode cX12_forms 37 = .ok (.aload_n 0, 1) := by decide +kernel
theorem dX12_forms_38 : decode cX12_forms 38 = .ok (.getfield 9, 3) := by decide +kernel
theorem dX12_forms_41 : decode cX12_forms 41 = .ok (.iload_n 1, 1) := by decide +kernel
theorem dX12_forms_42 : decode cX12_forms 42 = .ok (.iload_n 2, 1) := by decide +kernel
theorem dX12_forms_43 : decode cX12_forms 43 = .ok (.invokestatic 50, 3) := by decide +kernel
theorem dX12_forms_46 : decode cX12_forms 46 = .ok (.iaload, 1) := by decide +kernel
theorem dX12_forms_47 : decode cX12_forms 47 = .ok (.istore 4, 2) := by decide +kernel
theorem dX12_forms_49 : decode cX12_forms 49 = .ok (.aload_n 0, 1) := by decide +kernel
theorem dX12_forms_50 : decode cX12_forms 50 = .ok (.getfield 9, 3) := by decide +kernel
theorem dX12_forms_53 : decode cX12_forms 53 = .ok (.iload_n 1, 1) := by decide +kernel
theorem dX12_forms_54 : decode cX12_forms 54 = .ok (.iload_n 2, 1) := by decide +kernel
theorem dX12_forms_55 : decode cX12_forms 55 = .ok (.invokestatic 50, 3) := by decide +kernel
theorem dX12_forms_58 : decode cX12_forms 58 = .ok (.iload_n 3, 1) := by decide +kernel
theorem dX12_forms_59 : decode cX12_forms 59 = .ok (.iastore, 1) := by decide +kernel
theorem dX12_forms_60 : decode cX12_forms 60 = .ok (.iload 4, 2) := by decide +kernel
theorem dX12_forms_62 : decode cX12_forms 62 = .ok (.ireturn, 1) := by decide +kernel
theorem dX12_blows_0 : decode cX12_blows 0 = .ok (.iload_n 1, 1) := by decide +kernel
theorem dX12_blows_1 : decode cX12_blows 1 = .ok (.iconst 0, 1) := by decide +kernel
theorem dX12_blows_2 : decode cX12_blows 2 = .ok (.iconst 2, 1) := by decide +kernel
theorem dX12_blows_3 : decode cX12_blows 3 = .ok (.invokestatic 53, 3) := by decide +kernel
theorem dX12_blows_6 : decode cX12_blows 6 = .ok (.ifCond .ne 5, 3) := by decide +kernel
theorem dX12_blows_9 : decode cX12_blows 9 = .ok (.iconst (-1), 1) := by decide +kernel
theorem dX12_blows_10 : decode cX12_blows 10 = .ok (.ireturn, 1) := by decide +kernel
theorem dX12_blows_11 : decode cX12_blows 11 = .ok (.aload_n 0, 1) := by decide +kernel
theorem dX12_blows_12 : decode cX12_blows 12 = .ok (.getfield 9, 3) := by decide +kernel
theorem dX12_blows_15 : decode cX12_blows 15 = .ok (.iconst 3, 1) := by decide +kernel
theorem dX12_blows_16 : decode cX12_blows 16 = .ok (.iaload, 1) := by decide +kernel
theorem dX12_blows_17 : decode cX12_blows 17 = .ok (.iconst 1, 1) := by decide +kernel
theorem dX12_blows_18 : decode cX12_blows 18 = .ok (.iadd, 1) := by decide +kernel
theorem dX12_blows_19 : decode cX12_blows 19 = .ok (.istore_n 2, 1) := by decide +kernel
theorem dX12_blows_20 : decode cX12_blows 20 = .ok (.aload_n 0, 1) := by decide +kernel
theorem dX12_blows_21 : decode cX12_blows 21 = .ok (.getfield 9, 3) := by decide +kernel
theorem dX12_blows_24 : decode cX12_blows 24 = .ok (.iconst 3, 1) := by decide +kernel
theorem dX12_blows_25 : decode cX12_blows 25 = .ok (.iload_n 1, 1) := by decide +kernel
theorem dX12_blows_26 : decode cX12_blows 26 = .ok (.iconst 1, 1) := by decide +kernel
theorem dX12_blows_27 : decode cX12_blows 27 = .ok (.isub, 1) := by decide +kernel
theorem dX12_blows_28 : decode cX12_blows 28 = .ok (.iastore, 1) := by decide +kernel
theorem dX12_blows_29 : decode cX12_blows 29 = .ok (.iload_n 2, 1) := by decide +kernel
theorem dX12_blows_30 : decode cX12_blows 30 = .ok (.ireturn, 1) := by decide +kernel
theorem dX12_hit_0 : decode cX12_hit 0 = .ok (.aload_n 0, 1) := by decide +kernel
theorem dX12_hit_1 : decode cX12_hit 1 = .ok (.iload_n 1, 1) := by decide +kernel
theorem dX12_hit_2 : decode cX12_hit 2 = .ok (.invokevirtual 142, 3) := by decide +kernel
theorem dX12_hit_5 : decode cX12_hit 5 = .ok (.ifCond .eq 10, 3) := by decide +kernel
theorem dX12_hit_8 : decode cX12_hit 8 = .ok (.iload_n 2, 1) := by decide +kernel
theorem dX12_hit_9 : decode cX12_hit 9 = .ok (.invokestatic 139, 3) := by decide +kernel
theorem dX12_hit_12 : decode cX12_hit 12 = .ok (.ifCond .ne 5, 3) := by decide +kernel
theorem dX12_hit_15 : decode cX12_hit 15 = .ok (.iconst (-1), 1) := by decide +kernel
theorem dX12_hit_16 : decode cX12_hit 16 = .ok (.ireturn, 1) := by decide +kernel
theorem dX12_hit_17 : decode cX12_hit 17 = .ok (.aload_n 0, 1) := by decide +kernel
theorem dX12_hit_18 : decode cX12_hit 18 = .ok (.invokevirtual 145, 3) := by decide +kernel
theorem dX12_hit_21 : decode cX12_hit 21 = .ok (.ifCond .eq 6, 3) := by decide +kernel
theorem dX12_hit_24 : decode cX12_hit 24 = .ok (.bipush (-3), 2) := by decide +kernel
theorem dX12_hit_26 : decode cX12_hit 26 = .ok (.ireturn, 1) := by decide +kernel
theorem dX12_hit_27 : decode cX12_hit 27 = .ok (.aload_n 0, 1) := by decide +kernel
theorem dX12_hit_28 : decode cX12_hit 28 = .ok (.aload_n 0, 1) := by decide +kernel
theorem dX12_hit_29 : decode cX12_hit 29 = .ok (.getfield 9, 3) := by decide +kernel
theorem dX12_hit_32 : decode cX12_hit 32 = .ok (.iload_n 1, 1) := by decide +kernel
theorem dX12_hit_33 : decode cX12_hit 33 = .ok (.iload_n 2, 1) := by decide +kernel
theorem dX12_hit_34 : decode cX12_hit 34 = .ok (.invokevirtual 149, 3) := by decide +kernel
theorem dX12_hit_37 : decode cX12_hit 37 = .ok (.istore_n 3, 1) := by decide +kernel
theorem dX12_hit_38 : decode cX12_hit 38 = .ok (.aload_n 0, 1) := by decide +kernel
theorem dX12_hit_39 : decode cX12_hit 39 = .ok (.getfield 9, 3) := by decide +kernel
theorem dX12_hit_42 : decode cX12_hit 42 = .ok (.iconst 2, 1) := by decide +kernel
theorem dX12_hit_43 : decode cX12_hit 43 = .ok (.iaload, 1) := by decide +kernel
theorem dX12_hit_44 : decode cX12_hit 44 = .ok (.ireturn, 1) := by decide +kernel
theorem dX12_otherSide_0 : decode cX12_otherSide 0 = .ok (.iconst 1, 1) := by decide +kernel
theorem dX12_otherSide_1 : decode cX12_otherSide 1 = .ok (.aload_n 0, 1) := by decide +kernel
theorem dX12_otherSide_2 : decode cX12_otherSide 2 = .ok (.getfield 9, 3) := by decide +kernel
theorem dX12_otherSide_5 : decode cX12_otherSide 5 = .ok (.iconst 2, 1) := by decide +kernel
theorem dX12_otherSide_6 : decode cX12_otherSide 6 = .ok (.iaload, 1) := by decide +kernel
theorem dX12_otherSide_7 : decode cX12_otherSide 7 = .ok (.invokestatic 73, 3) := by decide +kernel
theorem dX12_otherSide_10 : decode cX12_otherSide 10 = .ok (.isub, 1) := by decide +kernel
theorem dX12_otherSide_11 : decode cX12_otherSide 11 = .ok (.ireturn, 1) := by decide +kernel
theorem dX12_whoseNow_0 : decode cX12_whoseNow 0 = .ok (.aload_n 0, 1) := by decide +kernel
theorem dX12_whoseNow_1 : decode cX12_whoseNow 1 = .ok (.getfield 9, 3) := by decide +kernel
theorem dX12_whoseNow_4 : decode cX12_whoseNow 4 = .ok (.aload_n 0, 1) := by decide +kernel
theorem dX12_whoseNow_5 : decode cX12_whoseNow 5 = .ok (.invokevirtual 171, 3) := by decide +kernel
theorem dX12_whoseNow_8 : decode cX12_whoseNow 8 = .ok (.aload_n 0, 1) := by decide +kernel
theorem dX12_whoseNow_9 : decode cX12_whoseNow 9 = .ok (.getfield 9, 3) := by decide +kernel
theorem dX12_whoseNow_12 : decode cX12_whoseNow 12 = .ok (.iload_n 1, 1) := by decide +kernel
theorem dX12_whoseNow_13 : decode cX12_whoseNow 13 = .ok (.iload_n 2, 1) := by decide +kernel
theorem dX12_whoseNow_14 : decode cX12_whoseNow 14 = .ok (.invokestatic 77, 3) := by decide +kernel
theorem dX12_whoseNow_17 : decode cX12_whoseNow 17 = .ok (.invokestatic 84, 3) := by decide +kernel
theorem dX12_whoseNow_20 : decode cX12_whoseNow 20 = .ok (.ireturn, 1) := by decide +kernel
theorem dX12_isWon_0 : decode cX12_isWon 0 = .ok (.aload_n 0, 1) := by decide +kernel
theorem dX12_isWon_1 : decode cX12_isWon 1 = .ok (.getfield 9, 3) := by decide +kernel
theorem dX12_isWon_4 : decode cX12_isWon 4 = .ok (.aload_n 0, 1) := by decide +kernel
theorem dX12_isWon_5 : decode cX12_isWon 5 = .ok (.getfield 13, 3) := by decide +kernel
theorem dX12_isWon_8 : decode cX12_isWon 8 = .ok (.invokestatic 158, 3) := by decide +kernel
theorem dX12_isWon_11 : decode cX12_isWon 11 = .ok (.aload_n 0, 1) := by decide +kernel
theorem dX12_isWon_12 : decode cX12_isWon 12 = .ok (.aload_n 0, 1) := by decide +kernel
theorem dX12_isWon_13 : decode cX12_isWon 13 = .ok (.getfield 13, 3) := by decide +kernel
theorem dX12_isWon_16 : decode cX12_isWon 16 = .ok (.iload_n 1, 1) := by decide +kernel
theorem dX12_isWon_17 : decode cX12_isWon 17 = .ok (.iload_n 2, 1) := by decide +kernel
theorem dX12_isWon_18 : decode cX12_isWon 18 = .ok (.invokevirtual 149, 3) := by decide +kernel
theorem dX12_isWon_21 : decode cX12_isWon 21 = .ok (.ireturn, 1) := by decide +kernel
theorem dX12_isHit_0 : decode cX12_isHit 0 = .ok (.aload_n 0, 1) := by decide +kernel
theorem dX12_isHit_1 : decode cX12_isHit 1 = .ok (.iload_n 1, 1) := by decide +kernel
theorem dX12_isHit_2 : decode cX12_isHit 2 = .ok (.invokevirtual 142, 3) := by decide +kernel
theorem dX12_isHit_5 : decode cX12_isHit 5 = .ok (.ifCond .eq 14, 3) := by decide +kernel
theorem dX12_isHit_8 : decode cX12_isHit 8 = .ok (.iload_n 2, 1) := by decide +kernel
theorem dX12_isHit_9 : decode cX12_isHit 9 = .ok (.invokestatic 139, 3) := by decide +kernel
theorem dX12_isHit_12 : decode cX12_isHit 12 = .ok (.ifCond .eq 7, 3) := by decide +kernel
theorem dX12_isHit_15 : decode cX12_isHit 15 = .ok (.iconst 1, 1) := by decide +kernel
theorem dX12_isHit_16 : decode cX12_isHit 16 = .ok (.goto 4, 3) := by decide +kernel
theorem dX12_isHit_19 : decode cX12_isHit 19 = .ok (.iconst 0, 1) := by decide +kernel
theorem dX12_isHit_20 : decode cX12_isHit 20 = .ok (.ireturn, 1) := by decide +kernel
theorem dX12_whose_0 : decode cX12_whose 0 = .ok (.aload_n 0, 1) := by decide +kernel
theorem dX12_whose_1 : decode cX12_whose 1 = .ok (.iload_n 1, 1) := by decide +kernel
theorem dX12_whose_2 : decode cX12_whose 2 = .ok (.iload_n 2, 1) := by decide +kernel
theorem dX12_whose_3 : decode cX12_whose 3 = .ok (.invokevirtual 174, 3) := by decide +kernel
theorem dX12_whose_6 : decode cX12_whose 6 = .ok (.ifCond .eq 12, 3) := by decide +kernel
theorem dX12_whose_9 : decode cX12_whose 9 = .ok (.aload_n 0, 1) := by decide +kernel
theorem dX12_whose_10 : decode cX12_whose 10 = .ok (.iload_n 1, 1) := by decide +kernel
theorem dX12_whose_11 : decode cX12_whose 11 = .ok (.iload_n 2, 1) := by decide +kernel
theorem dX12_whose_12 : decode cX12_whose 12 = .ok (.invokevirtual 177, 3) := by decide +kernel
theorem dX12_whose_15 : decode cX12_whose 15 = .ok (.goto 4, 3) := by decide +kernel
theorem dX12_whose_18 : decode cX12_whose 18 = .ok (.iconst (-1), 1) := by decide +kernel
theorem dX12_whose_19 : decode cX12_whose 19 = .ok (.ireturn, 1) := by decide +kernel
theorem dX12_wins_0 : decode cX12_wins 0 = .ok (.aload_n 0, 1) := by decide +kernel
theorem dX12_wins_1 : decode cX12_wins 1 = .ok (.iload_n 1, 1) := by decide +kernel
theorem dX12_wins_2 : decode cX12_wins 2 = .ok (.iload_n 2, 1) := by decide +kernel
theorem dX12_wins_3 : decode cX12_wins 3 = .ok (.invokevirtual 174, 3) := by decide +kernel
theorem dX12_wins_6 : decode cX12_wins 6 = .ok (.ifCond .ne 7, 3) := by decide +kernel
theorem dX12_wins_9 : decode cX12_wins 9 = .ok (.iconst (-1), 1) := by decide +kernel
theorem dX12_wins_10 : decode cX12_wins 10 = .ok (.goto 17, 3) := by decide +kernel
theorem dX12_wins_13 : decode cX12_wins 13 = .ok (.aload_n 0, 1) := by decide +kernel
theorem dX12_wins_14 : decode cX12_wins 14 = .ok (.iload_n 1, 1) := by decide +kernel
theorem dX12_wins_15 : decode cX12_wins 15 = .ok (.iload_n 2, 1) := by decide +kernel
theorem dX12_wins_16 : decode cX12_wins 16 = .ok (.invokevirtual 180, 3) := by decide +kernel
theorem dX12_wins_19 : decode cX12_wins 19 = .ok (.ifCond .eq 7, 3) := by decide +kernel
theorem dX12_wins_22 : decode cX12_wins 22 = .ok (.iconst 1, 1) := by decide +kernel
theorem dX12_wins_23 : decode cX12_wins 23 = .ok (.goto 4, 3) := by decide +kernel
theorem dX12_wins_26 : decode cX12_wins 26 = .ok (.iconst 0, 1) := by decide +kernel
theorem dX12_wins_27 : decode cX12_wins 27 = .ok (.ireturn, 1) := by decide +kernel
theorem dX12_falls_0 : decode cX12_falls 0 = .ok (.aload_n 0, 1) := by decide +kernel
theorem dX12_falls_1 : decode cX12_falls 1 = .ok (.iload_n 1, 1) := by decide +kernel
theorem dX12_falls_2 : decode cX12_falls 2 = .ok (.iload_n 2, 1) := by decide +kernel
theorem dX12_falls_3 : decode cX12_falls 3 = .ok (.invokevirtual 174, 3) := by decide +kernel
theorem dX12_falls_6 : decode cX12_falls 6 = .ok (.ifCond .eq 15, 3) := by decide +kernel
theorem dX12_falls_9 : decode cX12_falls 9 = .ok (.aload_n 0, 1) := by decide +kernel
theorem dX12_falls_10 : decode cX12_falls 10 = .ok (.getfield 9, 3) := by decide +kernel
theorem dX12_falls_13 : decode cX12_falls 13 = .ok (.iload_n 1, 1) := by decide +kernel
theorem dX12_falls_14 : decode cX12_falls 14 = .ok (.iload_n 2, 1) := by decide +kernel
theorem dX12_falls_15 : decode cX12_falls 15 = .ok (.invokestatic 77, 3) := by decide +kernel
theorem dX12_falls_18 : decode cX12_falls 18 = .ok (.goto 4, 3) := by decide +kernel
theorem dX12_falls_21 : decode cX12_falls 21 = .ok (.iconst (-1), 1) := by decide +kernel
theorem dX12_falls_22 : decode cX12_falls 22 = .ok (.ireturn, 1) := by decide +kernel
theorem dX12_openTo_0 : decode cX12_openTo 0 = .ok (.iconst 0, 1) := by decide +kernel
theorem dX12_openTo_1 : decode cX12_openTo 1 = .ok (.istore_n 2, 1) := by decide +kernel
theorem dX12_openTo_2 : decode cX12_openTo 2 = .ok (.iconst 0, 1) := by decide +kernel
theorem dX12_openTo_3 : decode cX12_openTo 3 = .ok (.istore_n 3, 1) := by decide +kernel
theorem dX12_openTo_4 : decode cX12_openTo 4 = .ok (.iload_n 3, 1) := by decide +kernel
theorem dX12_openTo_5 : decode cX12_openTo 5 = .ok (.bipush 9, 2) := by decide +kernel
theorem dX12_openTo_7 : decode cX12_openTo 7 = .ok (.if_icmp .ge 28, 3) := by decide +kernel
theorem dX12_openTo_10 : decode cX12_openTo 10 = .ok (.iload_n 2, 1) := by decide +kernel
theorem dX12_openTo_11 : decode cX12_openTo 11 = .ok (.aload_n 0, 1) := by decide +kernel
theorem dX12_openTo_12 : decode cX12_openTo 12 = .ok (.iload_n 1, 1) := by decide +kernel
theorem dX12_openTo_13 : decode cX12_openTo 13 = .ok (.iload_n 3, 1) := by decide +kernel
theorem dX12_openTo_14 : decode cX12_openTo 14 = .ok (.invokevirtual 180, 3) := by decide +kernel
theorem dX12_openTo_17 : decode cX12_openTo 17 = .ok (.ifCond .eq 9, 3) := by decide +kernel
theorem dX12_openTo_20 : decode cX12_openTo 20 = .ok (.iconst 1, 1) := by decide +kernel
theorem dX12_openTo_21 : decode cX12_openTo 21 = .ok (.iload_n 3, 1) := by decide +kernel
theorem dX12_openTo_22 : decode cX12_openTo 22 = .ok (.ishl, 1) := by decide +kernel
theorem dX12_openTo_23 : decode cX12_openTo 23 = .ok (.goto 4, 3) := by decide +kernel
theorem dX12_openTo_26 : decode cX12_openTo 26 = .ok (.iconst 0, 1) := by decide +kernel
theorem dX12_openTo_27 : decode cX12_openTo 27 = .ok (.ior, 1) := by decide +kernel
theorem dX12_openTo_28 : decode cX12_openTo 28 = .ok (.istore_n 2, 1) := by decide +kernel
theorem dX12_openTo_29 : decode cX12_openTo 29 = .ok (.iinc 3 1, 3) := by decide +kernel
theorem dX12_openTo_32 : decode cX12_openTo 32 = .ok (.goto (-28), 3) := by decide +kernel
theorem dX12_openTo_35 : decode cX12_openTo 35 = .ok (.iload_n 2, 1) := by decide +kernel
theorem dX12_openTo_36 : decode cX12_openTo 36 = .ok (.ireturn, 1) := by decide +kernel
theorem dX12_open_0 : decode cX12_open 0 = .ok (.aload_n 0, 1) := by decide +kernel
theorem dX12_open_1 : decode cX12_open 1 = .ok (.iload_n 1, 1) := by decide +kernel
theorem dX12_open_2 : decode cX12_open 2 = .ok (.invokevirtual 142, 3) := by decide +kernel
theorem dX12_open_5 : decode cX12_open 5 = .ok (.ifCond .eq 11, 3) := by decide +kernel
theorem dX12_open_8 : decode cX12_open 8 = .ok (.aload_n 0, 1) := by decide +kernel
theorem dX12_open_9 : decode cX12_open 9 = .ok (.iload_n 1, 1) := by decide +kernel
theorem dX12_open_10 : decode cX12_open 10 = .ok (.invokevirtual 183, 3) := by decide +kernel
theorem dX12_open_13 : decode cX12_open 13 = .ok (.goto 4, 3) := by decide +kernel
theorem dX12_open_16 : decode cX12_open 16 = .ok (.iconst (-1), 1) := by decide +kernel
theorem dX12_open_17 : decode cX12_open 17 = .ok (.ireturn, 1) := by decide +kernel
theorem dX12_forced_0 : decode cX12_forced 0 = .ok (.iconst 0, 1) := by decide +kernel
theorem dX12_forced_1 : decode cX12_forced 1 = .ok (.istore_n 1, 1) := by decide +kernel
theorem dX12_forced_2 : decode cX12_forced 2 = .ok (.iload_n 1, 1) := by decide +kernel
theorem dX12_forced_3 : decode cX12_forced 3 = .ok (.bipush 9, 2) := by decide +kernel
theorem dX12_forced_5 : decode cX12_forced 5 = .ok (.aload_n 0, 1) := by decide +kernel
theorem dX12_forced_6 : decode cX12_forced 6 = .ok (.getfield 9, 3) := by decide +kernel
theorem dX12_forced_9 : decode cX12_forced 9 = .ok (.iconst 0, 1) := by decide +kernel
theorem dX12_forced_10 : decode cX12_forced 10 = .ok (.iaload, 1) := by decide +kernel
theorem dX12_forced_11 : decode cX12_forced 11 = .ok (.imul, 1) := by decide +kernel
theorem dX12_forced_12 : decode cX12_forced 12 = .ok (.if_icmp .ge 37, 3) := by decide +kernel
theorem dX12_forced_15 : decode cX12_forced 15 = .ok (.aload_n 0, 1) := by decide +kernel
theorem dX12_forced_16 : decode cX12_forced 16 = .ok (.iload_n 1, 1) := by decide +kernel
theorem dX12_forced_17 : decode cX12_forced 17 = .ok (.bipush 9, 2) := by decide +kernel
theorem dX12_forced_19 : decode cX12_forced 19 = .ok (.idiv, 1) := by decide +kernel
theorem dX12_forced_20 : decode cX12_forced 20 = .ok (.iload_n 1, 1) := by decide +kernel
theorem dX12_forced_21 : decode cX12_forced 21 = .ok (.bipush 9, 2) := by decide +kernel
theorem dX12_forced_23 : decode cX12_forced 23 = .ok (.irem, 1) := by decide +kernel
theorem dX12_forced_24 : decode cX12_forced 24 = .ok (.invokevirtual 180, 3) := by decide +kernel
theorem dX12_forced_27 : decode cX12_forced 27 = .ok (.ifCond .eq 16, 3) := by decide +kernel
theorem dX12_forced_30 : decode cX12_forced 30 = .ok (.bipush 10, 2) := by decide +kernel
theorem dX12_forced_32 : decode cX12_forced 32 = .ok (.iload_n 1, 1) := by decide +kernel
theorem dX12_forced_33 : decode cX12_forced 33 = .ok (.bipush 9, 2) := by decide +kernel
theorem dX12_forced_35 : decode cX12_forced 35 = .ok (.idiv, 1) := by decide +kernel
theorem dX12_forced_36 : decode cX12_forced 36 = .ok (.imul, 1) := by decide +kernel
theorem dX12_forced_37 : decode cX12_forced 37 = .ok (.iload_n 1, 1) := by decide +kernel
theorem dX12_forced_38 : decode cX12_forced 38 = .ok (.bipush 9, 2) := by decide +kernel
theorem dX12_forced_40 : decode cX12_forced 40 = .ok (.irem, 1) := by decide +kernel
theorem dX12_forced_41 : decode cX12_forced 41 = .ok (.iadd, 1) := by decide +kernel
theorem dX12_forced_42 : decode cX12_forced 42 = .ok (.ireturn, 1) := by decide +kernel
theorem dX12_forced_43 : decode cX12_forced 43 = .ok (.iinc 1 1, 3) := by decide +kernel
theorem dX12_forced_46 : decode cX12_forced 46 = .ok (.goto (-44), 3) := by decide +kernel
theorem dX12_forced_49 : decode cX12_forced 49 = .ok (.bipush (-4), 2) := by decide +kernel
theorem dX12_forced_51 : decode cX12_forced 51 = .ok (.ireturn, 1) := by decide +kernel
theorem dX12_leads_0 : decode cX12_leads 0 = .ok (.aload_n 0, 1) := by decide +kernel
theorem dX12_leads_1 : decode cX12_leads 1 = .ok (.iload_n 1, 1) := by decide +kernel
theorem dX12_leads_2 : decode cX12_leads 2 = .ok (.iload_n 2, 1) := by decide +kernel
theorem dX12_leads_3 : decode cX12_leads 3 = .ok (.invokevirtual 177, 3) := by decide +kernel
theorem dX12_leads_6 : decode cX12_leads 6 = .ok (.istore_n 3, 1) := by decide +kernel
theorem dX12_leads_7 : decode cX12_leads 7 = .ok (.iload_n 3, 1) := by decide +kernel
theorem dX12_leads_8 : decode cX12_leads 8 = .ok (.bipush 9, 2) := by decide +kernel
theorem dX12_leads_10 : decode cX12_leads 10 = .ok (.if_icmp .ne 8, 3) := by decide +kernel
theorem dX12_leads_13 : decode cX12_leads 13 = .ok (.bipush 99, 2) := by decide +kernel
theorem dX12_leads_15 : decode cX12_leads 15 = .ok (.goto 25, 3) := by decide +kernel
theorem dX12_leads_18 : decode cX12_leads 18 = .ok (.aload_n 0, 1) := by decide +kernel
theorem dX12_leads_19 : decode cX12_leads 19 = .ok (.getfield 9, 3) := by decide +kernel
theorem dX12_leads_22 : decode cX12_leads 22 = .ok (.iload_n 3, 1) := by decide +kernel
theorem dX12_leads_23 : decode cX12_leads 23 = .ok (.iconst 0, 1) := by decide +kernel
theorem dX12_leads_24 : decode cX12_leads 24 = .ok (.invokestatic 46, 3) := by decide +kernel
theorem dX12_leads_27 : decode cX12_leads 27 = .ok (.iaload, 1) := by decide +kernel
theorem dX12_leads_28 : decode cX12_leads 28 = .ok (.aload_n 0, 1) := by decide +kernel
theorem dX12_leads_29 : decode cX12_leads 29 = .ok (.getfield 9, 3) := by decide +kernel
theorem dX12_leads_32 : decode cX12_leads 32 = .ok (.iload_n 1, 1) := by decide +kernel
theorem dX12_leads_33 : decode cX12_leads 33 = .ok (.iload_n 2, 1) := by decide +kernel
theorem dX12_leads_34 : decode cX12_leads 34 = .ok (.invokestatic 77, 3) := by decide +kernel
theorem dX12_leads_37 : decode cX12_leads 37 = .ok (.invokestatic 70, 3) := by decide +kernel
theorem dX12_leads_40 : decode cX12_leads 40 = .ok (.ireturn, 1) := by decide +kernel
theorem dX12_farthest_0 : decode cX12_farthest 0 = .ok (.aload_n 0, 1) := by decide +kernel
theorem dX12_farthest_1 : decode cX12_farthest 1 = .ok (.iload_n 1, 1) := by decide +kernel
theorem dX12_farthest_2 : decode cX12_farthest 2 = .ok (.invokevirtual 142, 3) := by decide +kernel
theorem dX12_farthest_5 : decode cX12_farthest 5 = .ok (.ifCond .eq 12, 3) := by decide +kernel
theorem dX12_farthest_8 : decode cX12_farthest 8 = .ok (.iload_n 2, 1) := by decide +kernel
theorem dX12_farthest_9 : decode cX12_farthest 9 = .ok (.iconst 0, 1) := by decide +kernel
theorem dX12_farthest_10 : decode cX12_farthest 10 = .ok (.iconst 1, 1) := by decide +kernel
theorem dX12_farthest_11 : decode cX12_farthest 11 = .ok (.invokestatic 53, 3) := by decide +kernel
theorem dX12_farthest_14 : decode cX12_farthest 14 = .ok (.ifCond .ne 5, 3) := by decide +kernel
theorem dX12_farthest_17 : decode cX12_farthest 17 = .ok (.iconst (-1), 1) := by decide +kernel
theorem dX12_farthest_18 : decode cX12_farthest 18 = .ok (.ireturn, 1) := by decide +kernel
theorem dX12_farthest_19 : decode cX12_farthest 19 = .ok (.iconst 0, 1) := by decide +kernel
theorem dX12_farthest_20 : decode cX12_farthest 20 = .ok (.istore_n 3, 1) := by decide +kernel
theorem dX12_farthest_21 : decode cX12_farthest 21 = .ok (.iconst 0, 1) := by decide +kernel
theorem dX12_farthest_22 : decode cX12_farthest 22 = .ok (.istore 4, 2) := by decide +kernel
theorem dX12_farthest_24 : decode cX12_farthest 24 = .ok (.iload 4, 2) := by decide +kernel
theorem dX12_farthest_26 : decode cX12_farthest 26 = .ok (.bipush 9, 2) := by decide +kernel
theorem dX12_farthest_28 : decode cX12_farthest 28 = .ok (.if_icmp .ge 28, 3) := by decide +kernel
theorem dX12_farthest_31 : decode cX12_farthest 31 = .ok (.aload_n 0, 1) := by decide +kernel
theorem dX12_farthest_32 : decode cX12_farthest 32 = .ok (.iload_n 1, 1) := by decide +kernel
theorem dX12_farthest_33 : decode cX12_farthest 33 = .ok (.iload 4, 2) := by decide +kernel
theorem dX12_farthest_35 : decode cX12_farthest 35 = .ok (.invokevirtual 186, 3) := by decide +kernel
theorem dX12_farthest_38 : decode cX12_farthest 38 = .ok (.aload_n 0, 1) := by decide +kernel
theorem dX12_farthest_39 : decode cX12_farthest 39 = .ok (.iload_n 1, 1) := by decide +kernel
theorem dX12_farthest_40 : decode cX12_farthest 40 = .ok (.iload_n 3, 1) := by decide +kernel
theorem dX12_farthest_41 : decode cX12_farthest 41 = .ok (.invokevirtual 186, 3) := by decide +kernel
theorem dX12_farthest_44 : decode cX12_farthest 44 = .ok (.if_icmp .le 6, 3) := by decide +kernel
theorem dX12_farthest_47 : decode cX12_farthest 47 = .ok (.iload 4, 2) := by decide +kernel
theorem dX12_farthest_49 : decode cX12_farthest 49 = .ok (.istore_n 3, 1) := by decide +kernel
theorem dX12_farthest_50 : decode cX12_farthest 50 = .ok (.iinc 4 1, 3) := by decide +kernel
theorem dX12_farthest_53 : decode cX12_farthest 53 = .ok (.goto (-29), 3) := by decide +kernel
theorem dX12_farthest_56 : decode cX12_farthest 56 = .ok (.iload_n 2, 1) := by decide +kernel
theorem dX12_farthest_57 : decode cX12_farthest 57 = .ok (.ifCond .ne 7, 3) := by decide +kernel
theorem dX12_farthest_60 : decode cX12_farthest 60 = .ok (.iload_n 3, 1) := by decide +kernel
theorem dX12_farthest_61 : decode cX12_farthest 61 = .ok (.goto 9, 3) := by decide +kernel
theorem dX12_farthest_64 : decode cX12_farthest 64 = .ok (.aload_n 0, 1) := by decide +kernel
theorem dX12_farthest_65 : decode cX12_farthest 65 = .ok (.iload_n 1, 1) := by decide +kernel
theorem dX12_farthest_66 : decode cX12_farthest 66 = .ok (.iload_n 3, 1) := by decide +kernel
theorem dX12_farthest_67 : decode cX12_farthest 67 = .ok (.invokevirtual 186, 3) := by decide +kernel
theorem dX12_farthest_70 : decode cX12_farthest 70 = .ok (.ireturn, 1) := by decide +kernel
theorem dX12_atWhom_0 : decode cX12_atWhom 0 = .ok (.aload_n 0, 1) := by decide +kernel
theorem dX12_atWhom_1 : decode cX12_atWhom 1 = .ok (.iload_n 1, 1) := by decide +kernel
theorem dX12_atWhom_2 : decode cX12_atWhom 2 = .ok (.invokevirtual 142, 3) := by decide +kernel
theorem dX12_atWhom_5 : decode cX12_atWhom 5 = .ok (.ifCond .ne 5, 3) := by decide +kernel
theorem dX12_atWhom_8 : decode cX12_atWhom 8 = .ok (.iconst (-1), 1) := by decide +kernel
theorem dX12_atWhom_9 : decode cX12_atWhom 9 = .ok (.ireturn, 1) := by decide +kernel
theorem dX12_atWhom_10 : decode cX12_atWhom 10 = .ok (.bipush (-4), 2) := by decide +kernel
theorem dX12_atWhom_12 : decode cX12_atWhom 12 = .ok (.istore_n 2, 1) := by decide +kernel
theorem dX12_atWhom_13 : decode cX12_atWhom 13 = .ok (.iconst (-1), 1) := by decide +kernel
theorem dX12_atWhom_14 : decode cX12_atWhom 14 = .ok (.istore_n 3, 1) := by decide +kernel
theorem dX12_atWhom_15 : decode cX12_atWhom 15 = .ok (.iconst 0, 1) := by decide +kernel
theorem dX12_atWhom_16 : decode cX12_atWhom 16 = .ok (.istore 4, 2) := by decide +kernel
theorem dX12_atWhom_18 : decode cX12_atWhom 18 = .ok (.iload 4, 2) := by decide +kernel
theorem dX12_atWhom_20 : decode cX12_atWhom 20 = .ok (.bipush 9, 2) := by decide +kernel
theorem dX12_atWhom_22 : decode cX12_atWhom 22 = .ok (.if_icmp .ge 60, 3) := by decide +kernel
theorem dX12_atWhom_25 : decode cX12_atWhom 25 = .ok (.aload_n 0, 1) := by decide +kernel
theorem dX12_atWhom_26 : decode cX12_atWhom 26 = .ok (.iload_n 1, 1) := by decide +kernel
theorem dX12_atWhom_27 : decode cX12_atWhom 27 = .ok (.iload 4, 2) := by decide +kernel
theorem dX12_atWhom_29 : decode cX12_atWhom 29 = .ok (.invokevirtual 180, 3) := by decide +kernel
theorem dX12_atWhom_32 : decode cX12_atWhom 32 = .ok (.ifCond .ne 44, 3) := by decide +kernel
theorem dX12_atWhom_35 : decode cX12_atWhom 35 = .ok (.aload_n 0, 1) := by decide +kernel
theorem dX12_atWhom_36 : decode cX12_atWhom 36 = .ok (.getfield 13, 3) := by decide +kernel
theorem dX12_atWhom_39 : decode cX12_atWhom 39 = .ok (.aload_n 0, 1) := by decide +kernel
theorem dX12_atWhom_40 : decode cX12_atWhom 40 = .ok (.getfield 13, 3) := by decide +kernel
theorem dX12_atWhom_43 : decode cX12_atWhom 43 = .ok (.iconst 2, 1) := by decide +kernel
theorem dX12_atWhom_44 : decode cX12_atWhom 44 = .ok (.iaload, 1) := by decide +kernel
theorem dX12_atWhom_45 : decode cX12_atWhom 45 = .ok (.iconst 2, 1) := by decide +kernel
theorem dX12_atWhom_46 : decode cX12_atWhom 46 = .ok (.invokestatic 46, 3) := by decide +kernel
theorem dX12_atWhom_49 : decode cX12_atWhom 49 = .ok (.iaload, 1) := by decide +kernel
theorem dX12_atWhom_50 : decode cX12_atWhom 50 = .ok (.iload_n 3, 1) := by decide +kernel
theorem dX12_atWhom_51 : decode cX12_atWhom 51 = .ok (.if_icmp .gt 6, 3) := by decide +kernel
theorem dX12_atWhom_54 : decode cX12_atWhom 54 = .ok (.goto 22, 3) := by decide +kernel
theorem dX12_atWhom_57 : decode cX12_atWhom 57 = .ok (.iload 4, 2) := by decide +kernel
theorem dX12_atWhom_59 : decode cX12_atWhom 59 = .ok (.istore_n 2, 1) := by decide +kernel
theorem dX12_atWhom_60 : decode cX12_atWhom 60 = .ok (.aload_n 0, 1) := by decide +kernel
theorem dX12_atWhom_61 : decode cX12_atWhom 61 = .ok (.getfield 13, 3) := by decide +kernel
theorem dX12_atWhom_64 : decode cX12_atWhom 64 = .ok (.aload_n 0, 1) := by decide +kernel
theorem dX12_atWhom_65 : decode cX12_atWhom 65 = .ok (.getfield 13, 3) := by decide +kernel
theorem dX12_atWhom_68 : decode cX12_atWhom 68 = .ok (.iconst 2, 1) := by decide +kernel
theorem dX12_atWhom_69 : decode cX12_atWhom 69 = .ok (.iaload, 1) := by decide +kernel
theorem dX12_atWhom_70 : decode cX12_atWhom 70 = .ok (.iconst 2, 1) := by decide +kernel
theorem dX12_atWhom_71 : decode cX12_atWhom 71 = .ok (.invokestatic 46, 3) := by decide +kernel
theorem dX12_atWhom_74 : decode cX12_atWhom 74 = .ok (.iaload, 1) := by decide +kernel
theorem dX12_atWhom_75 : decode cX12_atWhom 75 = .ok (.istore_n 3, 1) := by decide +kernel
theorem dX12_atWhom_76 : decode cX12_atWhom 76 = .ok (.iinc 4 1, 3) := by decide +kernel
theorem dX12_atWhom_79 : decode cX12_atWhom 79 = .ok (.goto (-61), 3) := by decide +kernel
theorem dX12_atWhom_82 : decode cX12_atWhom 82 = .ok (.iload_n 2, 1) := by decide +kernel
theorem dX12_atWhom_83 : decode cX12_atWhom 83 = .ok (.ireturn, 1) := by decide +kernel
theorem dX12_isWonInThree_0 : decode cX12_isWonInThree 0 = .ok (.aload_n 0, 1) := by decide +kernel
theorem dX12_isWonInThree_1 : decode cX12_isWonInThree 1 = .ok (.iload_n 1, 1) := by decide +kernel
theorem dX12_isWonInThree_2 : decode cX12_isWonInThree 2 = .ok (.bipush 9, 2) := by decide +kernel
theorem dX12_isWonInThree_4 : decode cX12_isWonInThree 4 = .ok (.idiv, 1) := by decide +kernel
theorem dX12_isWonInThree_5 : decode cX12_isWonInThree 5 = .ok (.iload_n 1, 1) := by decide +kernel
theorem dX12_isWonInThree_6 : decode cX12_isWonInThree 6 = .ok (.bipush 9, 2) := by decide +kernel
theorem dX12_isWonInThree_8 : decode cX12_isWonInThree 8 = .ok (.irem, 1) := by decide +kernel
theorem dX12_isWonInThree_9 : decode cX12_isWonInThree 9 = .ok (.invokevirtual 180, 3) := by decide +kernel
theorem dX12_isWonInThree_12 : decode cX12_isWonInThree 12 = .ok (.ifCond .ne 16, 3) := by decide +kernel
theorem dX12_isWonInThree_15 : decode cX12_isWonInThree 15 = .ok (.aload_n 0, 1) := by decide +kernel
theorem dX12_isWonInThree_16 : decode cX12_isWonInThree 16 = .ok (.aload_n 0, 1) := by decide +kernel
theorem dX12_isWonInThree_17 : decode cX12_isWonInThree 17 = .ok (.getfield 13, 3) := by decide +kernel
theorem dX12_isWonInThree_20 : decode cX12_isWonInThree 20 = .ok (.iconst 0, 1) := by decide +kernel
theorem dX12_isWonInThree_21 : decode cX12_isWonInThree 21 = .ok (.iconst 4, 1) := by decide +kernel
theorem dX12_isWonInThree_22 : decode cX12_isWonInThree 22 = .ok (.invokevirtual 149, 3) := by decide +kernel
theorem dX12_isWonInThree_25 : decode cX12_isWonInThree 25 = .ok (.ifCond .eq 5, 3) := by decide +kernel
theorem dX12_isWonInThree_28 : decode cX12_isWonInThree 28 = .ok (.iconst 0, 1) := by decide +kernel
theorem dX12_isWonInThree_29 : decode cX12_isWonInThree 29 = .ok (.ireturn, 1) := by decide +kernel
theorem dX12_isWonInThree_30 : decode cX12_isWonInThree 30 = .ok (.aload_n 0, 1) := by decide +kernel
theorem dX12_isWonInThree_31 : decode cX12_isWonInThree 31 = .ok (.aload_n 0, 1) := by decide +kernel
theorem dX12_isWonInThree_32 : decode cX12_isWonInThree 32 = .ok (.getfield 13, 3) := by decide +kernel
theorem dX12_isWonInThree_35 : decode cX12_isWonInThree 35 = .ok (.iload_n 2, 1) := by decide +kernel
theorem dX12_isWonInThree_36 : decode cX12_isWonInThree 36 = .ok (.bipush 9, 2) := by decide +kernel
theorem dX12_isWonInThree_38 : decode cX12_isWonInThree 38 = .ok (.idiv, 1) := by decide +kernel
theorem dX12_isWonInThree_39 : decode cX12_isWonInThree 39 = .ok (.iload_n 2, 1) := by decide +kernel
theorem dX12_isWonInThree_40 : decode cX12_isWonInThree 40 = .ok (.bipush 9, 2) := by decide +kernel
theorem dX12_isWonInThree_42 : decode cX12_isWonInThree 42 = .ok (.irem, 1) := by decide +kernel
theorem dX12_isWonInThree_43 : decode cX12_isWonInThree 43 = .ok (.invokevirtual 149, 3) := by decide +kernel
theorem dX12_isWonInThree_46 : decode cX12_isWonInThree 46 = .ok (.ireturn, 1) := by decide +kernel
theorem dX12_fewest_0 : decode cX12_fewest 0 = .ok (.iload_n 1, 1) := by decide +kernel
theorem dX12_fewest_1 : decode cX12_fewest 1 = .ok (.iconst 0, 1) := by decide +kernel
theorem dX12_fewest_2 : decode cX12_fewest 2 = .ok (.iconst 1, 1) := by decide +kernel
theorem dX12_fewest_3 : decode cX12_fewest 3 = .ok (.invokestatic 53, 3) := by decide +kernel
theorem dX12_fewest_6 : decode cX12_fewest 6 = .ok (.ifCond .ne 5, 3) := by decide +kernel
theorem dX12_fewest_9 : decode cX12_fewest 9 = .ok (.iconst (-1), 1) := by decide +kernel
theorem dX12_fewest_10 : decode cX12_fewest 10 = .ok (.ireturn, 1) := by decide +kernel
theorem dX12_fewest_11 : decode cX12_fewest 11 = .ok (.aload_n 0, 1) := by decide +kernel
theorem dX12_fewest_12 : decode cX12_fewest 12 = .ok (.getfield 9, 3) := by decide +kernel
theorem dX12_fewest_15 : decode cX12_fewest 15 = .ok (.iconst 0, 1) := by decide +kernel
theorem dX12_fewest_16 : decode cX12_fewest 16 = .ok (.iaload, 1) := by decide +kernel
theorem dX12_fewest_17 : decode cX12_fewest 17 = .ok (.ifCond .ne 6, 3) := by decide +kernel
theorem dX12_fewest_20 : decode cX12_fewest 20 = .ok (.bipush (-3), 2) := by decide +kernel
theorem dX12_fewest_22 : decode cX12_fewest 22 = .ok (.ireturn, 1) := by decide +kernel
theorem dX12_fewest_23 : decode cX12_fewest 23 = .ok (.aload_n 0, 1) := by decide +kernel
theorem dX12_fewest_24 : decode cX12_fewest 24 = .ok (.invokevirtual 189, 3) := by decide +kernel
theorem dX12_fewest_27 : decode cX12_fewest 27 = .ok (.istore_n 2, 1) := by decide +kernel
theorem dX12_fewest_28 : decode cX12_fewest 28 = .ok (.iload_n 2, 1) := by decide +kernel
theorem dX12_fewest_29 : decode cX12_fewest 29 = .ok (.ifCond .lt 13, 3) := by decide +kernel
theorem dX12_fewest_32 : decode cX12_fewest 32 = .ok (.iload_n 1, 1) := by decide +kernel
theorem dX12_fewest_33 : decode cX12_fewest 33 = .ok (.ifCond .ne 7, 3) := by decide +kernel
theorem dX12_fewest_36 : decode cX12_fewest 36 = .ok (.iconst 1, 1) := by decide +kernel
theorem dX12_fewest_37 : decode cX12_fewest 37 = .ok (.goto 4, 3) := by decide +kernel
theorem dX12_fewest_40 : decode cX12_fewest 40 = .ok (.iload_n 2, 1) := by decide +kernel
theorem dX12_fewest_41 : decode cX12_fewest 41 = .ok (.ireturn, 1) := by decide +kernel
theorem dX12_fewest_42 : decode cX12_fewest 42 = .ok (.bipush 9, 2) := by decide +kernel
theorem dX12_fewest_44 : decode cX12_fewest 44 = .ok (.aload_n 0, 1) := by decide +kernel
theorem dX12_fewest_45 : decode cX12_fewest 45 = .ok (.getfield 9, 3) := by decide +kernel
theorem dX12_fewest_48 : decode cX12_fewest 48 = .ok (.iconst 0, 1) := by decide +kernel
theorem dX12_fewest_49 : decode cX12_fewest 49 = .ok (.iaload, 1) := by decide +kernel
theorem dX12_fewest_50 : decode cX12_fewest 50 = .ok (.imul, 1) := by decide +kernel
theorem dX12_fewest_51 : decode cX12_fewest 51 = .ok (.istore_n 3, 1) := by decide +kernel
theorem dX12_fewest_52 : decode cX12_fewest 52 = .ok (.iconst 0, 1) := by decide +kernel
theorem dX12_fewest_53 : decode cX12_fewest 53 = .ok (.istore 4, 2) := by decide +kernel
theorem dX12_fewest_55 : decode cX12_fewest 55 = .ok (.iload 4, 2) := by decide +kernel
theorem dX12_fewest_57 : decode cX12_fewest 57 = .ok (.iload_n 3, 1) := by decide +kernel
theorem dX12_fewest_58 : decode cX12_fewest 58 = .ok (.if_icmp .ge 58, 3) := by decide +kernel
theorem dX12_fewest_61 : decode cX12_fewest 61 = .ok (.iconst 0, 1) := by decide +kernel
theorem dX12_fewest_62 : decode cX12_fewest 62 = .ok (.istore 5, 2) := by decide +kernel
theorem dX12_fewest_64 : decode cX12_fewest 64 = .ok (.iload 5, 2) := by decide +kernel
theorem dX12_fewest_66 : decode cX12_fewest 66 = .ok (.iload_n 3, 1) := by decide +kernel
theorem dX12_fewest_67 : decode cX12_fewest 67 = .ok (.if_icmp .ge 43, 3) := by decide +kernel
theorem dX12_fewest_70 : decode cX12_fewest 70 = .ok (.aload_n 0, 1) := by decide +kernel
theorem dX12_fewest_71 : decode cX12_fewest 71 = .ok (.iload 4, 2) := by decide +kernel
theorem dX12_fewest_73 : decode cX12_fewest 73 = .ok (.iload 5, 2) := by decide +kernel
theorem dX12_fewest_75 : decode cX12_fewest 75 = .ok (.invokevirtual 192, 3) := by decide +kernel
theorem dX12_fewest_78 : decode cX12_fewest 78 = .ok (.ifCond .eq 26, 3) := by decide +kernel
theorem dX12_fewest_81 : decode cX12_fewest 81 = .ok (.iload_n 1, 1) := by decide +kernel
theorem dX12_fewest_82 : decode cX12_fewest 82 = .ok (.ifCond .ne 7, 3) := by decide +kernel
theorem dX12_fewest_85 : decode cX12_fewest 85 = .ok (.iconst 3, 1) := by decide +kernel
theorem dX12_fewest_86 : decode cX12_fewest 86 = .ok (.goto 17, 3) := by decide +kernel
theorem dX12_fewest_89 : decode cX12_fewest 89 = .ok (.bipush 10, 2) := by decide +kernel
theorem dX12_fewest_91 : decode cX12_fewest 91 = .ok (.iload 4, 2) := by decide +kernel
theorem dX12_fewest_93 : decode cX12_fewest 93 = .ok (.bipush 9, 2) := by decide +kernel
theorem dX12_fewest_95 : decode cX12_fewest 95 = .ok (.idiv, 1) := by decide +kernel
theorem dX12_fewest_96 : decode cX12_fewest 96 = .ok (.imul, 1) := by decide +kernel
theorem dX12_fewest_97 : decode cX12_fewest 97 = .ok (.iload 4, 2) := by decide +kernel
theorem dX12_fewest_99 : decode cX12_fewest 99 = .ok (.bipush 9, 2) := by decide +kernel
theorem dX12_fewest_101 : decode cX12_fewest 101 = .ok (.irem, 1) := by decide +kernel
theorem dX12_fewest_102 : decode cX12_fewest 102 = .ok (.iadd, 1) := by decide +kernel
theorem dX12_fewest_103 : decode cX12_fewest 103 = .ok (.ireturn, 1) := by decide +kernel
theorem dX12_fewest_104 : decode cX12_fewest 104 = .ok (.iinc 5 1, 3) := by decide +kernel
theorem dX12_fewest_107 : decode cX12_fewest 107 = .ok (.goto (-43), 3) := by decide +kernel
theorem dX12_fewest_110 : decode cX12_fewest 110 = .ok (.iinc 4 1, 3) := by decide +kernel
theorem dX12_fewest_113 : decode cX12_fewest 113 = .ok (.goto (-58), 3) := by decide +kernel
theorem dX12_fewest_116 : decode cX12_fewest 116 = .ok (.bipush (-4), 2) := by decide +kernel
theorem dX12_fewest_118 : decode cX12_fewest 118 = .ok (.ireturn, 1) := by decide +kernel
theorem dX12_isHeld_0 : decode cX12_isHeld 0 = .ok (.aload_n 0, 1) := by decide +kernel
theorem dX12_isHeld_1 : decode cX12_isHeld 1 = .ok (.getfield 9, 3) := by decide +kernel
theorem dX12_isHeld_4 : decode cX12_isHeld 4 = .ok (.aload_n 0, 1) := by decide +kernel
theorem dX12_isHeld_5 : decode cX12_isHeld 5 = .ok (.getfield 13, 3) := by decide +kernel
theorem dX12_isHeld_8 : decode cX12_isHeld 8 = .ok (.invokestatic 158, 3) := by decide +kernel
theorem dX12_isHeld_11 : decode cX12_isHeld 11 = .ok (.aload_n 0, 1) := by decide +kernel
theorem dX12_isHeld_12 : decode cX12_isHeld 12 = .ok (.getfield 13, 3) := by decide +kernel
theorem dX12_isHeld_15 : decode cX12_isHeld 15 = .ok (.iload_n 1, 1) := by decide +kernel
theorem dX12_isHeld_16 : decode cX12_isHeld 16 = .ok (.iload_n 2, 1) := by decide +kernel
theorem dX12_isHeld_17 : decode cX12_isHeld 17 = .ok (.invokestatic 50, 3) := by decide +kernel
theorem dX12_isHeld_20 : decode cX12_isHeld 20 = .ok (.iload_n 3, 1) := by decide +kernel
theorem dX12_isHeld_21 : decode cX12_isHeld 21 = .ok (.iastore, 1) := by decide +kernel
theorem dX12_isHeld_22 : decode cX12_isHeld 22 = .ok (.aload_n 0, 1) := by decide +kernel
theorem dX12_isHeld_23 : decode cX12_isHeld 23 = .ok (.getfield 13, 3) := by decide +kernel
theorem dX12_isHeld_26 : decode cX12_isHeld 26 = .ok (.iconst 2, 1) := by decide +kernel
theorem dX12_isHeld_27 : decode cX12_isHeld 27 = .ok (.iaload, 1) := by decide +kernel
theorem dX12_isHeld_28 : decode cX12_isHeld 28 = .ok (.invokestatic 73, 3) := by decide +kernel
theorem dX12_isHeld_31 : decode cX12_isHeld 31 = .ok (.iload_n 1, 1) := by decide +kernel
theorem dX12_isHeld_32 : decode cX12_isHeld 32 = .ok (.if_icmp .ne 14, 3) := by decide +kernel
theorem dX12_isHeld_35 : decode cX12_isHeld 35 = .ok (.aload_n 0, 1) := by decide +kernel
theorem dX12_isHeld_36 : decode cX12_isHeld 36 = .ok (.getfield 13, 3) := by decide +kernel
theorem dX12_isHeld_39 : decode cX12_isHeld 39 = .ok (.iconst 2, 1) := by decide +kernel
theorem dX12_isHeld_40 : decode cX12_isHeld 40 = .ok (.iconst 2, 1) := by decide +kernel
theorem dX12_isHeld_41 : decode cX12_isHeld 41 = .ok (.iconst 1, 1) := by decide +kernel
theorem dX12_isHeld_42 : decode cX12_isHeld 42 = .ok (.iload_n 1, 1) := by decide +kernel
theorem dX12_isHeld_43 : decode cX12_isHeld 43 = .ok (.isub, 1) := by decide +kernel
theorem dX12_isHeld_44 : decode cX12_isHeld 44 = .ok (.imul, 1) := by decide +kernel
theorem dX12_isHeld_45 : decode cX12_isHeld 45 = .ok (.iastore, 1) := by decide +kernel
theorem dX12_isHeld_46 : decode cX12_isHeld 46 = .ok (.aload_n 0, 1) := by decide +kernel
theorem dX12_isHeld_47 : decode cX12_isHeld 47 = .ok (.aload_n 0, 1) := by decide +kernel
theorem dX12_isHeld_48 : decode cX12_isHeld 48 = .ok (.getfield 13, 3) := by decide +kernel
theorem dX12_isHeld_51 : decode cX12_isHeld 51 = .ok (.iconst 0, 1) := by decide +kernel
theorem dX12_isHeld_52 : decode cX12_isHeld 52 = .ok (.iload 4, 2) := by decide +kernel
theorem dX12_isHeld_54 : decode cX12_isHeld 54 = .ok (.invokevirtual 149, 3) := by decide +kernel
theorem dX12_isHeld_57 : decode cX12_isHeld 57 = .ok (.ifCond .eq 5, 3) := by decide +kernel
theorem dX12_isHeld_60 : decode cX12_isHeld 60 = .ok (.iconst 0, 1) := by decide +kernel
theorem dX12_isHeld_61 : decode cX12_isHeld 61 = .ok (.ireturn, 1) := by decide +kernel
theorem dX12_isHeld_62 : decode cX12_isHeld 62 = .ok (.aload_n 0, 1) := by decide +kernel
theorem dX12_isHeld_63 : decode cX12_isHeld 63 = .ok (.aload_n 0, 1) := by decide +kernel
theorem dX12_isHeld_64 : decode cX12_isHeld 64 = .ok (.getfield 13, 3) := by decide +kernel
theorem dX12_isHeld_67 : decode cX12_isHeld 67 = .ok (.iconst 0, 1) := by decide +kernel
theorem dX12_isHeld_68 : decode cX12_isHeld 68 = .ok (.iconst 4, 1) := by decide +kernel
theorem dX12_isHeld_69 : decode cX12_isHeld 69 = .ok (.invokevirtual 149, 3) := by decide +kernel
theorem dX12_isHeld_72 : decode cX12_isHeld 72 = .ok (.ifCond .ne 20, 3) := by decide +kernel
theorem dX12_isHeld_75 : decode cX12_isHeld 75 = .ok (.aload_n 0, 1) := by decide +kernel
theorem dX12_isHeld_76 : decode cX12_isHeld 76 = .ok (.aload_n 0, 1) := by decide +kernel
theorem dX12_isHeld_77 : decode cX12_isHeld 77 = .ok (.getfield 13, 3) := by decide +kernel
theorem dX12_isHeld_80 : decode cX12_isHeld 80 = .ok (.iconst 0, 1) := by decide +kernel
theorem dX12_isHeld_81 : decode cX12_isHeld 81 = .ok (.bipush 8, 2) := by decide +kernel
theorem dX12_isHeld_83 : decode cX12_isHeld 83 = .ok (.iload 4, 2) := by decide +kernel
theorem dX12_isHeld_85 : decode cX12_isHeld 85 = .ok (.isub, 1) := by decide +kernel
theorem dX12_isHeld_86 : decode cX12_isHeld 86 = .ok (.invokevirtual 149, 3) := by decide +kernel
theorem dX12_isHeld_89 : decode cX12_isHeld 89 = .ok (.ifCond .ne 7, 3) := by decide +kernel
theorem dX12_isHeld_92 : decode cX12_isHeld 92 = .ok (.iconst 1, 1) := by decide +kernel
theorem dX12_isHeld_93 : decode cX12_isHeld 93 = .ok (.goto 4, 3) := by decide +kernel
theorem dX12_isHeld_96 : decode cX12_isHeld 96 = .ok (.iconst 0, 1) := by decide +kernel
theorem dX12_isHeld_97 : decode cX12_isHeld 97 = .ok (.ireturn, 1) := by decide +kernel
theorem dX12_bestOf_0 : decode cX12_bestOf 0 = .ok (.iload_n 1, 1) := by decide +kernel
theorem dX12_bestOf_1 : decode cX12_bestOf 1 = .ok (.iconst 0, 1) := by decide +kernel
theorem dX12_bestOf_2 : decode cX12_bestOf 2 = .ok (.iconst 1, 1) := by decide +kernel
theorem dX12_bestOf_3 : decode cX12_bestOf 3 = .ok (.invokestatic 53, 3) := by decide +kernel
theorem dX12_bestOf_6 : decode cX12_bestOf 6 = .ok (.ifCond .eq 13, 3) := by decide +kernel
theorem dX12_bestOf_9 : decode cX12_bestOf 9 = .ok (.iload 4, 2) := by decide +kernel
theorem dX12_bestOf_11 : decode cX12_bestOf 11 = .ok (.iconst 0, 1) := by decide +kernel
theorem dX12_bestOf_12 : decode cX12_bestOf 12 = .ok (.iconst 1, 1) := by decide +kernel
theorem dX12_bestOf_13 : decode cX12_bestOf 13 = .ok (.invokestatic 53, 3) := by decide +kernel
theorem dX12_bestOf_16 : decode cX12_bestOf 16 = .ok (.ifCond .ne 5, 3) := by decide +kernel
theorem dX12_bestOf_19 : decode cX12_bestOf 19 = .ok (.iconst (-1), 1) := by decide +kernel
theorem dX12_bestOf_20 : decode cX12_bestOf 20 = .ok (.ireturn, 1) := by decide +kernel
theorem dX12_bestOf_21 : decode cX12_bestOf 21 = .ok (.aload_n 0, 1) := by decide +kernel
theorem dX12_bestOf_22 : decode cX12_bestOf 22 = .ok (.getfield 9, 3) := by decide +kernel
theorem dX12_bestOf_25 : decode cX12_bestOf 25 = .ok (.iconst 0, 1) := by decide +kernel
theorem dX12_bestOf_26 : decode cX12_bestOf 26 = .ok (.iaload, 1) := by decide +kernel
theorem dX12_bestOf_27 : decode cX12_bestOf 27 = .ok (.ifCond .ne 6, 3) := by decide +kernel
theorem dX12_bestOf_30 : decode cX12_bestOf 30 = .ok (.bipush (-3), 2) := by decide +kernel
theorem dX12_bestOf_32 : decode cX12_bestOf 32 = .ok (.ireturn, 1) := by decide +kernel
theorem dX12_bestOf_33 : decode cX12_bestOf 33 = .ok (.iconst 0, 1) := by decide +kernel
theorem dX12_bestOf_34 : decode cX12_bestOf 34 = .ok (.istore 5, 2) := by decide +kernel
theorem dX12_bestOf_36 : decode cX12_bestOf 36 = .ok (.iconst (-1), 1) := by decide +kernel
theorem dX12_bestOf_37 : decode cX12_bestOf 37 = .ok (.istore 6, 2) := by decide +kernel
theorem dX12_bestOf_39 : decode cX12_bestOf 39 = .ok (.iconst 0, 1) := by decide +kernel
theorem dX12_bestOf_40 : decode cX12_bestOf 40 = .ok (.istore 7, 2) := by decide +kernel
theorem dX12_bestOf_42 : decode cX12_bestOf 42 = .ok (.iload 7, 2) := by decide +kernel
theorem dX12_bestOf_44 : decode cX12_bestOf 44 = .ok (.iload_n 3, 1) := by decide +kernel
theorem dX12_bestOf_45 : decode cX12_bestOf 45 = .ok (.if_icmp .ge 69, 3) := by decide +kernel
theorem dX12_bestOf_48 : decode cX12_bestOf 48 = .ok (.iconst 0, 1) := by decide +kernel
theorem dX12_bestOf_49 : decode cX12_bestOf 49 = .ok (.istore 8, 2) := by decide +kernel
theorem dX12_bestOf_51 : decode cX12_bestOf 51 = .ok (.iconst 0, 1) := by decide +kernel
theorem dX12_bestOf_52 : decode cX12_bestOf 52 = .ok (.istore 9, 2) := by decide +kernel
theorem dX12_bestOf_54 : decode cX12_bestOf 54 = .ok (.iload 9, 2) := by decide +kernel
theorem dX12_bestOf_56 : decode cX12_bestOf 56 = .ok (.bipush 9, 2) := by decide +kernel
theorem dX12_bestOf_58 : decode cX12_bestOf 58 = .ok (.if_icmp .ge 32, 3) := by decide +kernel
theorem dX12_bestOf_61 : decode cX12_bestOf 61 = .ok (.iload 8, 2) := by decide +kernel
theorem dX12_bestOf_63 : decode cX12_bestOf 63 = .ok (.aload_n 0, 1) := by decide +kernel
theorem dX12_bestOf_64 : decode cX12_bestOf 64 = .ok (.iload_n 1, 1) := by decide +kernel
theorem dX12_bestOf_65 : decode cX12_bestOf 65 = .ok (.iload_n 2, 1) := by decide +kernel
theorem dX12_bestOf_66 : decode cX12_bestOf 66 = .ok (.iload 7, 2) := by decide +kernel
theorem dX12_bestOf_68 : decode cX12_bestOf 68 = .ok (.iload 9, 2) := by decide +kernel
theorem dX12_bestOf_70 : decode cX12_bestOf 70 = .ok (.invokevirtual 195, 3) := by decide +kernel
theorem dX12_bestOf_73 : decode cX12_bestOf 73 = .ok (.ifCond .eq 7, 3) := by decide +kernel
theorem dX12_bestOf_76 : decode cX12_bestOf 76 = .ok (.iconst 1, 1) := by decide +kernel
theorem dX12_bestOf_77 : decode cX12_bestOf 77 = .ok (.goto 4, 3) := by decide +kernel
theorem dX12_bestOf_80 : decode cX12_bestOf 80 = .ok (.iconst 0, 1) := by decide +kernel
theorem dX12_bestOf_81 : decode cX12_bestOf 81 = .ok (.iadd, 1) := by decide +kernel
theorem dX12_bestOf_82 : decode cX12_bestOf 82 = .ok (.istore 8, 2) := by decide +kernel
theorem dX12_bestOf_84 : decode cX12_bestOf 84 = .ok (.iinc 9 1, 3) := by decide +kernel
theorem dX12_bestOf_87 : decode cX12_bestOf 87 = .ok (.goto (-33), 3) := by decide +kernel
theorem dX12_bestOf_90 : decode cX12_bestOf 90 = .ok (.iload 8, 2) := by decide +kernel
theorem dX12_bestOf_92 : decode cX12_bestOf 92 = .ok (.iload 6, 2) := by decide +kernel
theorem dX12_bestOf_94 : decode cX12_bestOf 94 = .ok (.if_icmp .gt 6, 3) := by decide +kernel
theorem dX12_bestOf_97 : decode cX12_bestOf 97 = .ok (.goto 11, 3) := by decide +kernel
theorem dX12_bestOf_100 : decode cX12_bestOf 100 = .ok (.iload 7, 2) := by decide +kernel
theorem dX12_bestOf_102 : decode cX12_bestOf 102 = .ok (.istore 5, 2) := by decide +kernel
theorem dX12_bestOf_104 : decode cX12_bestOf 104 = .ok (.iload 8, 2) := by decide +kernel
theorem dX12_bestOf_106 : decode cX12_bestOf 106 = .ok (.istore 6, 2) := by decide +kernel
theorem dX12_bestOf_108 : decode cX12_bestOf 108 = .ok (.iinc 7 1, 3) := by decide +kernel
theorem dX12_bestOf_111 : decode cX12_bestOf 111 = .ok (.goto (-69), 3) := by decide +kernel
theorem dX12_bestOf_114 : decode cX12_bestOf 114 = .ok (.iload 4, 2) := by decide +kernel
theorem dX12_bestOf_116 : decode cX12_bestOf 116 = .ok (.ifCond .ne 8, 3) := by decide +kernel
theorem dX12_bestOf_119 : decode cX12_bestOf 119 = .ok (.iload 5, 2) := by decide +kernel
theorem dX12_bestOf_121 : decode cX12_bestOf 121 = .ok (.goto 5, 3) := by decide +kernel
theorem dX12_bestOf_124 : decode cX12_bestOf 124 = .ok (.iload 6, 2) := by decide +kernel
theorem dX12_bestOf_126 : decode cX12_bestOf 126 = .ok (.ireturn, 1) := by decide +kernel
theorem dX12_bestForm_0 : decode cX12_bestForm 0 = .ok (.aload_n 0, 1) := by decide +kernel
theorem dX12_bestForm_1 : decode cX12_bestForm 1 = .ok (.iload_n 1, 1) := by decide +kernel
theorem dX12_bestForm_2 : decode cX12_bestForm 2 = .ok (.iconst 0, 1) := by decide +kernel
theorem dX12_bestForm_3 : decode cX12_bestForm 3 = .ok (.iconst 2, 1) := by decide +kernel
theorem dX12_bestForm_4 : decode cX12_bestForm 4 = .ok (.iload_n 2, 1) := by decide +kernel
theorem dX12_bestForm_5 : decode cX12_bestForm 5 = .ok (.invokevirtual 199, 3) := by decide +kernel
theorem dX12_bestForm_8 : decode cX12_bestForm 8 = .ok (.ireturn, 1) := by decide +kernel
theorem dX12_bestHabit_0 : decode cX12_bestHabit 0 = .ok (.aload_n 0, 1) := by decide +kernel
theorem dX12_bestHabit_1 : decode cX12_bestHabit 1 = .ok (.iload_n 1, 1) := by decide +kernel
theorem dX12_bestHabit_2 : decode cX12_bestHabit 2 = .ok (.iconst 1, 1) := by decide +kernel
theorem dX12_bestHabit_3 : decode cX12_bestHabit 3 = .ok (.iconst 4, 1) := by decide +kernel
theorem dX12_bestHabit_4 : decode cX12_bestHabit 4 = .ok (.iload_n 2, 1) := by decide +kernel
theorem dX12_bestHabit_5 : decode cX12_bestHabit 5 = .ok (.invokevirtual 199, 3) := by decide +kernel
theorem dX12_bestHabit_8 : decode cX12_bestHabit 8 = .ok (.ireturn, 1) := by decide +kernel
theorem dX12_change_0 : decode cX12_change 0 = .ok (.aload_n 0, 1) := by decide +kernel
theorem dX12_change_1 : decode cX12_change 1 = .ok (.iload_n 1, 1) := by decide +kernel
theorem dX12_change_2 : decode cX12_change 2 = .ok (.iload_n 2, 1) := by decide +kernel
theorem dX12_change_3 : decode cX12_change 3 = .ok (.invokevirtual 174, 3) := by decide +kernel
theorem dX12_change_6 : decode cX12_change 6 = .ok (.ifCond .eq 20, 3) := by decide +kernel
theorem dX12_change_9 : decode cX12_change 9 = .ok (.iload_n 3, 1) := by decide +kernel
theorem dX12_change_10 : decode cX12_change 10 = .ok (.invokestatic 135, 3) := by decide +kernel
theorem dX12_change_13 : decode cX12_change 13 = .ok (.ifCond .eq 13, 3) := by decide +kernel
theorem dX12_change_16 : decode cX12_change 16 = .ok (.iload 4, 2) := by decide +kernel
theorem dX12_change_18 : decode cX12_change 18 = .ok (.iconst 0, 1) := by decide +kernel
theorem dX12_change_19 : decode cX12_change 19 = .ok (.iconst 1, 1) := by decide +kernel
theorem dX12_change_20 : decode cX12_change 20 = .ok (.invokestatic 53, 3) := by decide +kernel
theorem dX12_change_23 : decode cX12_change 23 = .ok (.ifCond .ne 5, 3) := by decide +kernel
theorem dX12_change_26 : decode cX12_change 26 = .ok (.iconst (-1), 1) := by decide +kernel
theorem dX12_change_27 : decode cX12_change 27 = .ok (.ireturn, 1) := by decide +kernel
theorem dX12_change_28 : decode cX12_change 28 = .ok (.aload_n 0, 1) := by decide +kernel
theorem dX12_change_29 : decode cX12_change 29 = .ok (.iload_n 1, 1) := by decide +kernel
theorem dX12_change_30 : decode cX12_change 30 = .ok (.iload_n 2, 1) := by decide +kernel
theorem dX12_change_31 : decode cX12_change 31 = .ok (.invokevirtual 180, 3) := by decide +kernel
theorem dX12_change_34 : decode cX12_change 34 = .ok (.istore 5, 2) := by decide +kernel
theorem dX12_change_36 : decode cX12_change 36 = .ok (.aload_n 0, 1) := by decide +kernel
theorem dX12_change_37 : decode cX12_change 37 = .ok (.getfield 13, 3) := by decide +kernel
theorem dX12_change_40 : decode cX12_change 40 = .ok (.iload_n 3, 1) := by decide +kernel
theorem dX12_change_41 : decode cX12_change 41 = .ok (.iload 4, 2) := by decide +kernel
theorem dX12_change_43 : decode cX12_change 43 = .ok (.ifCond .ne 7, 3) := by decide +kernel
theorem dX12_change_46 : decode cX12_change 46 = .ok (.iconst 0, 1) := by decide +kernel
theorem dX12_change_47 : decode cX12_change 47 = .ok (.goto 4, 3) := by decide +kernel
theorem dX12_change_50 : decode cX12_change 50 = .ok (.iconst 2, 1) := by decide +kernel
theorem dX12_change_51 : decode cX12_change 51 = .ok (.invokestatic 46, 3) := by decide +kernel
theorem dX12_change_54 : decode cX12_change 54 = .ok (.iaload, 1) := by decide +kernel
theorem dX12_change_55 : decode cX12_change 55 = .ok (.ireturn, 1) := by decide +kernel
theorem dX12_wrongRally_0 : decode cX12_wrongRally 0 = .ok (.aload_n 0, 1) := by decide +kernel
theorem dX12_wrongRally_1 : decode cX12_wrongRally 1 = .ok (.iload_n 1, 1) := by decide +kernel
theorem dX12_wrongRally_2 : decode cX12_wrongRally 2 = .ok (.iconst (-1), 1) := by decide +kernel
theorem dX12_wrongRally_3 : decode cX12_wrongRally 3 = .ok (.invokevirtual 152, 3) := by decide +kernel
theorem dX12_wrongRally_6 : decode cX12_wrongRally 6 = .ok (.istore_n 2, 1) := by decide +kernel
theorem dX12_wrongRally_7 : decode cX12_wrongRally 7 = .ok (.iload_n 2, 1) := by decide +kernel
theorem dX12_wrongRally_8 : decode cX12_wrongRally 8 = .ok (.ifCond .ne 18, 3) := by decide +kernel
theorem dX12_wrongRally_11 : decode cX12_wrongRally 11 = .ok (.aload_n 0, 1) := by decide +kernel
theorem dX12_wrongRally_12 : decode cX12_wrongRally 12 = .ok (.getfield 40, 3) := by decide +kernel
theorem dX12_wrongRally_15 : decode cX12_wrongRally 15 = .ok (.iload_n 1, 1) := by decide +kernel
theorem dX12_wrongRally_16 : decode cX12_wrongRally 16 = .ok (.iaload, 1) := by decide +kernel
theorem dX12_wrongRally_17 : decode cX12_wrongRally 17 = .ok (.iconst 2, 1) := by decide +kernel
theorem dX12_wrongRally_18 : decode cX12_wrongRally 18 = .ok (.irem, 1) := by decide +kernel
theorem dX12_wrongRally_19 : decode cX12_wrongRally 19 = .ok (.iconst 1, 1) := by decide +kernel
theorem dX12_wrongRally_20 : decode cX12_wrongRally 20 = .ok (.if_icmp .ne 6, 3) := by decide +kernel
theorem dX12_wrongRally_23 : decode cX12_wrongRally 23 = .ok (.bipush (-13), 2) := by decide +kernel
theorem dX12_wrongRally_25 : decode cX12_wrongRally 25 = .ok (.istore_n 2, 1) := by decide +kernel
theorem dX12_wrongRally_26 : decode cX12_wrongRally 26 = .ok (.iconst 0, 1) := by decide +kernel
theorem dX12_wrongRally_27 : decode cX12_wrongRally 27 = .ok (.istore_n 3, 1) := by decide +kernel
theorem dX12_wrongRally_28 : decode cX12_wrongRally 28 = .ok (.iload_n 2, 1) := by decide +kernel
theorem dX12_wrongRally_29 : decode cX12_wrongRally 29 = .ok (.ifCond .ne 53, 3) := by decide +kernel
theorem dX12_wrongRally_32 : decode cX12_wrongRally 32 = .ok (.iload_n 3, 1) := by decide +kernel
theorem dX12_wrongRally_33 : decode cX12_wrongRally 33 = .ok (.aload_n 0, 1) := by decide +kernel
theorem dX12_wrongRally_34 : decode cX12_wrongRally 34 = .ok (.getfield 40, 3) := by decide +kernel
theorem dX12_wrongRally_37 : decode cX12_wrongRally 37 = .ok (.iload_n 1, 1) := by decide +kernel
theorem dX12_wrongRally_38 : decode cX12_wrongRally 38 = .ok (.iaload, 1) := by decide +kernel
theorem dX12_wrongRally_39 : decode cX12_wrongRally 39 = .ok (.if_icmp .ge 43, 3) := by decide +kernel
theorem dX12_wrongRally_42 : decode cX12_wrongRally 42 = .ok (.aload_n 0, 1) := by decide +kernel
theorem dX12_wrongRally_43 : decode cX12_wrongRally 43 = .ok (.aload_n 0, 1) := by decide +kernel
theorem dX12_wrongRally_44 : decode cX12_wrongRally 44 = .ok (.getfield 43, 3) := by decide +kernel
theorem dX12_wrongRally_47 : decode cX12_wrongRally 47 = .ok (.bipush 100, 2) := by decide +kernel
theorem dX12_wrongRally_49 : decode cX12_wrongRally 49 = .ok (.iload_n 1, 1) := by decide +kernel
theorem dX12_wrongRally_50 : decode cX12_wrongRally 50 = .ok (.imul, 1) := by decide +kernel
theorem dX12_wrongRally_51 : decode cX12_wrongRally 51 = .ok (.iload_n 3, 1) := by decide +kernel
theorem dX12_wrongRally_52 : decode cX12_wrongRally 52 = .ok (.iadd, 1) := by decide +kernel
theorem dX12_wrongRally_53 : decode cX12_wrongRally 53 = .ok (.iaload, 1) := by decide +kernel
theorem dX12_wrongRally_54 : decode cX12_wrongRally 54 = .ok (.aload_n 0, 1) := by decide +kernel
theorem dX12_wrongRally_55 : decode cX12_wrongRally 55 = .ok (.getfield 43, 3) := by decide +kernel
theorem dX12_wrongRally_58 : decode cX12_wrongRally 58 = .ok (.bipush 100, 2) := by decide +kernel
theorem dX12_wrongRally_60 : decode cX12_wrongRally 60 = .ok (.iload_n 1, 1) := by decide +kernel
theorem dX12_wrongRally_61 : decode cX12_wrongRally 61 = .ok (.imul, 1) := by decide +kernel
theorem dX12_wrongRally_62 : decode cX12_wrongRally 62 = .ok (.iload_n 3, 1) := by decide +kernel
theorem dX12_wrongRally_63 : decode cX12_wrongRally 63 = .ok (.iadd, 1) := by decide +kernel
theorem dX12_wrongRally_64 : decode cX12_wrongRally 64 = .ok (.iconst 1, 1) := by decide +kernel
theorem dX12_wrongRally_65 : decode cX12_wrongRally 65 = .ok (.iadd, 1) := by decide +kernel
theorem dX12_wrongRally_66 : decode cX12_wrongRally 66 = .ok (.iaload, 1) := by decide +kernel
theorem dX12_wrongRally_67 : decode cX12_wrongRally 67 = .ok (.invokevirtual 174, 3) := by decide +kernel
theorem dX12_wrongRally_70 : decode cX12_wrongRally 70 = .ok (.ifCond .ne 6, 3) := by decide +kernel
theorem dX12_wrongRally_73 : decode cX12_wrongRally 73 = .ok (.bipush (-13), 2) := by decide +kernel
theorem dX12_wrongRally_75 : decode cX12_wrongRally 75 = .ok (.istore_n 2, 1) := by decide +kernel
theorem dX12_wrongRally_76 : decode cX12_wrongRally 76 = .ok (.iinc 3 2, 3) := by decide +kernel
theorem dX12_wrongRally_79 : decode cX12_wrongRally 79 = .ok (.goto (-51), 3) := by decide +kernel
theorem dX12_wrongRally_82 : decode cX12_wrongRally 82 = .ok (.iload_n 2, 1) := by decide +kernel
theorem dX12_wrongRally_83 : decode cX12_wrongRally 83 = .ok (.ireturn, 1) := by decide +kernel
theorem dX12_rallies_0 : decode cX12_rallies 0 = .ok (.aload_n 0, 1) := by decide +kernel
theorem dX12_rallies_1 : decode cX12_rallies 1 = .ok (.getfield 9, 3) := by decide +kernel
theorem dX12_rallies_4 : decode cX12_rallies 4 = .ok (.aload_n 0, 1) := by decide +kernel
theorem dX12_rallies_5 : decode cX12_rallies 5 = .ok (.getfield 13, 3) := by decide +kernel
theorem dX12_rallies_8 : decode cX12_rallies 8 = .ok (.invokestatic 158, 3) := by decide +kernel
theorem dX12_rallies_11 : decode cX12_rallies 11 = .ok (.iconst 0, 1) := by decide +kernel
theorem dX12_rallies_12 : decode cX12_rallies 12 = .ok (.istore_n 2, 1) := by decide +kernel
theorem dX12_rallies_13 : decode cX12_rallies 13 = .ok (.iload_n 2, 1) := by decide +kernel
theorem dX12_rallies_14 : decode cX12_rallies 14 = .ok (.iconst 4, 1) := by decide +kernel
theorem dX12_rallies_15 : decode cX12_rallies 15 = .ok (.if_icmp .ge 16, 3) := by decide +kernel
theorem dX12_rallies_18 : decode cX12_rallies 18 = .ok (.aload_n 0, 1) := by decide +kernel
theorem dX12_rallies_19 : decode cX12_rallies 19 = .ok (.getfield 22, 3) := by decide +kernel
theorem dX12_rallies_22 : decode cX12_rallies 22 = .ok (.iload_n 2, 1) := by decide +kernel
theorem dX12_rallies_23 : decode cX12_rallies 23 = .ok (.iconst 0, 1) := by decide +kernel
theorem dX12_rallies_24 : decode cX12_rallies 24 = .ok (.iastore, 1) := by decide +kernel
theorem dX12_rallies_25 : decode cX12_rallies 25 = .ok (.iinc 2 1, 3) := by decide +kernel
theorem dX12_rallies_28 : decode cX12_rallies 28 = .ok (.goto (-15), 3) := by decide +kernel
theorem dX12_rallies_31 : decode cX12_rallies 31 = .ok (.aload_n 0, 1) := by decide +kernel
theorem dX12_rallies_32 : decode cX12_rallies 32 = .ok (.iconst 0, 1) := by decide +kernel
theorem dX12_rallies_33 : decode cX12_rallies 33 = .ok (.putfield 203, 3) := by decide +kernel
theorem dX12_rallies_36 : decode cX12_rallies 36 = .ok (.aload_n 0, 1) := by decide +kernel
theorem dX12_rallies_37 : decode cX12_rallies 37 = .ok (.iconst 2, 1) := by decide +kernel
theorem dX12_rallies_38 : decode cX12_rallies 38 = .ok (.putfield 206, 3) := by decide +kernel
theorem dX12_rallies_41 : decode cX12_rallies 41 = .ok (.iconst 0, 1) := by decide +kernel
theorem dX12_rallies_42 : decode cX12_rallies 42 = .ok (.istore_n 2, 1) := by decide +kernel
theorem dX12_rallies_43 : decode cX12_rallies 43 = .ok (.iload_n 2, 1) := by decide +kernel
theorem dX12_rallies_44 : decode cX12_rallies 44 = .ok (.aload_n 0, 1) := by decide +kernel
theorem dX12_rallies_45 : decode cX12_rallies 45 = .ok (.getfield 40, 3) := by decide +kernel
theorem dX12_rallies_48 : decode cX12_rallies 48 = .ok (.iload_n 1, 1) := by decide +kernel
theorem dX12_rallies_49 : decode cX12_rallies 49 = .ok (.iaload, 1) := by decide +kernel
theorem dX12_rallies_50 : decode cX12_rallies 50 = .ok (.if_icmp .ge 77, 3) := by decide +kernel
theorem dX12_rallies_53 : decode cX12_rallies 53 = .ok (.aload_n 0, 1) := by decide +kernel
theorem dX12_rallies_54 : decode cX12_rallies 54 = .ok (.getfield 206, 3) := by decide +kernel
theorem dX12_rallies_57 : decode cX12_rallies 57 = .ok (.iconst 2, 1) := by decide +kernel
theorem dX12_rallies_58 : decode cX12_rallies 58 = .ok (.if_icmp .ne 69, 3) := by decide +kernel
theorem dX12_rallies_61 : decode cX12_rallies 61 = .ok (.aload_n 0, 1) := by decide +kernel
theorem dX12_rallies_62 : decode cX12_rallies 62 = .ok (.getfield 13, 3) := by decide +kernel
theorem dX12_rallies_65 : decode cX12_rallies 65 = .ok (.iconst 2, 1) := by decide +kernel
theorem dX12_rallies_66 : decode cX12_rallies 66 = .ok (.iaload, 1) := by decide +kernel
theorem dX12_rallies_67 : decode cX12_rallies 67 = .ok (.invokestatic 73, 3) := by decide +kernel
theorem dX12_rallies_70 : decode cX12_rallies 70 = .ok (.istore_n 3, 1) := by decide +kernel
theorem dX12_rallies_71 : decode cX12_rallies 71 = .ok (.aload_n 0, 1) := by decide +kernel
theorem dX12_rallies_72 : decode cX12_rallies 72 = .ok (.aload_n 0, 1) := by decide +kernel
theorem dX12_rallies_73 : decode cX12_rallies 73 = .ok (.getfield 13, 3) := by decide +kernel
theorem dX12_rallies_76 : decode cX12_rallies 76 = .ok (.aload_n 0, 1) := by decide +kernel
theorem dX12_rallies_77 : decode cX12_rallies 77 = .ok (.getfield 43, 3) := by decide +kernel
theorem dX12_rallies_80 : decode cX12_rallies 80 = .ok (.bipush 100, 2) := by decide +kernel
theorem dX12_rallies_82 : decode cX12_rallies 82 = .ok (.iload_n 1, 1) := by decide +kernel
theorem dX12_rallies_83 : decode cX12_rallies 83 = .ok (.imul, 1) := by decide +kernel
theorem dX12_rallies_84 : decode cX12_rallies 84 = .ok (.iload_n 2, 1) := by decide +kernel
theorem dX12_rallies_85 : decode cX12_rallies 85 = .ok (.iadd, 1) := by decide +kernel
theorem dX12_rallies_86 : decode cX12_rallies 86 = .ok (.iaload, 1) := by decide +kernel
theorem dX12_rallies_87 : decode cX12_rallies 87 = .ok (.aload_n 0, 1) := by decide +kernel
theorem dX12_rallies_88 : decode cX12_rallies 88 = .ok (.getfield 43, 3) := by decide +kernel
theorem dX12_rallies_91 : decode cX12_rallies 91 = .ok (.bipush 100, 2) := by decide +kernel
theorem dX12_rallies_93 : decode cX12_rallies 93 = .ok (.iload_n 1, 1) := by decide +kernel
theorem dX12_rallies_94 : decode cX12_rallies 94 = .ok (.imul, 1) := by decide +kernel
theorem dX12_rallies_95 : decode cX12_rallies 95 = .ok (.iload_n 2, 1) := by decide +kernel
theorem dX12_rallies_96 : decode cX12_rallies 96 = .ok (.iadd, 1) := by decide +kernel
theorem dX12_rallies_97 : decode cX12_rallies 97 = .ok (.iconst 1, 1) := by decide +kernel
theorem dX12_rallies_98 : decode cX12_rallies 98 = .ok (.iadd, 1) := by decide +kernel
theorem dX12_rallies_99 : decode cX12_rallies 99 = .ok (.iaload, 1) := by decide +kernel
theorem dX12_rallies_100 : decode cX12_rallies 100 = .ok (.invokevirtual 149, 3) := by decide +kernel
theorem dX12_rallies_103 : decode cX12_rallies 103 = .ok (.ifCond .eq 8, 3) := by decide +kernel
theorem dX12_rallies_106 : decode cX12_rallies 106 = .ok (.aload_n 0, 1) := by decide +kernel
theorem dX12_rallies_107 : decode cX12_rallies 107 = .ok (.iload_n 3, 1) := by decide +kernel
theorem dX12_rallies_108 : decode cX12_rallies 108 = .ok (.putfield 206, 3) := by decide +kernel
theorem dX12_rallies_111 : decode cX12_rallies 111 = .ok (.aload_n 0, 1) := by decide +kernel
theorem dX12_rallies_112 : decode cX12_rallies 112 = .ok (.dup, 1) := by decide +kernel
theorem dX12_rallies_113 : decode cX12_rallies 113 = .ok (.getfield 203, 3) := by decide +kernel
theorem dX12_rallies_116 : decode cX12_rallies 116 = .ok (.iconst 1, 1) := by decide +kernel
theorem dX12_rallies_117 : decode cX12_rallies 117 = .ok (.iadd, 1) := by decide +kernel
theorem dX12_rallies_118 : decode cX12_rallies 118 = .ok (.putfield 203, 3) := by decide +kernel
theorem dX12_rallies_121 : decode cX12_rallies 121 = .ok (.iinc 2 2, 3) := by decide +kernel
theorem dX12_rallies_124 : decode cX12_rallies 124 = .ok (.goto (-81), 3) := by decide +kernel
theorem dX12_rallies_127 : decode cX12_rallies 127 = .ok (.return_, 1) := by decide +kernel
theorem dX12_rally_0 : decode cX12_rally 0 = .ok (.iload_n 2, 1) := by decide +kernel
theorem dX12_rally_1 : decode cX12_rally 1 = .ok (.iconst 0, 1) := by decide +kernel
theorem dX12_rally_2 : decode cX12_rally 2 = .ok (.iconst 1, 1) := by decide +kernel
theorem dX12_rally_3 : decode cX12_rally 3 = .ok (.invokestatic 53, 3) := by decide +kernel
theorem dX12_rally_6 : decode cX12_rally 6 = .ok (.ifCond .ne 5, 3) := by decide +kernel
theorem dX12_rally_9 : decode cX12_rally 9 = .ok (.iconst (-1), 1) := by decide +kernel
theorem dX12_rally_10 : decode cX12_rally 10 = .ok (.ireturn, 1) := by decide +kernel
theorem dX12_rally_11 : decode cX12_rally 11 = .ok (.aload_n 0, 1) := by decide +kernel
theorem dX12_rally_12 : decode cX12_rally 12 = .ok (.iload_n 1, 1) := by decide +kernel
theorem dX12_rally_13 : decode cX12_rally 13 = .ok (.invokevirtual 209, 3) := by decide +kernel
theorem dX12_rally_16 : decode cX12_rally 16 = .ok (.istore_n 3, 1) := by decide +kernel
theorem dX12_rally_17 : decode cX12_rally 17 = .ok (.iload_n 3, 1) := by decide +kernel
theorem dX12_rally_18 : decode cX12_rally 18 = .ok (.ifCond .eq 5, 3) := by decide +kernel
theorem dX12_rally_21 : decode cX12_rally 21 = .ok (.iload_n 3, 1) := by decide +kernel
theorem dX12_rally_22 : decode cX12_rally 22 = .ok (.ireturn, 1) := by decide +kernel
theorem dX12_rally_23 : decode cX12_rally 23 = .ok (.aload_n 0, 1) := by decide +kernel
theorem dX12_rally_24 : decode cX12_rally 24 = .ok (.iload_n 1, 1) := by decide +kernel
theorem dX12_rally_25 : decode cX12_rally 25 = .ok (.invokevirtual 212, 3) := by decide +kernel
theorem dX12_rally_28 : decode cX12_rally 28 = .ok (.iload_n 2, 1) := by decide +kernel
theorem dX12_rally_29 : decode cX12_rally 29 = .ok (.ifCond .ne 10, 3) := by decide +kernel
theorem dX12_rally_32 : decode cX12_rally 32 = .ok (.aload_n 0, 1) := by decide +kernel
theorem dX12_rally_33 : decode cX12_rally 33 = .ok (.getfield 203, 3) := by decide +kernel
theorem dX12_rally_36 : decode cX12_rally 36 = .ok (.goto 7, 3) := by decide +kernel
theorem dX12_rally_39 : decode cX12_rally 39 = .ok (.aload_n 0, 1) := by decide +kernel
theorem dX12_rally_40 : decode cX12_rally 40 = .ok (.getfield 206, 3) := by decide +kernel
theorem dX12_rally_43 : decode cX12_rally 43 = .ok (.ireturn, 1) := by decide +kernel
theorem dX12_ways_0 : decode cX12_ways 0 = .ok (.iload_n 2, 1) := by decide +kernel
theorem dX12_ways_1 : decode cX12_ways 1 = .ok (.invokestatic 135, 3) := by decide +kernel
theorem dX12_ways_4 : decode cX12_ways 4 = .ok (.ifCond .ne 5, 3) := by decide +kernel
theorem dX12_ways_7 : decode cX12_ways 7 = .ok (.iconst (-1), 1) := by decide +kernel
theorem dX12_ways_8 : decode cX12_ways 8 = .ok (.ireturn, 1) := by decide +kernel
theorem dX12_ways_9 : decode cX12_ways 9 = .ok (.aload_n 0, 1) := by decide +kernel
theorem dX12_ways_10 : decode cX12_ways 10 = .ok (.iload_n 1, 1) := by decide +kernel
theorem dX12_ways_11 : decode cX12_ways 11 = .ok (.invokevirtual 209, 3) := by decide +kernel
theorem dX12_ways_14 : decode cX12_ways 14 = .ok (.istore_n 3, 1) := by decide +kernel
theorem dX12_ways_15 : decode cX12_ways 15 = .ok (.iload_n 3, 1) := by decide +kernel
theorem dX12_ways_16 : decode cX12_ways 16 = .ok (.ifCond .eq 5, 3) := by decide +kernel
theorem dX12_ways_19 : decode cX12_ways 19 = .ok (.iload_n 3, 1) := by decide +kernel
theorem dX12_ways_20 : decode cX12_ways 20 = .ok (.ireturn, 1) := by decide +kernel
theorem dX12_ways_21 : decode cX12_ways 21 = .ok (.aload_n 0, 1) := by decide +kernel
theorem dX12_ways_22 : decode cX12_ways 22 = .ok (.iload_n 1, 1) := by decide +kernel
theorem dX12_ways_23 : decode cX12_ways 23 = .ok (.invokevirtual 212, 3) := by decide +kernel
theorem dX12_ways_26 : decode cX12_ways 26 = .ok (.aload_n 0, 1) := by decide +kernel
theorem dX12_ways_27 : decode cX12_ways 27 = .ok (.getfield 22, 3) := by decide +kernel
theorem dX12_ways_30 : decode cX12_ways 30 = .ok (.iload_n 2, 1) := by decide +kernel
theorem dX12_ways_31 : decode cX12_ways 31 = .ok (.iaload, 1) := by decide +kernel
theorem dX12_ways_32 : decode cX12_ways 32 = .ok (.ireturn, 1) := by decide +kernel
theorem dX12_spent_0 : decode cX12_spent 0 = .ok (.aload_n 0, 1) := by decide +kernel
theorem dX12_spent_1 : decode cX12_spent 1 = .ok (.iload_n 1, 1) := by decide +kernel
theorem dX12_spent_2 : decode cX12_spent 2 = .ok (.invokevirtual 209, 3) := by decide +kernel
theorem dX12_spent_5 : decode cX12_spent 5 = .ok (.istore_n 2, 1) := by decide +kernel
theorem dX12_spent_6 : decode cX12_spent 6 = .ok (.iload_n 2, 1) := by decide +kernel
theorem dX12_spent_7 : decode cX12_spent 7 = .ok (.ifCond .eq 5, 3) := by decide +kernel
theorem dX12_spent_10 : decode cX12_spent 10 = .ok (.iload_n 2, 1) := by decide +kernel
theorem dX12_spent_11 : decode cX12_spent 11 = .ok (.ireturn, 1) := by decide +kernel
theorem dX12_spent_12 : decode cX12_spent 12 = .ok (.aload_n 0, 1) := by decide +kernel
theorem dX12_spent_13 : decode cX12_spent 13 = .ok (.iload_n 1, 1) := by decide +kernel
theorem dX12_spent_14 : decode cX12_spent 14 = .ok (.invokevirtual 212, 3) := by decide +kernel
theorem dX12_spent_17 : decode cX12_spent 17 = .ok (.iconst 0, 1) := by decide +kernel
theorem dX12_spent_18 : decode cX12_spent 18 = .ok (.istore_n 3, 1) := by decide +kernel
theorem dX12_spent_19 : decode cX12_spent 19 = .ok (.iconst 0, 1) := by decide +kernel
theorem dX12_spent_20 : decode cX12_spent 20 = .ok (.istore 4, 2) := by decide +kernel
theorem dX12_spent_22 : decode cX12_spent 22 = .ok (.iload 4, 2) := by decide +kernel
theorem dX12_spent_24 : decode cX12_spent 24 = .ok (.iconst 4, 1) := by decide +kernel
theorem dX12_spent_25 : decode cX12_spent 25 = .ok (.if_icmp .ge 36, 3) := by decide +kernel
theorem dX12_spent_28 : decode cX12_spent 28 = .ok (.aload_n 0, 1) := by decide +kernel
theorem dX12_spent_29 : decode cX12_spent 29 = .ok (.getfield 13, 3) := by decide +kernel
theorem dX12_spent_32 : decode cX12_spent 32 = .ok (.iload 4, 2) := by decide +kernel
theorem dX12_spent_34 : decode cX12_spent 34 = .ok (.iconst 2, 1) := by decide +kernel
theorem dX12_spent_35 : decode cX12_spent 35 = .ok (.invokestatic 46, 3) := by decide +kernel
theorem dX12_spent_38 : decode cX12_spent 38 = .ok (.iaload, 1) := by decide +kernel
theorem dX12_spent_39 : decode cX12_spent 39 = .ok (.aload_n 0, 1) := by decide +kernel
theorem dX12_spent_40 : decode cX12_spent 40 = .ok (.getfield 13, 3) := by decide +kernel
theorem dX12_spent_43 : decode cX12_spent 43 = .ok (.iload_n 3, 1) := by decide +kernel
theorem dX12_spent_44 : decode cX12_spent 44 = .ok (.iconst 2, 1) := by decide +kernel
theorem dX12_spent_45 : decode cX12_spent 45 = .ok (.invokestatic 46, 3) := by decide +kernel
theorem dX12_spent_48 : decode cX12_spent 48 = .ok (.iaload, 1) := by decide +kernel
theorem dX12_spent_49 : decode cX12_spent 49 = .ok (.if_icmp .le 6, 3) := by decide +kernel
theorem dX12_spent_52 : decode cX12_spent 52 = .ok (.iload 4, 2) := by decide +kernel
theorem dX12_spent_54 : decode cX12_spent 54 = .ok (.istore_n 3, 1) := by decide +kernel
theorem dX12_spent_55 : decode cX12_spent 55 = .ok (.iinc 4 1, 3) := by decide +kernel
theorem dX12_spent_58 : decode cX12_spent 58 = .ok (.goto (-36), 3) := by decide +kernel
theorem dX12_spent_61 : decode cX12_spent 61 = .ok (.iload_n 3, 1) := by decide +kernel
theorem dX12_spent_62 : decode cX12_spent 62 = .ok (.ireturn, 1) := by decide +kernel
theorem dX12_leastOf_0 : decode cX12_leastOf 0 = .ok (.iload_n 0, 1) := by decide +kernel
theorem dX12_leastOf_1 : decode cX12_leastOf 1 = .ok (.ifCond .ne 8, 3) := by decide +kernel
theorem dX12_leastOf_4 : decode cX12_leastOf 4 = .ok (.bipush (-128), 2) := by decide +kernel
theorem dX12_leastOf_6 : decode cX12_leastOf 6 = .ok (.goto 16, 3) := by decide +kernel
theorem dX12_leastOf_9 : decode cX12_leastOf 9 = .ok (.iload_n 0, 1) := by decide +kernel
theorem dX12_leastOf_10 : decode cX12_leastOf 10 = .ok (.iconst 1, 1) := by decide +kernel
theorem dX12_leastOf_11 : decode cX12_leastOf 11 = .ok (.if_icmp .ne 9, 3) := by decide +kernel
theorem dX12_leastOf_14 : decode cX12_leastOf 14 = .ok (.sipush (-32768), 3) := by decide +kernel
theorem dX12_leastOf_17 : decode cX12_leastOf 17 = .ok (.goto 5, 3) := by decide +kernel
theorem dX12_leastOf_20 : decode cX12_leastOf 20 = .ok (.ldc 216, 2) := by decide +kernel
theorem dX12_leastOf_22 : decode cX12_leastOf 22 = .ok (.ireturn, 1) := by decide +kernel
theorem dX12_isSkipped_0 : decode cX12_isSkipped 0 = .ok (.aload_n 0, 1) := by decide +kernel
theorem dX12_isSkipped_1 : decode cX12_isSkipped 1 = .ok (.getfield 43, 3) := by decide +kernel
theorem dX12_isSkipped_4 : decode cX12_isSkipped 4 = .ok (.bipush 100, 2) := by decide +kernel
theorem dX12_isSkipped_6 : decode cX12_isSkipped 6 = .ok (.iload_n 1, 1) := by decide +kernel
theorem dX12_isSkipped_7 : decode cX12_isSkipped 7 = .ok (.imul, 1) := by decide +kernel
theorem dX12_isSkipped_8 : decode cX12_isSkipped 8 = .ok (.iload_n 2, 1) := by decide +kernel
theorem dX12_isSkipped_9 : decode cX12_isSkipped 9 = .ok (.iadd, 1) := by decide +kernel
theorem dX12_isSkipped_10 : decode cX12_isSkipped 10 = .ok (.iaload, 1) := by decide +kernel
theorem dX12_isSkipped_11 : decode cX12_isSkipped 11 = .ok (.aload_n 0, 1) := by decide +kernel
theorem dX12_isSkipped_12 : decode cX12_isSkipped 12 = .ok (.getfield 37, 3) := by decide +kernel
theorem dX12_isSkipped_15 : decode cX12_isSkipped 15 = .ok (.iload_n 1, 1) := by decide +kernel
theorem dX12_isSkipped_16 : decode cX12_isSkipped 16 = .ok (.iaload, 1) := by decide +kernel
theorem dX12_isSkipped_17 : decode cX12_isSkipped 17 = .ok (.invokestatic 217, 3) := by decide +kernel
theorem dX12_isSkipped_20 : decode cX12_isSkipped 20 = .ok (.if_icmp .ne 7, 3) := by decide +kernel
theorem dX12_isSkipped_23 : decode cX12_isSkipped 23 = .ok (.iconst 1, 1) := by decide +kernel
theorem dX12_isSkipped_24 : decode cX12_isSkipped 24 = .ok (.goto 4, 3) := by decide +kernel
theorem dX12_isSkipped_27 : decode cX12_isSkipped 27 = .ok (.iconst 0, 1) := by decide +kernel
theorem dX12_isSkipped_28 : decode cX12_isSkipped 28 = .ok (.ireturn, 1) := by decide +kernel
theorem dX12_whatIs_0 : decode cX12_whatIs 0 = .ok (.aload_n 0, 1) := by decide +kernel
theorem dX12_whatIs_1 : decode cX12_whatIs 1 = .ok (.iload_n 2, 1) := by decide +kernel
theorem dX12_whatIs_2 : decode cX12_whatIs 2 = .ok (.invokevirtual 142, 3) := by decide +kernel
theorem dX12_whatIs_5 : decode cX12_whatIs 5 = .ok (.ifCond .eq 12, 3) := by decide +kernel
theorem dX12_whatIs_8 : decode cX12_whatIs 8 = .ok (.iload_n 3, 1) := by decide +kernel
theorem dX12_whatIs_9 : decode cX12_whatIs 9 = .ok (.iconst 0, 1) := by decide +kernel
theorem dX12_whatIs_10 : decode cX12_whatIs 10 = .ok (.iconst 1, 1) := by decide +kernel
theorem dX12_whatIs_11 : decode cX12_whatIs 11 = .ok (.invokestatic 53, 3) := by decide +kernel
theorem dX12_whatIs_14 : decode cX12_whatIs 14 = .ok (.ifCond .ne 5, 3) := by decide +kernel
theorem dX12_whatIs_17 : decode cX12_whatIs 17 = .ok (.iconst (-1), 1) := by decide +kernel
theorem dX12_whatIs_18 : decode cX12_whatIs 18 = .ok (.ireturn, 1) := by decide +kernel
theorem dX12_whatIs_19 : decode cX12_whatIs 19 = .ok (.aload_n 0, 1) := by decide +kernel
theorem dX12_whatIs_20 : decode cX12_whatIs 20 = .ok (.iload_n 1, 1) := by decide +kernel
theorem dX12_whatIs_21 : decode cX12_whatIs 21 = .ok (.iconst (-1), 1) := by decide +kernel
theorem dX12_whatIs_22 : decode cX12_whatIs 22 = .ok (.invokevirtual 152, 3) := by decide +kernel
theorem dX12_whatIs_25 : decode cX12_whatIs 25 = .ok (.istore 4, 2) := by decide +kernel
theorem dX12_whatIs_27 : decode cX12_whatIs 27 = .ok (.iload 4, 2) := by decide +kernel
theorem dX12_whatIs_29 : decode cX12_whatIs 29 = .ok (.ifCond .ne 18, 3) := by decide +kernel
theorem dX12_whatIs_32 : decode cX12_whatIs 32 = .ok (.aload_n 0, 1) := by decide +kernel
theorem dX12_whatIs_33 : decode cX12_whatIs 33 = .ok (.getfield 40, 3) := by decide +kernel
theorem dX12_whatIs_36 : decode cX12_whatIs 36 = .ok (.iload_n 1, 1) := by decide +kernel
theorem dX12_whatIs_37 : decode cX12_whatIs 37 = .ok (.iaload, 1) := by decide +kernel
theorem dX12_whatIs_38 : decode cX12_whatIs 38 = .ok (.bipush 9, 2) := by decide +kernel
theorem dX12_whatIs_40 : decode cX12_whatIs 40 = .ok (.if_icmp .le 7, 3) := by decide +kernel
theorem dX12_whatIs_43 : decode cX12_whatIs 43 = .ok (.bipush (-13), 2) := by decide +kernel
theorem dX12_whatIs_45 : decode cX12_whatIs 45 = .ok (.istore 4, 2) := by decide +kernel
theorem dX12_whatIs_47 : decode cX12_whatIs 47 = .ok (.iload 4, 2) := by decide +kernel
theorem dX12_whatIs_49 : decode cX12_whatIs 49 = .ok (.ifCond .eq 6, 3) := by decide +kernel
theorem dX12_whatIs_52 : decode cX12_whatIs 52 = .ok (.iload 4, 2) := by decide +kernel
theorem dX12_whatIs_54 : decode cX12_whatIs 54 = .ok (.ireturn, 1) := by decide +kernel
theorem dX12_whatIs_55 : decode cX12_whatIs 55 = .ok (.iconst 0, 1) := by decide +kernel
theorem dX12_whatIs_56 : decode cX12_whatIs 56 = .ok (.istore 5, 2) := by decide +kernel
theorem dX12_whatIs_58 : decode cX12_whatIs 58 = .ok (.iconst 0, 1) := by decide +kernel
theorem dX12_whatIs_59 : decode cX12_whatIs 59 = .ok (.istore 6, 2) := by decide +kernel
theorem dX12_whatIs_61 : decode cX12_whatIs 61 = .ok (.iload 6, 2) := by decide +kernel
theorem dX12_whatIs_63 : decode cX12_whatIs 63 = .ok (.iload_n 3, 1) := by decide +kernel
theorem dX12_whatIs_64 : decode cX12_whatIs 64 = .ok (.ifCond .ne 8, 3) := by decide +kernel
theorem dX12_whatIs_67 : decode cX12_whatIs 67 = .ok (.bipush 8, 2) := by decide +kernel
theorem dX12_whatIs_69 : decode cX12_whatIs 69 = .ok (.goto 4, 3) := by decide +kernel
theorem dX12_whatIs_72 : decode cX12_whatIs 72 = .ok (.iconst 3, 1) := by decide +kernel
theorem dX12_whatIs_73 : decode cX12_whatIs 73 = .ok (.if_icmp .ge 135, 3) := by decide +kernel
theorem dX12_whatIs_76 : decode cX12_whatIs 76 = .ok (.iconst 1, 1) := by decide +kernel
theorem dX12_whatIs_77 : decode cX12_whatIs 77 = .ok (.istore 7, 2) := by decide +kernel
theorem dX12_whatIs_79 : decode cX12_whatIs 79 = .ok (.aload_n 0, 1) := by decide +kernel
theorem dX12_whatIs_80 : decode cX12_whatIs 80 = .ok (.getfield 9, 3) := by decide +kernel
theorem dX12_whatIs_83 : decode cX12_whatIs 83 = .ok (.aload_n 0, 1) := by decide +kernel
theorem dX12_whatIs_84 : decode cX12_whatIs 84 = .ok (.getfield 13, 3) := by decide +kernel
theorem dX12_whatIs_87 : decode cX12_whatIs 87 = .ok (.invokestatic 158, 3) := by decide +kernel
theorem dX12_whatIs_90 : decode cX12_whatIs 90 = .ok (.iload_n 3, 1) := by decide +kernel
theorem dX12_whatIs_91 : decode cX12_whatIs 91 = .ok (.ifCond .ne 18, 3) := by decide +kernel
theorem dX12_whatIs_94 : decode cX12_whatIs 94 = .ok (.aload_n 0, 1) := by decide +kernel
theorem dX12_whatIs_95 : decode cX12_whatIs 95 = .ok (.getfield 13, 3) := by decide +kernel
theorem dX12_whatIs_98 : decode cX12_whatIs 98 = .ok (.iload_n 2, 1) := by decide +kernel
theorem dX12_whatIs_99 : decode cX12_whatIs 99 = .ok (.iconst 0, 1) := by decide +kernel
theorem dX12_whatIs_100 : decode cX12_whatIs 100 = .ok (.invokestatic 60, 3) := by decide +kernel
theorem dX12_whatIs_103 : decode cX12_whatIs 103 = .ok (.iload 6, 2) := by decide +kernel
theorem dX12_whatIs_105 : decode cX12_whatIs 105 = .ok (.iastore, 1) := by decide +kernel
theorem dX12_whatIs_106 : decode cX12_whatIs 106 = .ok (.goto 13, 3) := by decide +kernel
theorem dX12_whatIs_109 : decode cX12_whatIs 109 = .ok (.aload_n 0, 1) := by decide +kernel
theorem dX12_whatIs_110 : decode cX12_whatIs 110 = .ok (.getfield 13, 3) := by decide +kernel
theorem dX12_whatIs_113 : decode cX12_whatIs 113 = .ok (.iconst 3, 1) := by decide +kernel
theorem dX12_whatIs_114 : decode cX12_whatIs 114 = .ok (.iload 6, 2) := by decide +kernel
theorem dX12_whatIs_116 : decode cX12_whatIs 116 = .ok (.iconst 1, 1) := by decide +kernel
theorem dX12_whatIs_117 : decode cX12_whatIs 117 = .ok (.isub, 1) := by decide +kernel
theorem dX12_whatIs_118 : decode cX12_whatIs 118 = .ok (.iastore, 1) := by decide +kernel
theorem dX12_whatIs_119 : decode cX12_whatIs 119 = .ok (.iconst 0, 1) := by decide +kernel
theorem dX12_whatIs_120 : decode cX12_whatIs 120 = .ok (.istore 8, 2) := by decide +kernel
theorem dX12_whatIs_122 : decode cX12_whatIs 122 = .ok (.iload 8, 2) := by decide +kernel
theorem dX12_whatIs_124 : decode cX12_whatIs 124 = .ok (.aload_n 0, 1) := by decide +kernel
theorem dX12_whatIs_125 : decode cX12_whatIs 125 = .ok (.getfield 40, 3) := by decide +kernel
theorem dX12_whatIs_128 : decode cX12_whatIs 128 = .ok (.iload_n 1, 1) := by decide +kernel
theorem dX12_whatIs_129 : decode cX12_whatIs 129 = .ok (.iaload, 1) := by decide +kernel
theorem dX12_whatIs_130 : decode cX12_whatIs 130 = .ok (.if_icmp .ge 54, 3) := by decide +kernel
theorem dX12_whatIs_133 : decode cX12_whatIs 133 = .ok (.iload 7, 2) := by decide +kernel
theorem dX12_whatIs_135 : decode cX12_whatIs 135 = .ok (.aload_n 0, 1) := by decide +kernel
theorem dX12_whatIs_136 : decode cX12_whatIs 136 = .ok (.iload_n 1, 1) := by decide +kernel
theorem dX12_whatIs_137 : decode cX12_whatIs 137 = .ok (.iload 8, 2) := by decide +kernel
theorem dX12_whatIs_139 : decode cX12_whatIs 139 = .ok (.invokevirtual 220, 3) := by decide +kernel
theorem dX12_whatIs_142 : decode cX12_whatIs 142 = .ok (.ifCond .ne 28, 3) := by decide +kernel
theorem dX12_whatIs_145 : decode cX12_whatIs 145 = .ok (.aload_n 0, 1) := by decide +kernel
theorem dX12_whatIs_146 : decode cX12_whatIs 146 = .ok (.getfield 43, 3) := by decide +kernel
theorem dX12_whatIs_149 : decode cX12_whatIs 149 = .ok (.bipush 100, 2) := by decide +kernel
theorem dX12_whatIs_151 : decode cX12_whatIs 151 = .ok (.iload_n 1, 1) := by decide +kernel
theorem dX12_whatIs_152 : decode cX12_whatIs 152 = .ok (.imul, 1) := by decide +kernel
theorem dX12_whatIs_153 : decode cX12_whatIs 153 = .ok (.iload 8, 2) := by decide +kernel
theorem dX12_whatIs_155 : decode cX12_whatIs 155 = .ok (.iadd, 1) := by decide +kernel
theorem dX12_whatIs_156 : decode cX12_whatIs 156 = .ok (.iaload, 1) := by decide +kernel
theorem dX12_whatIs_157 : decode cX12_whatIs 157 = .ok (.aload_n 0, 1) := by decide +kernel
theorem dX12_whatIs_158 : decode cX12_whatIs 158 = .ok (.getfield 13, 3) := by decide +kernel
theorem dX12_whatIs_161 : decode cX12_whatIs 161 = .ok (.iload_n 2, 1) := by decide +kernel
theorem dX12_whatIs_162 : decode cX12_whatIs 162 = .ok (.iload 8, 2) := by decide +kernel
theorem dX12_whatIs_164 : decode cX12_whatIs 164 = .ok (.invokestatic 77, 3) := by decide +kernel
theorem dX12_whatIs_167 : decode cX12_whatIs 167 = .ok (.if_icmp .ne 7, 3) := by decide +kernel
theorem dX12_whatIs_170 : decode cX12_whatIs 170 = .ok (.iconst 1, 1) := by decide +kernel
theorem dX12_whatIs_171 : decode cX12_whatIs 171 = .ok (.goto 4, 3) := by decide +kernel
theorem dX12_whatIs_174 : decode cX12_whatIs 174 = .ok (.iconst 0, 1) := by decide +kernel
theorem dX12_whatIs_175 : decode cX12_whatIs 175 = .ok (.iand, 1) := by decide +kernel
theorem dX12_whatIs_176 : decode cX12_whatIs 176 = .ok (.istore 7, 2) := by decide +kernel
theorem dX12_whatIs_178 : decode cX12_whatIs 178 = .ok (.iinc 8 1, 3) := by decide +kernel
theorem dX12_whatIs_181 : decode cX12_whatIs 181 = .ok (.goto (-59), 3) := by decide +kernel
theorem dX12_whatIs_184 : decode cX12_whatIs 184 = .ok (.iload 5, 2) := by decide +kernel
theorem dX12_whatIs_186 : decode cX12_whatIs 186 = .ok (.iload 7, 2) := by decide +kernel
theorem dX12_whatIs_188 : decode cX12_whatIs 188 = .ok (.ifCond .eq 10, 3) := by decide +kernel
theorem dX12_whatIs_191 : decode cX12_whatIs 191 = .ok (.iconst 1, 1) := by decide +kernel
theorem dX12_whatIs_192 : decode cX12_whatIs 192 = .ok (.iload 6, 2) := by decide +kernel
theorem dX12_whatIs_194 : decode cX12_whatIs 194 = .ok (.ishl, 1) := by decide +kernel
theorem dX12_whatIs_195 : decode cX12_whatIs 195 = .ok (.goto 4, 3) := by decide +kernel
theorem dX12_whatIs_198 : decode cX12_whatIs 198 = .ok (.iconst 0, 1) := by decide +kernel
theorem dX12_whatIs_199 : decode cX12_whatIs 199 = .ok (.ior, 1) := by decide +kernel
theorem dX12_whatIs_200 : decode cX12_whatIs 200 = .ok (.istore 5, 2) := by decide +kernel
theorem dX12_whatIs_202 : decode cX12_whatIs 202 = .ok (.iinc 6 1, 3) := by decide +kernel
theorem dX12_whatIs_205 : decode cX12_whatIs 205 = .ok (.goto (-144), 3) := by decide +kernel
theorem dX12_whatIs_208 : decode cX12_whatIs 208 = .ok (.iload 5, 2) := by decide +kernel
theorem dX12_whatIs_210 : decode cX12_whatIs 210 = .ok (.ireturn, 1) := by decide +kernel
theorem dX12_habits_0 : decode cX12_habits 0 = .ok (.aload_n 0, 1) := by decide +kernel
theorem dX12_habits_1 : decode cX12_habits 1 = .ok (.iload_n 1, 1) := by decide +kernel
theorem dX12_habits_2 : decode cX12_habits 2 = .ok (.iconst (-1), 1) := by decide +kernel
theorem dX12_habits_3 : decode cX12_habits 3 = .ok (.invokevirtual 152, 3) := by decide +kernel
theorem dX12_habits_6 : decode cX12_habits 6 = .ok (.istore_n 2, 1) := by decide +kernel
theorem dX12_habits_7 : decode cX12_habits 7 = .ok (.iload_n 2, 1) := by decide +kernel
theorem dX12_habits_8 : decode cX12_habits 8 = .ok (.ifCond .ne 17, 3) := by decide +kernel
theorem dX12_habits_11 : decode cX12_habits 11 = .ok (.aload_n 0, 1) := by decide +kernel
theorem dX12_habits_12 : decode cX12_habits 12 = .ok (.getfield 40, 3) := by decide +kernel
theorem dX12_habits_15 : decode cX12_habits 15 = .ok (.iload_n 1, 1) := by decide +kernel
theorem dX12_habits_16 : decode cX12_habits 16 = .ok (.iaload, 1) := by decide +kernel
theorem dX12_habits_17 : decode cX12_habits 17 = .ok (.bipush 9, 2) := by decide +kernel
theorem dX12_habits_19 : decode cX12_habits 19 = .ok (.if_icmp .le 6, 3) := by decide +kernel
theorem dX12_habits_22 : decode cX12_habits 22 = .ok (.bipush (-13), 2) := by decide +kernel
theorem dX12_habits_24 : decode cX12_habits 24 = .ok (.istore_n 2, 1) := by decide +kernel
theorem dX12_habits_25 : decode cX12_habits 25 = .ok (.iload_n 2, 1) := by decide +kernel
theorem dX12_habits_26 : decode cX12_habits 26 = .ok (.ifCond .ne 15, 3) := by decide +kernel
theorem dX12_habits_29 : decode cX12_habits 29 = .ok (.aload_n 0, 1) := by decide +kernel
theorem dX12_habits_30 : decode cX12_habits 30 = .ok (.getfield 9, 3) := by decide +kernel
theorem dX12_habits_33 : decode cX12_habits 33 = .ok (.iconst 0, 1) := by decide +kernel
theorem dX12_habits_34 : decode cX12_habits 34 = .ok (.iaload, 1) := by decide +kernel
theorem dX12_habits_35 : decode cX12_habits 35 = .ok (.ifCond .ne 6, 3) := by decide +kernel
theorem dX12_habits_38 : decode cX12_habits 38 = .ok (.bipush (-3), 2) := by decide +kernel
theorem dX12_habits_40 : decode cX12_habits 40 = .ok (.istore_n 2, 1) := by decide +kernel
theorem dX12_habits_41 : decode cX12_habits 41 = .ok (.iload_n 2, 1) := by decide +kernel
theorem dX12_habits_42 : decode cX12_habits 42 = .ok (.ifCond .eq 5, 3) := by decide +kernel
theorem dX12_habits_45 : decode cX12_habits 45 = .ok (.iload_n 2, 1) := by decide +kernel
theorem dX12_habits_46 : decode cX12_habits 46 = .ok (.ireturn, 1) := by decide +kernel
theorem dX12_habits_47 : decode cX12_habits 47 = .ok (.iconst 0, 1) := by decide +kernel
theorem dX12_habits_48 : decode cX12_habits 48 = .ok (.istore_n 3, 1) := by decide +kernel
theorem dX12_habits_49 : decode cX12_habits 49 = .ok (.iconst 0, 1) := by decide +kernel
theorem dX12_habits_50 : decode cX12_habits 50 = .ok (.istore 4, 2) := by decide +kernel
theorem dX12_habits_52 : decode cX12_habits 52 = .ok (.iload 4, 2) := by decide +kernel
theorem dX12_habits_54 : decode cX12_habits 54 = .ok (.iconst 4, 1) := by decide +kernel
theorem dX12_habits_55 : decode cX12_habits 55 = .ok (.if_icmp .ge 130, 3) := by decide +kernel
theorem dX12_habits_58 : decode cX12_habits 58 = .ok (.iconst 1, 1) := by decide +kernel
theorem dX12_habits_59 : decode cX12_habits 59 = .ok (.istore 5, 2) := by decide +kernel
theorem dX12_habits_61 : decode cX12_habits 61 = .ok (.aload_n 0, 1) := by decide +kernel
theorem dX12_habits_62 : decode cX12_habits 62 = .ok (.getfield 9, 3) := by decide +kernel
theorem dX12_habits_65 : decode cX12_habits 65 = .ok (.aload_n 0, 1) := by decide +kernel
theorem dX12_habits_66 : decode cX12_habits 66 = .ok (.getfield 13, 3) := by decide +kernel
theorem dX12_habits_69 : decode cX12_habits 69 = .ok (.invokestatic 158, 3) := by decide +kernel
theorem dX12_habits_72 : decode cX12_habits 72 = .ok (.aload_n 0, 1) := by decide +kernel
theorem dX12_habits_73 : decode cX12_habits 73 = .ok (.getfield 13, 3) := by decide +kernel
theorem dX12_habits_76 : decode cX12_habits 76 = .ok (.aload_n 0, 1) := by decide +kernel
theorem dX12_habits_77 : decode cX12_habits 77 = .ok (.invokevirtual 171, 3) := by decide +kernel
theorem dX12_habits_80 : decode cX12_habits 80 = .ok (.iconst 1, 1) := by decide +kernel
theorem dX12_habits_81 : decode cX12_habits 81 = .ok (.invokestatic 50, 3) := by decide +kernel
theorem dX12_habits_84 : decode cX12_habits 84 = .ok (.iload 4, 2) := by decide +kernel
theorem dX12_habits_86 : decode cX12_habits 86 = .ok (.iastore, 1) := by decide +kernel
theorem dX12_habits_87 : decode cX12_habits 87 = .ok (.iconst 0, 1) := by decide +kernel
theorem dX12_habits_88 : decode cX12_habits 88 = .ok (.istore 6, 2) := by decide +kernel
theorem dX12_habits_90 : decode cX12_habits 90 = .ok (.iload 6, 2) := by decide +kernel
theorem dX12_habits_92 : decode cX12_habits 92 = .ok (.aload_n 0, 1) := by decide +kernel
theorem dX12_habits_93 : decode cX12_habits 93 = .ok (.getfield 40, 3) := by decide +kernel
theorem dX12_habits_96 : decode cX12_habits 96 = .ok (.iload_n 1, 1) := by decide +kernel
theorem dX12_habits_97 : decode cX12_habits 97 = .ok (.iaload, 1) := by decide +kernel
theorem dX12_habits_98 : decode cX12_habits 98 = .ok (.if_icmp .ge 65, 3) := by decide +kernel
theorem dX12_habits_101 : decode cX12_habits 101 = .ok (.iload 5, 2) := by decide +kernel
theorem dX12_habits_103 : decode cX12_habits 103 = .ok (.aload_n 0, 1) := by decide +kernel
theorem dX12_habits_104 : decode cX12_habits 104 = .ok (.iload_n 1, 1) := by decide +kernel
theorem dX12_habits_105 : decode cX12_habits 105 = .ok (.iload 6, 2) := by decide +kernel
theorem dX12_habits_107 : decode cX12_habits 107 = .ok (.invokevirtual 220, 3) := by decide +kernel
theorem dX12_habits_110 : decode cX12_habits 110 = .ok (.ifCond .ne 39, 3) := by decide +kernel
theorem dX12_habits_113 : decode cX12_habits 113 = .ok (.aload_n 0, 1) := by decide +kernel
theorem dX12_habits_114 : decode cX12_habits 114 = .ok (.getfield 43, 3) := by decide +kernel
theorem dX12_habits_117 : decode cX12_habits 117 = .ok (.bipush 100, 2) := by decide +kernel
theorem dX12_habits_119 : decode cX12_habits 119 = .ok (.iload_n 1, 1) := by decide +kernel
theorem dX12_habits_120 : decode cX12_habits 120 = .ok (.imul, 1) := by decide +kernel
theorem dX12_habits_121 : decode cX12_habits 121 = .ok (.iload 6, 2) := by decide +kernel
theorem dX12_habits_123 : decode cX12_habits 123 = .ok (.iadd, 1) := by decide +kernel
theorem dX12_habits_124 : decode cX12_habits 124 = .ok (.iaload, 1) := by decide +kernel
theorem dX12_habits_125 : decode cX12_habits 125 = .ok (.aload_n 0, 1) := by decide +kernel
theorem dX12_habits_126 : decode cX12_habits 126 = .ok (.getfield 13, 3) := by decide +kernel
theorem dX12_habits_129 : decode cX12_habits 129 = .ok (.aload_n 0, 1) := by decide +kernel
theorem dX12_habits_130 : decode cX12_habits 130 = .ok (.invokevirtual 171, 3) := by decide +kernel
theorem dX12_habits_133 : decode cX12_habits 133 = .ok (.aload_n 0, 1) := by decide +kernel
theorem dX12_habits_134 : decode cX12_habits 134 = .ok (.getfield 13, 3) := by decide +kernel
theorem dX12_habits_137 : decode cX12_habits 137 = .ok (.iconst 0, 1) := by decide +kernel
theorem dX12_habits_138 : decode cX12_habits 138 = .ok (.iload 6, 2) := by decide +kernel
theorem dX12_habits_140 : decode cX12_habits 140 = .ok (.invokestatic 77, 3) := by decide +kernel
theorem dX12_habits_143 : decode cX12_habits 143 = .ok (.invokestatic 84, 3) := by decide +kernel
theorem dX12_habits_146 : decode cX12_habits 146 = .ok (.if_icmp .ne 7, 3) := by decide +kernel
theorem dX12_habits_149 : decode cX12_habits 149 = .ok (.iconst 1, 1) := by decide +kernel
theorem dX12_habits_150 : decode cX12_habits 150 = .ok (.goto 4, 3) := by decide +kernel
theorem dX12_habits_153 : decode cX12_habits 153 = .ok (.iconst 0, 1) := by decide +kernel
theorem dX12_habits_154 : decode cX12_habits 154 = .ok (.iand, 1) := by decide +kernel
theorem dX12_habits_155 : decode cX12_habits 155 = .ok (.istore 5, 2) := by decide +kernel
theorem dX12_habits_157 : decode cX12_habits 157 = .ok (.iinc 6 1, 3) := by decide +kernel
theorem dX12_habits_160 : decode cX12_habits 160 = .ok (.goto (-70), 3) := by decide +kernel
theorem dX12_habits_163 : decode cX12_habits 163 = .ok (.iload_n 3, 1) := by decide +kernel
theorem dX12_habits_164 : decode cX12_habits 164 = .ok (.iload 5, 2) := by decide +kernel
theorem dX12_habits_166 : decode cX12_habits 166 = .ok (.ifCond .eq 10, 3) := by decide +kernel
theorem dX12_habits_169 : decode cX12_habits 169 = .ok (.iconst 1, 1) := by decide +kernel
theorem dX12_habits_170 : decode cX12_habits 170 = .ok (.iload 4, 2) := by decide +kernel
theorem dX12_habits_172 : decode cX12_habits 172 = .ok (.ishl, 1) := by decide +kernel
theorem dX12_habits_173 : decode cX12_habits 173 = .ok (.goto 4, 3) := by decide +kernel
theorem dX12_habits_176 : decode cX12_habits 176 = .ok (.iconst 0, 1) := by decide +kernel
theorem dX12_habits_177 : decode cX12_habits 177 = .ok (.ior, 1) := by decide +kernel
theorem dX12_habits_178 : decode cX12_habits 178 = .ok (.istore_n 3, 1) := by decide +kernel
theorem dX12_habits_179 : decode cX12_habits 179 = .ok (.iinc 4 1, 3) := by decide +kernel
theorem dX12_habits_182 : decode cX12_habits 182 = .ok (.goto (-130), 3) := by decide +kernel
theorem dX12_habits_185 : decode cX12_habits 185 = .ok (.iload_n 3, 1) := by decide +kernel
theorem dX12_habits_186 : decode cX12_habits 186 = .ok (.ireturn, 1) := by decide +kernel
theorem dX12_costBy2_0 : decode cX12_costBy2 0 = .ok (.aload_n 0, 1) := by decide +kernel
theorem dX12_costBy2_1 : decode cX12_costBy2 1 = .ok (.getfield 9, 3) := by decide +kernel
theorem dX12_costBy2_4 : decode cX12_costBy2 4 = .ok (.aload_n 0, 1) := by decide +kernel
theorem dX12_costBy2_5 : decode cX12_costBy2 5 = .ok (.getfield 13, 3) := by decide +kernel
theorem dX12_costBy2_8 : decode cX12_costBy2 8 = .ok (.invokestatic 158, 3) := by decide +kernel
theorem dX12_costBy2_11 : decode cX12_costBy2 11 = .ok (.aload_n 0, 1) := by decide +kernel
theorem dX12_costBy2_12 : decode cX12_costBy2 12 = .ok (.getfield 13, 3) := by decide +kernel
theorem dX12_costBy2_15 : decode cX12_costBy2 15 = .ok (.iconst 0, 1) := by decide +kernel
theorem dX12_costBy2_16 : decode cX12_costBy2 16 = .ok (.iconst 0, 1) := by decide +kernel
theorem dX12_costBy2_17 : decode cX12_costBy2 17 = .ok (.invokestatic 50, 3) := by decide +kernel
theorem dX12_costBy2_20 : decode cX12_costBy2 20 = .ok (.iload_n 2, 1) := by decide +kernel
theorem dX12_costBy2_21 : decode cX12_costBy2 21 = .ok (.iastore, 1) := by decide +kernel
theorem dX12_costBy2_22 : decode cX12_costBy2 22 = .ok (.aload_n 0, 1) := by decide +kernel
theorem dX12_costBy2_23 : decode cX12_costBy2 23 = .ok (.getfield 13, 3) := by decide +kernel
theorem dX12_costBy2_26 : decode cX12_costBy2 26 = .ok (.iconst 1, 1) := by decide +kernel
theorem dX12_costBy2_27 : decode cX12_costBy2 27 = .ok (.iconst 0, 1) := by decide +kernel
theorem dX12_costBy2_28 : decode cX12_costBy2 28 = .ok (.invokestatic 50, 3) := by decide +kernel
theorem dX12_costBy2_31 : decode cX12_costBy2 31 = .ok (.iload_n 3, 1) := by decide +kernel
theorem dX12_costBy2_32 : decode cX12_costBy2 32 = .ok (.iastore, 1) := by decide +kernel
theorem dX12_costBy2_33 : decode cX12_costBy2 33 = .ok (.iconst 2, 1) := by decide +kernel
theorem dX12_costBy2_34 : decode cX12_costBy2 34 = .ok (.istore 4, 2) := by decide +kernel
theorem dX12_costBy2_36 : decode cX12_costBy2 36 = .ok (.iconst 0, 1) := by decide +kernel
theorem dX12_costBy2_37 : decode cX12_costBy2 37 = .ok (.istore 5, 2) := by decide +kernel
theorem dX12_costBy2_39 : decode cX12_costBy2 39 = .ok (.iload 5, 2) := by decide +kernel
theorem dX12_costBy2_41 : decode cX12_costBy2 41 = .ok (.bipush 6, 2) := by decide +kernel
theorem dX12_costBy2_43 : decode cX12_costBy2 43 = .ok (.if_icmp .ge 55, 3) := by decide +kernel
theorem dX12_costBy2_46 : decode cX12_costBy2 46 = .ok (.iload 4, 2) := by decide +kernel
theorem dX12_costBy2_48 : decode cX12_costBy2 48 = .ok (.iconst 2, 1) := by decide +kernel
theorem dX12_costBy2_49 : decode cX12_costBy2 49 = .ok (.if_icmp .ne 49, 3) := by decide +kernel
theorem dX12_costBy2_52 : decode cX12_costBy2 52 = .ok (.aload_n 0, 1) := by decide +kernel
theorem dX12_costBy2_53 : decode cX12_costBy2 53 = .ok (.getfield 13, 3) := by decide +kernel
theorem dX12_costBy2_56 : decode cX12_costBy2 56 = .ok (.iconst 2, 1) := by decide +kernel
theorem dX12_costBy2_57 : decode cX12_costBy2 57 = .ok (.iaload, 1) := by decide +kernel
theorem dX12_costBy2_58 : decode cX12_costBy2 58 = .ok (.invokestatic 73, 3) := by decide +kernel
theorem dX12_costBy2_61 : decode cX12_costBy2 61 = .ok (.istore 6, 2) := by decide +kernel
theorem dX12_costBy2_63 : decode cX12_costBy2 63 = .ok (.aload_n 0, 1) := by decide +kernel
theorem dX12_costBy2_64 : decode cX12_costBy2 64 = .ok (.aload_n 0, 1) := by decide +kernel
theorem dX12_costBy2_65 : decode cX12_costBy2 65 = .ok (.getfield 13, 3) := by decide +kernel
theorem dX12_costBy2_68 : decode cX12_costBy2 68 = .ok (.iconst 0, 1) := by decide +kernel
theorem dX12_costBy2_69 : decode cX12_costBy2 69 = .ok (.iload 5, 2) := by decide +kernel
theorem dX12_costBy2_71 : decode cX12_costBy2 71 = .ok (.iconst 2, 1) := by decide +kernel
theorem dX12_costBy2_72 : decode cX12_costBy2 72 = .ok (.irem, 1) := by decide +kernel
theorem dX12_costBy2_73 : decode cX12_costBy2 73 = .ok (.ifCond .ne 7, 3) := by decide +kernel
theorem dX12_costBy2_76 : decode cX12_costBy2 76 = .ok (.iconst 0, 1) := by decide +kernel
theorem dX12_costBy2_77 : decode cX12_costBy2 77 = .ok (.goto 5, 3) := by decide +kernel
theorem dX12_costBy2_80 : decode cX12_costBy2 80 = .ok (.bipush 8, 2) := by decide +kernel
theorem dX12_costBy2_82 : decode cX12_costBy2 82 = .ok (.invokevirtual 149, 3) := by decide +kernel
theorem dX12_costBy2_85 : decode cX12_costBy2 85 = .ok (.ifCond .eq 7, 3) := by decide +kernel
theorem dX12_costBy2_88 : decode cX12_costBy2 88 = .ok (.iload 6, 2) := by decide +kernel
theorem dX12_costBy2_90 : decode cX12_costBy2 90 = .ok (.istore 4, 2) := by decide +kernel
theorem dX12_costBy2_92 : decode cX12_costBy2 92 = .ok (.iinc 5 1, 3) := by decide +kernel
theorem dX12_costBy2_95 : decode cX12_costBy2 95 = .ok (.goto (-56), 3) := by decide +kernel
theorem dX12_costBy2_98 : decode cX12_costBy2 98 = .ok (.aload_n 0, 1) := by decide +kernel
theorem dX12_costBy2_99 : decode cX12_costBy2 99 = .ok (.getfield 13, 3) := by decide +kernel
theorem dX12_costBy2_102 : decode cX12_costBy2 102 = .ok (.iconst 2, 1) := by decide +kernel
theorem dX12_costBy2_103 : decode cX12_costBy2 103 = .ok (.iload_n 1, 1) := by decide +kernel
theorem dX12_costBy2_104 : decode cX12_costBy2 104 = .ok (.imul, 1) := by decide +kernel
theorem dX12_costBy2_105 : decode cX12_costBy2 105 = .ok (.iconst 2, 1) := by decide +kernel
theorem dX12_costBy2_106 : decode cX12_costBy2 106 = .ok (.invokestatic 46, 3) := by decide +kernel
theorem dX12_costBy2_109 : decode cX12_costBy2 109 = .ok (.iaload, 1) := by decide +kernel
theorem dX12_costBy2_110 : decode cX12_costBy2 110 = .ok (.aload_n 0, 1) := by decide +kernel
theorem dX12_costBy2_111 : decode cX12_costBy2 111 = .ok (.getfield 13, 3) := by decide +kernel
theorem dX12_costBy2_114 : decode cX12_costBy2 114 = .ok (.iconst 2, 1) := by decide +kernel
theorem dX12_costBy2_115 : decode cX12_costBy2 115 = .ok (.iload_n 1, 1) := by decide +kernel
theorem dX12_costBy2_116 : decode cX12_costBy2 116 = .ok (.imul, 1) := by decide +kernel
theorem dX12_costBy2_117 : decode cX12_costBy2 117 = .ok (.iconst 1, 1) := by decide +kernel
theorem dX12_costBy2_118 : decode cX12_costBy2 118 = .ok (.iadd, 1) := by decide +kernel
theorem dX12_costBy2_119 : decode cX12_costBy2 119 = .ok (.iconst 2, 1) := by decide +kernel
theorem dX12_costBy2_120 : decode cX12_costBy2 120 = .ok (.invokestatic 46, 3) := by decide +kernel
theorem dX12_costBy2_123 : decode cX12_costBy2 123 = .ok (.iaload, 1) := by decide +kernel
theorem dX12_costBy2_124 : decode cX12_costBy2 124 = .ok (.iadd, 1) := by decide +kernel
theorem dX12_costBy2_125 : decode cX12_costBy2 125 = .ok (.iload 4, 2) := by decide +kernel
theorem dX12_costBy2_127 : decode cX12_costBy2 127 = .ok (.iload_n 1, 1) := by decide +kernel
theorem dX12_costBy2_128 : decode cX12_costBy2 128 = .ok (.if_icmp .ne 8, 3) := by decide +kernel
theorem dX12_costBy2_131 : decode cX12_costBy2 131 = .ok (.bipush 9, 2) := by decide +kernel
theorem dX12_costBy2_133 : decode cX12_costBy2 133 = .ok (.goto 4, 3) := by decide +kernel
theorem dX12_costBy2_136 : decode cX12_costBy2 136 = .ok (.iconst 0, 1) := by decide +kernel
theorem dX12_costBy2_137 : decode cX12_costBy2 137 = .ok (.isub, 1) := by decide +kernel
theorem dX12_costBy2_138 : decode cX12_costBy2 138 = .ok (.ireturn, 1) := by decide +kernel
theorem dX12_two_0 : decode cX12_two 0 = .ok (.aload_n 0, 1) := by decide +kernel
theorem dX12_two_1 : decode cX12_two 1 = .ok (.getfield 9, 3) := by decide +kernel
theorem dX12_two_4 : decode cX12_two 4 = .ok (.iconst 0, 1) := by decide +kernel
theorem dX12_two_5 : decode cX12_two 5 = .ok (.iaload, 1) := by decide +kernel
theorem dX12_two_6 : decode cX12_two 6 = .ok (.ifCond .ne 6, 3) := by decide +kernel
theorem dX12_two_9 : decode cX12_two 9 = .ok (.bipush (-3), 2) := by decide +kernel
theorem dX12_two_11 : decode cX12_two 11 = .ok (.ireturn, 1) := by decide +kernel
theorem dX12_two_12 : decode cX12_two 12 = .ok (.iconst 0, 1) := by decide +kernel
theorem dX12_two_13 : decode cX12_two 13 = .ok (.istore_n 1, 1) := by decide +kernel
theorem dX12_two_14 : decode cX12_two 14 = .ok (.iload_n 1, 1) := by decide +kernel
theorem dX12_two_15 : decode cX12_two 15 = .ok (.iconst 4, 1) := by decide +kernel
theorem dX12_two_16 : decode cX12_two 16 = .ok (.if_icmp .ge 62, 3) := by decide +kernel
theorem dX12_two_19 : decode cX12_two 19 = .ok (.iload_n 1, 1) := by decide +kernel
theorem dX12_two_20 : decode cX12_two 20 = .ok (.iconst 2, 1) := by decide +kernel
theorem dX12_two_21 : decode cX12_two 21 = .ok (.idiv, 1) := by decide +kernel
theorem dX12_two_22 : decode cX12_two 22 = .ok (.istore_n 2, 1) := by decide +kernel
theorem dX12_two_23 : decode cX12_two 23 = .ok (.iload_n 1, 1) := by decide +kernel
theorem dX12_two_24 : decode cX12_two 24 = .ok (.iconst 2, 1) := by decide +kernel
theorem dX12_two_25 : decode cX12_two 25 = .ok (.irem, 1) := by decide +kernel
theorem dX12_two_26 : decode cX12_two 26 = .ok (.istore_n 3, 1) := by decide +kernel
theorem dX12_two_27 : decode cX12_two 27 = .ok (.aload_n 0, 1) := by decide +kernel
theorem dX12_two_28 : decode cX12_two 28 = .ok (.iconst 0, 1) := by decide +kernel
theorem dX12_two_29 : decode cX12_two 29 = .ok (.iconst 1, 1) := by decide +kernel
theorem dX12_two_30 : decode cX12_two 30 = .ok (.iload_n 2, 1) := by decide +kernel
theorem dX12_two_31 : decode cX12_two 31 = .ok (.isub, 1) := by decide +kernel
theorem dX12_two_32 : decode cX12_two 32 = .ok (.iload_n 3, 1) := by decide +kernel
theorem dX12_two_33 : decode cX12_two 33 = .ok (.invokevirtual 223, 3) := by decide +kernel
theorem dX12_two_36 : decode cX12_two 36 = .ok (.aload_n 0, 1) := by decide +kernel
theorem dX12_two_37 : decode cX12_two 37 = .ok (.iconst 0, 1) := by decide +kernel
theorem dX12_two_38 : decode cX12_two 38 = .ok (.iload_n 2, 1) := by decide +kernel
theorem dX12_two_39 : decode cX12_two 39 = .ok (.iload_n 3, 1) := by decide +kernel
theorem dX12_two_40 : decode cX12_two 40 = .ok (.invokevirtual 223, 3) := by decide +kernel
theorem dX12_two_43 : decode cX12_two 43 = .ok (.if_icmp .lt 29, 3) := by decide +kernel
theorem dX12_two_46 : decode cX12_two 46 = .ok (.aload_n 0, 1) := by decide +kernel
theorem dX12_two_47 : decode cX12_two 47 = .ok (.iconst 1, 1) := by decide +kernel
theorem dX12_two_48 : decode cX12_two 48 = .ok (.iload_n 2, 1) := by decide +kernel
theorem dX12_two_49 : decode cX12_two 49 = .ok (.iconst 1, 1) := by decide +kernel
theorem dX12_two_50 : decode cX12_two 50 = .ok (.iload_n 3, 1) := by decide +kernel
theorem dX12_two_51 : decode cX12_two 51 = .ok (.isub, 1) := by decide +kernel
theorem dX12_two_52 : decode cX12_two 52 = .ok (.invokevirtual 223, 3) := by decide +kernel
theorem dX12_two_55 : decode cX12_two 55 = .ok (.aload_n 0, 1) := by decide +kernel
theorem dX12_two_56 : decode cX12_two 56 = .ok (.iconst 1, 1) := by decide +kernel
theorem dX12_two_57 : decode cX12_two 57 = .ok (.iload_n 2, 1) := by decide +kernel
theorem dX12_two_58 : decode cX12_two 58 = .ok (.iload_n 3, 1) := by decide +kernel
theorem dX12_two_59 : decode cX12_two 59 = .ok (.invokevirtual 223, 3) := by decide +kernel
theorem dX12_two_62 : decode cX12_two 62 = .ok (.if_icmp .lt 10, 3) := by decide +kernel
theorem dX12_two_65 : decode cX12_two 65 = .ok (.bipush 10, 2) := by decide +kernel
theorem dX12_two_67 : decode cX12_two 67 = .ok (.iload_n 2, 1) := by decide +kernel
theorem dX12_two_68 : decode cX12_two 68 = .ok (.imul, 1) := by decide +kernel
theorem dX12_two_69 : decode cX12_two 69 = .ok (.iload_n 3, 1) := by decide +kernel
theorem dX12_two_70 : decode cX12_two 70 = .ok (.iadd, 1) := by decide +kernel
theorem dX12_two_71 : decode cX12_two 71 = .ok (.ireturn, 1) := by decide +kernel
theorem dX12_two_72 : decode cX12_two 72 = .ok (.iinc 1 1, 3) := by decide +kernel
theorem dX12_two_75 : decode cX12_two 75 = .ok (.goto (-61), 3) := by decide +kernel
theorem dX12_two_78 : decode cX12_two 78 = .ok (.bipush (-4), 2) := by decide +kernel
theorem dX12_two_80 : decode cX12_two 80 = .ok (.ireturn, 1) := by decide +kernel
theorem dX12_gcd_0 : decode cX12_gcd 0 = .ok (.lload_n 0, 1) := by decide +kernel
theorem dX12_gcd_1 : decode cX12_gcd 1 = .ok (.lstore 4, 2) := by decide +kernel
theorem dX12_gcd_3 : decode cX12_gcd 3 = .ok (.lload_n 2, 1) := by decide +kernel
theorem dX12_gcd_4 : decode cX12_gcd 4 = .ok (.lstore 6, 2) := by decide +kernel
theorem dX12_gcd_6 : decode cX12_gcd 6 = .ok (.lload 6, 2) := by decide +kernel
theorem dX12_gcd_8 : decode cX12_gcd 8 = .ok (.lconst 0, 1) := by decide +kernel
theorem dX12_gcd_9 : decode cX12_gcd 9 = .ok (.lcmp, 1) := by decide +kernel
theorem dX12_gcd_10 : decode cX12_gcd 10 = .ok (.ifCond .eq 21, 3) := by decide +kernel
theorem dX12_gcd_13 : decode cX12_gcd 13 = .ok (.lload 4, 2) := by decide +kernel
theorem dX12_gcd_15 : decode cX12_gcd 15 = .ok (.lload 6, 2) := by decide +kernel
theorem dX12_gcd_17 : decode cX12_gcd 17 = .ok (.lrem, 1) := by decide +kernel
theorem dX12_gcd_18 : decode cX12_gcd 18 = .ok (.lstore 8, 2) := by decide +kernel
theorem dX12_gcd_20 : decode cX12_gcd 20 = .ok (.lload 6, 2) := by decide +kernel
theorem dX12_gcd_22 : decode cX12_gcd 22 = .ok (.lstore 4, 2) := by decide +kernel
theorem dX12_gcd_24 : decode cX12_gcd 24 = .ok (.lload 8, 2) := by decide +kernel
theorem dX12_gcd_26 : decode cX12_gcd 26 = .ok (.lstore 6, 2) := by decide +kernel
theorem dX12_gcd_28 : decode cX12_gcd 28 = .ok (.goto (-22), 3) := by decide +kernel
theorem dX12_gcd_31 : decode cX12_gcd 31 = .ok (.lload 4, 2) := by decide +kernel
theorem dX12_gcd_33 : decode cX12_gcd 33 = .ok (.lreturn, 1) := by decide +kernel
theorem dX12_partOf_0 : decode cX12_partOf 0 = .ok (.lload_n 0, 1) := by decide +kernel
theorem dX12_partOf_1 : decode cX12_partOf 1 = .ok (.lconst 0, 1) := by decide +kernel
theorem dX12_partOf_2 : decode cX12_partOf 2 = .ok (.lcmp, 1) := by decide +kernel
theorem dX12_partOf_3 : decode cX12_partOf 3 = .ok (.ifCond .ne 7, 3) := by decide +kernel
theorem dX12_partOf_6 : decode cX12_partOf 6 = .ok (.iload 4, 2) := by decide +kernel
theorem dX12_partOf_8 : decode cX12_partOf 8 = .ok (.i2l, 1) := by decide +kernel
theorem dX12_partOf_9 : decode cX12_partOf 9 = .ok (.lreturn, 1) := by decide +kernel
theorem dX12_partOf_10 : decode cX12_partOf 10 = .ok (.iload 4, 2) := by decide +kernel
theorem dX12_partOf_12 : decode cX12_partOf 12 = .ok (.ifCond .ne 7, 3) := by decide +kernel
theorem dX12_partOf_15 : decode cX12_partOf 15 = .ok (.lload_n 0, 1) := by decide +kernel
theorem dX12_partOf_16 : decode cX12_partOf 16 = .ok (.goto 4, 3) := by decide +kernel
theorem dX12_partOf_19 : decode cX12_partOf 19 = .ok (.lload_n 2, 1) := by decide +kernel
theorem dX12_partOf_20 : decode cX12_partOf 20 = .ok (.lload_n 0, 1) := by decide +kernel
theorem dX12_partOf_21 : decode cX12_partOf 21 = .ok (.lload_n 2, 1) := by decide +kernel
theorem dX12_partOf_22 : decode cX12_partOf 22 = .ok (.invokestatic 226, 3) := by decide +kernel
theorem dX12_partOf_25 : decode cX12_partOf 25 = .ok (.ldiv, 1) := by decide +kernel
theorem dX12_partOf_26 : decode cX12_partOf 26 = .ok (.lreturn, 1) := by decide +kernel
theorem dX12_isPointless_0 : decode cX12_isPointless 0 = .ok (.aload_n 0, 1) := by decide +kernel
theorem dX12_isPointless_1 : decode cX12_isPointless 1 = .ok (.getfield 9, 3) := by decide +kernel
theorem dX12_isPointless_4 : decode cX12_isPointless 4 = .ok (.aload_n 0, 1) := by decide +kernel
theorem dX12_isPointless_5 : decode cX12_isPointless 5 = .ok (.getfield 13, 3) := by decide +kernel
theorem dX12_isPointless_8 : decode cX12_isPointless 8 = .ok (.invokestatic 158, 3) := by decide +kernel
theorem dX12_isPointless_11 : decode cX12_isPointless 11 = .ok (.iconst 0, 1) := by decide +kernel
theorem dX12_isPointless_12 : decode cX12_isPointless 12 = .ok (.istore_n 3, 1) := by decide +kernel
theorem dX12_isPointless_13 : decode cX12_isPointless 13 = .ok (.iload_n 3, 1) := by decide +kernel
theorem dX12_isPointless_14 : decode cX12_isPointless 14 = .ok (.iload_n 1, 1) := by decide +kernel
theorem dX12_isPointless_15 : decode cX12_isPointless 15 = .ok (.if_icmp .ge 48, 3) := by decide +kernel
theorem dX12_isPointless_18 : decode cX12_isPointless 18 = .ok (.aload_n 0, 1) := by decide +kernel
theorem dX12_isPointless_19 : decode cX12_isPointless 19 = .ok (.getfield 13, 3) := by decide +kernel
theorem dX12_isPointless_22 : decode cX12_isPointless 22 = .ok (.iconst 3, 1) := by decide +kernel
theorem dX12_isPointless_23 : decode cX12_isPointless 23 = .ok (.iload_n 2, 1) := by decide +kernel
theorem dX12_isPointless_24 : decode cX12_isPointless 24 = .ok (.iload_n 3, 1) := by decide +kernel
theorem dX12_isPointless_25 : decode cX12_isPointless 25 = .ok (.invokestatic 230, 3) := by decide +kernel
theorem dX12_isPointless_28 : decode cX12_isPointless 28 = .ok (.ifCond .eq 7, 3) := by decide +kernel
theorem dX12_isPointless_31 : decode cX12_isPointless 31 = .ok (.iconst 1, 1) := by decide +kernel
theorem dX12_isPointless_32 : decode cX12_isPointless 32 = .ok (.goto 9, 3) := by decide +kernel
theorem dX12_isPointless_35 : decode cX12_isPointless 35 = .ok (.aload_n 0, 1) := by decide +kernel
theorem dX12_isPointless_36 : decode cX12_isPointless 36 = .ok (.getfield 9, 3) := by decide +kernel
theorem dX12_isPointless_39 : decode cX12_isPointless 39 = .ok (.iconst 3, 1) := by decide +kernel
theorem dX12_isPointless_40 : decode cX12_isPointless 40 = .ok (.iaload, 1) := by decide +kernel
theorem dX12_isPointless_41 : decode cX12_isPointless 41 = .ok (.iastore, 1) := by decide +kernel
theorem dX12_isPointless_42 : decode cX12_isPointless 42 = .ok (.aload_n 0, 1) := by decide +kernel
theorem dX12_isPointless_43 : decode cX12_isPointless 43 = .ok (.aload_n 0, 1) := by decide +kernel
theorem dX12_isPointless_44 : decode cX12_isPointless 44 = .ok (.getfield 13, 3) := by decide +kernel
theorem dX12_isPointless_47 : decode cX12_isPointless 47 = .ok (.iload_n 3, 1) := by decide +kernel
theorem dX12_isPointless_48 : decode cX12_isPointless 48 = .ok (.iconst 2, 1) := by decide +kernel
theorem dX12_isPointless_49 : decode cX12_isPointless 49 = .ok (.invokevirtual 149, 3) := by decide +kernel
theorem dX12_isPointless_52 : decode cX12_isPointless 52 = .ok (.ifCond .eq 5, 3) := by decide +kernel
theorem dX12_isPointless_55 : decode cX12_isPointless 55 = .ok (.iconst 0, 1) := by decide +kernel
theorem dX12_isPointless_56 : decode cX12_isPointless 56 = .ok (.ireturn, 1) := by decide +kernel
theorem dX12_isPointless_57 : decode cX12_isPointless 57 = .ok (.iinc 3 1, 3) := by decide +kernel
theorem dX12_isPointless_60 : decode cX12_isPointless 60 = .ok (.goto (-47), 3) := by decide +kernel
theorem dX12_isPointless_63 : decode cX12_isPointless 63 = .ok (.iconst 1, 1) := by decide +kernel
theorem dX12_isPointless_64 : decode cX12_isPointless 64 = .ok (.ireturn, 1) := by decide +kernel
theorem dX12_draughts_0 : decode cX12_draughts 0 = .ok (.iload_n 1, 1) := by decide +kernel
theorem dX12_draughts_1 : decode cX12_draughts 1 = .ok (.iconst 0, 1) := by decide +kernel
theorem dX12_draughts_2 : decode cX12_draughts 2 = .ok (.iconst 5, 1) := by decide +kernel
theorem dX12_draughts_3 : decode cX12_draughts 3 = .ok (.invokestatic 53, 3) := by decide +kernel
theorem dX12_draughts_6 : decode cX12_draughts 6 = .ok (.ifCond .eq 32, 3) := by decide +kernel
theorem dX12_draughts_9 : decode cX12_draughts 9 = .ok (.iload_n 1, 1) := by decide +kernel
theorem dX12_draughts_10 : decode cX12_draughts 10 = .ok (.aload_n 0, 1) := by decide +kernel
theorem dX12_draughts_11 : decode cX12_draughts 11 = .ok (.getfield 9, 3) := by decide +kernel
theorem dX12_draughts_14 : decode cX12_draughts 14 = .ok (.iconst 0, 1) := by decide +kernel
theorem dX12_draughts_15 : decode cX12_draughts 15 = .ok (.iaload, 1) := by decide +kernel
theorem dX12_draughts_16 : decode cX12_draughts 16 = .ok (.if_icmp .gt 22, 3) := by decide +kernel
theorem dX12_draughts_19 : decode cX12_draughts 19 = .ok (.iload_n 2, 1) := by decide +kernel
theorem dX12_draughts_20 : decode cX12_draughts 20 = .ok (.iconst 2, 1) := by decide +kernel
theorem dX12_draughts_21 : decode cX12_draughts 21 = .ok (.bipush 20, 2) := by decide +kernel
theorem dX12_draughts_23 : decode cX12_draughts 23 = .ok (.invokestatic 53, 3) := by decide +kernel
theorem dX12_draughts_26 : decode cX12_draughts 26 = .ok (.ifCond .eq 12, 3) := by decide +kernel
theorem dX12_draughts_29 : decode cX12_draughts 29 = .ok (.iload_n 3, 1) := by decide +kernel
theorem dX12_draughts_30 : decode cX12_draughts 30 = .ok (.iconst 0, 1) := by decide +kernel
theorem dX12_draughts_31 : decode cX12_draughts 31 = .ok (.iconst 1, 1) := by decide +kernel
theorem dX12_draughts_32 : decode cX12_draughts 32 = .ok (.invokestatic 53, 3) := by decide +kernel
theorem dX12_draughts_35 : decode cX12_draughts 35 = .ok (.ifCond .ne 7, 3) := by decide +kernel
theorem dX12_draughts_38 : decode cX12_draughts 38 = .ok (.ldc2_w 233, 3) := by decide +kernel
theorem dX12_draughts_41 : decode cX12_draughts 41 = .ok (.lreturn, 1) := by decide +kernel
theorem dX12_draughts_42 : decode cX12_draughts 42 = .ok (.lconst 0, 1) := by decide +kernel
theorem dX12_draughts_43 : decode cX12_draughts 43 = .ok (.lstore 4, 2) := by decide +kernel
theorem dX12_draughts_45 : decode cX12_draughts 45 = .ok (.lconst 1, 1) := by decide +kernel
theorem dX12_draughts_46 : decode cX12_draughts 46 = .ok (.lstore 6, 2) := by decide +kernel
theorem dX12_draughts_48 : decode cX12_draughts 48 = .ok (.iconst 0, 1) := by decide +kernel
theorem dX12_draughts_49 : decode cX12_draughts 49 = .ok (.istore 8, 2) := by decide +kernel
theorem dX12_draughts_51 : decode cX12_draughts 51 = .ok (.iload 8, 2) := by decide +kernel
theorem dX12_draughts_53 : decode cX12_draughts 53 = .ok (.iload_n 1, 1) := by decide +kernel
theorem dX12_draughts_54 : decode cX12_draughts 54 = .ok (.if_icmp .ge 16, 3) := by decide +kernel
theorem dX12_draughts_57 : decode cX12_draughts 57 = .ok (.lload 6, 2) := by decide +kernel
theorem dX12_draughts_59 : decode cX12_draughts 59 = .ok (.iload_n 2, 1) := by decide +kernel
theorem dX12_draughts_60 : decode cX12_draughts 60 = .ok (.i2l, 1) := by decide +kernel
theorem dX12_draughts_61 : decode cX12_draughts 61 = .ok (.lmul, 1) := by decide +kernel
theorem dX12_draughts_62 : decode cX12_draughts 62 = .ok (.lstore 6, 2) := by decide +kernel
theorem dX12_draughts_64 : decode cX12_draughts 64 = .ok (.iinc 8 1, 3) := by decide +kernel
theorem dX12_draughts_67 : decode cX12_draughts 67 = .ok (.goto (-16), 3) := by decide +kernel
theorem dX12_draughts_70 : decode cX12_draughts 70 = .ok (.iconst 0, 1) := by decide +kernel
theorem dX12_draughts_71 : decode cX12_draughts 71 = .ok (.istore 8, 2) := by decide +kernel
theorem dX12_draughts_73 : decode cX12_draughts 73 = .ok (.iload 8, 2) := by decide +kernel
theorem dX12_draughts_75 : decode cX12_draughts 75 = .ok (.iconst 1, 1) := by decide +kernel
theorem dX12_draughts_76 : decode cX12_draughts 76 = .ok (.iload_n 1, 1) := by decide +kernel
theorem dX12_draughts_77 : decode cX12_draughts 77 = .ok (.ishl, 1) := by decide +kernel
theorem dX12_draughts_78 : decode cX12_draughts 78 = .ok (.if_icmp .ge 71, 3) := by decide +kernel
theorem dX12_draughts_81 : decode cX12_draughts 81 = .ok (.lconst 1, 1) := by decide +kernel
theorem dX12_draughts_82 : decode cX12_draughts 82 = .ok (.lstore 9, 2) := by decide +kernel
theorem dX12_draughts_84 : decode cX12_draughts 84 = .ok (.iconst 0, 1) := by decide +kernel
theorem dX12_draughts_85 : decode cX12_draughts 85 = .ok (.istore 11, 2) := by decide +kernel
theorem dX12_draughts_87 : decode cX12_draughts 87 = .ok (.iload 11, 2) := by decide +kernel
theorem dX12_draughts_89 : decode cX12_draughts 89 = .ok (.iload_n 1, 1) := by decide +kernel
theorem dX12_draughts_90 : decode cX12_draughts 90 = .ok (.if_icmp .ge 32, 3) := by decide +kernel
theorem dX12_draughts_93 : decode cX12_draughts 93 = .ok (.lload 9, 2) := by decide +kernel
theorem dX12_draughts_95 : decode cX12_draughts 95 = .ok (.iload 8, 2) := by decide +kernel
theorem dX12_draughts_97 : decode cX12_draughts 97 = .ok (.iload 11, 2) := by decide +kernel
theorem dX12_draughts_99 : decode cX12_draughts 99 = .ok (.invokestatic 230, 3) := by decide +kernel
theorem dX12_draughts_102 : decode cX12_draughts 102 = .ok (.ifCond .eq 7, 3) := by decide +kernel
theorem dX12_draughts_105 : decode cX12_draughts 105 = .ok (.lconst 1, 1) := by decide +kernel
theorem dX12_draughts_106 : decode cX12_draughts 106 = .ok (.goto 7, 3) := by decide +kernel
theorem dX12_draughts_109 : decode cX12_draughts 109 = .ok (.iload_n 2, 1) := by decide +kernel
theorem dX12_draughts_110 : decode cX12_draughts 110 = .ok (.iconst 1, 1) := by decide +kernel
theorem dX12_draughts_111 : decode cX12_draughts 111 = .ok (.isub, 1) := by decide +kernel
theorem dX12_draughts_112 : decode cX12_draughts 112 = .ok (.i2l, 1) := by decide +kernel
theorem dX12_draughts_113 : decode cX12_draughts 113 = .ok (.lmul, 1) := by decide +kernel
theorem dX12_draughts_114 : decode cX12_draughts 114 = .ok (.lstore 9, 2) := by decide +kernel
theorem dX12_draughts_116 : decode cX12_draughts 116 = .ok (.iinc 11 1, 3) := by decide +kernel
theorem dX12_draughts_119 : decode cX12_draughts 119 = .ok (.goto (-32), 3) := by decide +kernel
theorem dX12_draughts_122 : decode cX12_draughts 122 = .ok (.lload 4, 2) := by decide +kernel
theorem dX12_draughts_124 : decode cX12_draughts 124 = .ok (.aload_n 0, 1) := by decide +kernel
theorem dX12_draughts_125 : decode cX12_draughts 125 = .ok (.iload_n 1, 1) := by decide +kernel
theorem dX12_draughts_126 : decode cX12_draughts 126 = .ok (.iload 8, 2) := by decide +kernel
theorem dX12_draughts_128 : decode cX12_draughts 128 = .ok (.invokevirtual 235, 3) := by decide +kernel
theorem dX12_draughts_131 : decode cX12_draughts 131 = .ok (.ifCond .eq 8, 3) := by decide +kernel
theorem dX12_draughts_134 : decode cX12_draughts 134 = .ok (.lload 9, 2) := by decide +kernel
theorem dX12_draughts_136 : decode cX12_draughts 136 = .ok (.goto 4, 3) := by decide +kernel
theorem dX12_draughts_139 : decode cX12_draughts 139 = .ok (.lconst 0, 1) := by decide +kernel
theorem dX12_draughts_140 : decode cX12_draughts 140 = .ok (.ladd, 1) := by decide +kernel
theorem dX12_draughts_141 : decode cX12_draughts 141 = .ok (.lstore 4, 2) := by decide +kernel
theorem dX12_draughts_143 : decode cX12_draughts 143 = .ok (.iinc 8 1, 3) := by decide +kernel
theorem dX12_draughts_146 : decode cX12_draughts 146 = .ok (.goto (-73), 3) := by decide +kernel
theorem dX12_draughts_149 : decode cX12_draughts 149 = .ok (.lload 4, 2) := by decide +kernel
theorem dX12_draughts_151 : decode cX12_draughts 151 = .ok (.lload 6, 2) := by decide +kernel
theorem dX12_draughts_153 : decode cX12_draughts 153 = .ok (.iload_n 3, 1) := by decide +kernel
theorem dX12_draughts_154 : decode cX12_draughts 154 = .ok (.invokestatic 238, 3) := by decide +kernel
theorem dX12_draughts_157 : decode cX12_draughts 157 = .ok (.lreturn, 1) := by decide +kernel
theorem dX12_allTired_0 : decode cX12_allTired 0 = .ok (.iconst 0, 1) := by decide +kernel
theorem dX12_allTired_1 : decode cX12_allTired 1 = .ok (.istore_n 1, 1) := by decide +kernel
theorem dX12_allTired_2 : decode cX12_allTired 2 = .ok (.iconst 0, 1) := by decide +kernel
theorem dX12_allTired_3 : decode cX12_allTired 3 = .ok (.istore_n 2, 1) := by decide +kernel
theorem dX12_allTired_4 : decode cX12_allTired 4 = .ok (.iload_n 2, 1) := by decide +kernel
theorem dX12_allTired_5 : decode cX12_allTired 5 = .ok (.iconst 4, 1) := by decide +kernel
theorem dX12_allTired_6 : decode cX12_allTired 6 = .ok (.if_icmp .ge 22, 3) := by decide +kernel
theorem dX12_allTired_9 : decode cX12_allTired 9 = .ok (.iload_n 1, 1) := by decide +kernel
theorem dX12_allTired_10 : decode cX12_allTired 10 = .ok (.aload_n 0, 1) := by decide +kernel
theorem dX12_allTired_11 : decode cX12_allTired 11 = .ok (.getfield 9, 3) := by decide +kernel
theorem dX12_allTired_14 : decode cX12_allTired 14 = .ok (.iload_n 2, 1) := by decide +kernel
theorem dX12_allTired_15 : decode cX12_allTired 15 = .ok (.iconst 2, 1) := by decide +kernel
theorem dX12_allTired_16 : decode cX12_allTired 16 = .ok (.invokestatic 46, 3) := by decide +kernel
theorem dX12_allTired_19 : decode cX12_allTired 19 = .ok (.iaload, 1) := by decide +kernel
theorem dX12_allTired_20 : decode cX12_allTired 20 = .ok (.iadd, 1) := by decide +kernel
theorem dX12_allTired_21 : decode cX12_allTired 21 = .ok (.istore_n 1, 1) := by decide +kernel
theorem dX12_allTired_22 : decode cX12_allTired 22 = .ok (.iinc 2 1, 3) := by decide +kernel
theorem dX12_allTired_25 : decode cX12_allTired 25 = .ok (.goto (-21), 3) := by decide +kernel
theorem dX12_allTired_28 : decode cX12_allTired 28 = .ok (.iload_n 1, 1) := by decide +kernel
theorem dX12_allTired_29 : decode cX12_allTired 29 = .ok (.ireturn, 1) := by decide +kernel
theorem dX12_mean_0 : decode cX12_mean 0 = .ok (.iload_n 1, 1) := by decide +kernel
theorem dX12_mean_1 : decode cX12_mean 1 = .ok (.iconst 0, 1) := by decide +kernel
theorem dX12_mean_2 : decode cX12_mean 2 = .ok (.iconst 1, 1) := by decide +kernel
theorem dX12_mean_3 : decode cX12_mean 3 = .ok (.invokestatic 53, 3) := by decide +kernel
theorem dX12_mean_6 : decode cX12_mean 6 = .ok (.ifCond .eq 18, 3) := by decide +kernel
theorem dX12_mean_9 : decode cX12_mean 9 = .ok (.aload_n 0, 1) := by decide +kernel
theorem dX12_mean_10 : decode cX12_mean 10 = .ok (.invokevirtual 242, 3) := by decide +kernel
theorem dX12_mean_13 : decode cX12_mean 13 = .ok (.i2l, 1) := by decide +kernel
theorem dX12_mean_14 : decode cX12_mean 14 = .ok (.ldc2_w 245, 3) := by decide +kernel
theorem dX12_mean_17 : decode cX12_mean 17 = .ok (.iload_n 1, 1) := by decide +kernel
theorem dX12_mean_18 : decode cX12_mean 18 = .ok (.invokestatic 238, 3) := by decide +kernel
theorem dX12_mean_21 : decode cX12_mean 21 = .ok (.goto 6, 3) := by decide +kernel
theorem dX12_mean_24 : decode cX12_mean 24 = .ok (.ldc2_w 233, 3) := by decide +kernel
theorem dX12_mean_27 : decode cX12_mean 27 = .ok (.lreturn, 1) := by decide +kernel
theorem dX12_forged_0 : decode cX12_forged 0 = .ok (.aload_n 0, 1) := by decide +kernel
theorem dX12_forged_1 : decode cX12_forged 1 = .ok (.iload_n 1, 1) := by decide +kernel
theorem dX12_forged_2 : decode cX12_forged 2 = .ok (.iconst (-1), 1) := by decide +kernel
theorem dX12_forged_3 : decode cX12_forged 3 = .ok (.invokevirtual 152, 3) := by decide +kernel
theorem dX12_forged_6 : decode cX12_forged 6 = .ok (.istore_n 2, 1) := by decide +kernel
theorem dX12_forged_7 : decode cX12_forged 7 = .ok (.iload_n 2, 1) := by decide +kernel
theorem dX12_forged_8 : decode cX12_forged 8 = .ok (.ifCond .ne 18, 3) := by decide +kernel
theorem dX12_forged_11 : decode cX12_forged 11 = .ok (.aload_n 0, 1) := by decide +kernel
theorem dX12_forged_12 : decode cX12_forged 12 = .ok (.getfield 40, 3) := by decide +kernel
theorem dX12_forged_15 : decode cX12_forged 15 = .ok (.iload_n 1, 1) := by decide +kernel
theorem dX12_forged_16 : decode cX12_forged 16 = .ok (.iaload, 1) := by decide +kernel
theorem dX12_forged_17 : decode cX12_forged 17 = .ok (.iconst 2, 1) := by decide +kernel
theorem dX12_forged_18 : decode cX12_forged 18 = .ok (.irem, 1) := by decide +kernel
theorem dX12_forged_19 : decode cX12_forged 19 = .ok (.iconst 1, 1) := by decide +kernel
theorem dX12_forged_20 : decode cX12_forged 20 = .ok (.if_icmp .ne 6, 3) := by decide +kernel
theorem dX12_forged_23 : decode cX12_forged 23 = .ok (.bipush (-13), 2) := by decide +kernel
theorem dX12_forged_25 : decode cX12_forged 25 = .ok (.istore_n 2, 1) := by decide +kernel
theorem dX12_forged_26 : decode cX12_forged 26 = .ok (.iload_n 2, 1) := by decide +kernel
theorem dX12_forged_27 : decode cX12_forged 27 = .ok (.ifCond .eq 5, 3) := by decide +kernel
theorem dX12_forged_30 : decode cX12_forged 30 = .ok (.iload_n 2, 1) := by decide +kernel
theorem dX12_forged_31 : decode cX12_forged 31 = .ok (.ireturn, 1) := by decide +kernel
theorem dX12_forged_32 : decode cX12_forged 32 = .ok (.aload_n 0, 1) := by decide +kernel
theorem dX12_forged_33 : decode cX12_forged 33 = .ok (.getfield 9, 3) := by decide +kernel
theorem dX12_forged_36 : decode cX12_forged 36 = .ok (.aload_n 0, 1) := by decide +kernel
theorem dX12_forged_37 : decode cX12_forged 37 = .ok (.getfield 13, 3) := by decide +kernel
theorem dX12_forged_40 : decode cX12_forged 40 = .ok (.invokestatic 158, 3) := by decide +kernel
theorem dX12_forged_43 : decode cX12_forged 43 = .ok (.iconst 0, 1) := by decide +kernel
theorem dX12_forged_44 : decode cX12_forged 44 = .ok (.istore_n 3, 1) := by decide +kernel
theorem dX12_forged_45 : decode cX12_forged 45 = .ok (.iconst 0, 1) := by decide +kernel
theorem dX12_forged_46 : decode cX12_forged 46 = .ok (.istore 4, 2) := by decide +kernel
theorem dX12_forged_48 : decode cX12_forged 48 = .ok (.iload 4, 2) := by decide +kernel
theorem dX12_forged_50 : decode cX12_forged 50 = .ok (.aload_n 0, 1) := by decide +kernel
theorem dX12_forged_51 : decode cX12_forged 51 = .ok (.getfield 40, 3) := by decide +kernel
theorem dX12_forged_54 : decode cX12_forged 54 = .ok (.iload_n 1, 1) := by decide +kernel
theorem dX12_forged_55 : decode cX12_forged 55 = .ok (.iaload, 1) := by decide +kernel
theorem dX12_forged_56 : decode cX12_forged 56 = .ok (.if_icmp .ge 72, 3) := by decide +kernel
theorem dX12_forged_59 : decode cX12_forged 59 = .ok (.aload_n 0, 1) := by decide +kernel
theorem dX12_forged_60 : decode cX12_forged 60 = .ok (.getfield 43, 3) := by decide +kernel
theorem dX12_forged_63 : decode cX12_forged 63 = .ok (.bipush 100, 2) := by decide +kernel
theorem dX12_forged_65 : decode cX12_forged 65 = .ok (.iload_n 1, 1) := by decide +kernel
theorem dX12_forged_66 : decode cX12_forged 66 = .ok (.imul, 1) := by decide +kernel
theorem dX12_forged_67 : decode cX12_forged 67 = .ok (.iload 4, 2) := by decide +kernel
theorem dX12_forged_69 : decode cX12_forged 69 = .ok (.iadd, 1) := by decide +kernel
theorem dX12_forged_70 : decode cX12_forged 70 = .ok (.iaload, 1) := by decide +kernel
theorem dX12_forged_71 : decode cX12_forged 71 = .ok (.istore 5, 2) := by decide +kernel
theorem dX12_forged_73 : decode cX12_forged 73 = .ok (.aload_n 0, 1) := by decide +kernel
theorem dX12_forged_74 : decode cX12_forged 74 = .ok (.getfield 43, 3) := by decide +kernel
theorem dX12_forged_77 : decode cX12_forged 77 = .ok (.bipush 100, 2) := by decide +kernel
theorem dX12_forged_79 : decode cX12_forged 79 = .ok (.iload_n 1, 1) := by decide +kernel
theorem dX12_forged_80 : decode cX12_forged 80 = .ok (.imul, 1) := by decide +kernel
theorem dX12_forged_81 : decode cX12_forged 81 = .ok (.iload 4, 2) := by decide +kernel
theorem dX12_forged_83 : decode cX12_forged 83 = .ok (.iadd, 1) := by decide +kernel
theorem dX12_forged_84 : decode cX12_forged 84 = .ok (.iconst 1, 1) := by decide +kernel
theorem dX12_forged_85 : decode cX12_forged 85 = .ok (.iadd, 1) := by decide +kernel
theorem dX12_forged_86 : decode cX12_forged 86 = .ok (.iaload, 1) := by decide +kernel
theorem dX12_forged_87 : decode cX12_forged 87 = .ok (.istore 6, 2) := by decide +kernel
theorem dX12_forged_89 : decode cX12_forged 89 = .ok (.iload_n 3, 1) := by decide +kernel
theorem dX12_forged_90 : decode cX12_forged 90 = .ok (.ifCond .ne 14, 3) := by decide +kernel
theorem dX12_forged_93 : decode cX12_forged 93 = .ok (.aload_n 0, 1) := by decide +kernel
theorem dX12_forged_94 : decode cX12_forged 94 = .ok (.iload 5, 2) := by decide +kernel
theorem dX12_forged_96 : decode cX12_forged 96 = .ok (.iload 6, 2) := by decide +kernel
theorem dX12_forged_98 : decode cX12_forged 98 = .ok (.invokevirtual 174, 3) := by decide +kernel
theorem dX12_forged_101 : decode cX12_forged 101 = .ok (.ifCond .ne 8, 3) := by decide +kernel
theorem dX12_forged_104 : decode cX12_forged 104 = .ok (.iload 4, 2) := by decide +kernel
theorem dX12_forged_106 : decode cX12_forged 106 = .ok (.iconst 2, 1) := by decide +kernel
theorem dX12_forged_107 : decode cX12_forged 107 = .ok (.idiv, 1) := by decide +kernel
theorem dX12_forged_108 : decode cX12_forged 108 = .ok (.ireturn, 1) := by decide +kernel
theorem dX12_forged_109 : decode cX12_forged 109 = .ok (.aload_n 0, 1) := by decide +kernel
theorem dX12_forged_110 : decode cX12_forged 110 = .ok (.aload_n 0, 1) := by decide +kernel
theorem dX12_forged_111 : decode cX12_forged 111 = .ok (.getfield 13, 3) := by decide +kernel
theorem dX12_forged_114 : decode cX12_forged 114 = .ok (.iload 5, 2) := by decide +kernel
theorem dX12_forged_116 : decode cX12_forged 116 = .ok (.iload 6, 2) := by decide +kernel
theorem dX12_forged_118 : decode cX12_forged 118 = .ok (.invokevirtual 149, 3) := by decide +kernel
theorem dX12_forged_121 : decode cX12_forged 121 = .ok (.istore_n 3, 1) := by decide +kernel
theorem dX12_forged_122 : decode cX12_forged 122 = .ok (.iinc 4 2, 3) := by decide +kernel
theorem dX12_forged_125 : decode cX12_forged 125 = .ok (.goto (-77), 3) := by decide +kernel
theorem dX12_forged_128 : decode cX12_forged 128 = .ok (.bipush (-4), 2) := by decide +kernel
theorem dX12_forged_130 : decode cX12_forged 130 = .ok (.ireturn, 1) := by decide +kernel
theorem dX12_judge_0 : decode cX12_judge 0 = .ok (.aload_n 0, 1) := by decide +kernel
theorem dX12_judge_1 : decode cX12_judge 1 = .ok (.iload_n 1, 1) := by decide +kernel
theorem dX12_judge_2 : decode cX12_judge 2 = .ok (.iconst (-1), 1) := by decide +kernel
theorem dX12_judge_3 : decode cX12_judge 3 = .ok (.invokevirtual 152, 3) := by decide +kernel
theorem dX12_judge_6 : decode cX12_judge 6 = .ok (.istore_n 2, 1) := by decide +kernel
theorem dX12_judge_7 : decode cX12_judge 7 = .ok (.iload_n 2, 1) := by decide +kernel
theorem dX12_judge_8 : decode cX12_judge 8 = .ok (.ifCond .ne 15, 3) := by decide +kernel
theorem dX12_judge_11 : decode cX12_judge 11 = .ok (.aload_n 0, 1) := by decide +kernel
theorem dX12_judge_12 : decode cX12_judge 12 = .ok (.getfield 9, 3) := by decide +kernel
theorem dX12_judge_15 : decode cX12_judge 15 = .ok (.iconst 0, 1) := by decide +kernel
theorem dX12_judge_16 : decode cX12_judge 16 = .ok (.iaload, 1) := by decide +kernel
theorem dX12_judge_17 : decode cX12_judge 17 = .ok (.ifCond .ne 6, 3) := by decide +kernel
theorem dX12_judge_20 : decode cX12_judge 20 = .ok (.bipush (-3), 2) := by decide +kernel
theorem dX12_judge_22 : decode cX12_judge 22 = .ok (.istore_n 2, 1) := by decide +kernel
theorem dX12_judge_23 : decode cX12_judge 23 = .ok (.iload_n 2, 1) := by decide +kernel
theorem dX12_judge_24 : decode cX12_judge 24 = .ok (.ifCond .eq 5, 3) := by decide +kernel
theorem dX12_judge_27 : decode cX12_judge 27 = .ok (.iload_n 2, 1) := by decide +kernel
theorem dX12_judge_28 : decode cX12_judge 28 = .ok (.ireturn, 1) := by decide +kernel
theorem dX12_judge_29 : decode cX12_judge 29 = .ok (.aload_n 0, 1) := by decide +kernel
theorem dX12_judge_30 : decode cX12_judge 30 = .ok (.getfield 9, 3) := by decide +kernel
theorem dX12_judge_33 : decode cX12_judge 33 = .ok (.aload_n 0, 1) := by decide +kernel
theorem dX12_judge_34 : decode cX12_judge 34 = .ok (.getfield 13, 3) := by decide +kernel
theorem dX12_judge_37 : decode cX12_judge 37 = .ok (.invokestatic 158, 3) := by decide +kernel
theorem dX12_judge_40 : decode cX12_judge 40 = .ok (.iconst 0, 1) := by decide +kernel
theorem dX12_judge_41 : decode cX12_judge 41 = .ok (.istore_n 3, 1) := by decide +kernel
theorem dX12_judge_42 : decode cX12_judge 42 = .ok (.iload_n 3, 1) := by decide +kernel
theorem dX12_judge_43 : decode cX12_judge 43 = .ok (.aload_n 0, 1) := by decide +kernel
theorem dX12_judge_44 : decode cX12_judge 44 = .ok (.getfield 40, 3) := by decide +kernel
theorem dX12_judge_47 : decode cX12_judge 47 = .ok (.iload_n 1, 1) := by decide +kernel
theorem dX12_judge_48 : decode cX12_judge 48 = .ok (.iaload, 1) := by decide +kernel
theorem dX12_judge_49 : decode cX12_judge 49 = .ok (.if_icmp .ge 78, 3) := by decide +kernel
theorem dX12_judge_52 : decode cX12_judge 52 = .ok (.aload_n 0, 1) := by decide +kernel
theorem dX12_judge_53 : decode cX12_judge 53 = .ok (.iload_n 1, 1) := by decide +kernel
theorem dX12_judge_54 : decode cX12_judge 54 = .ok (.iload_n 3, 1) := by decide +kernel
theorem dX12_judge_55 : decode cX12_judge 55 = .ok (.invokevirtual 220, 3) := by decide +kernel
theorem dX12_judge_58 : decode cX12_judge 58 = .ok (.ifCond .ne 40, 3) := by decide +kernel
theorem dX12_judge_61 : decode cX12_judge 61 = .ok (.aload_n 0, 1) := by decide +kernel
theorem dX12_judge_62 : decode cX12_judge 62 = .ok (.getfield 43, 3) := by decide +kernel
theorem dX12_judge_65 : decode cX12_judge 65 = .ok (.bipush 100, 2) := by decide +kernel
theorem dX12_judge_67 : decode cX12_judge 67 = .ok (.iload_n 1, 1) := by decide +kernel
theorem dX12_judge_68 : decode cX12_judge 68 = .ok (.imul, 1) := by decide +kernel
theorem dX12_judge_69 : decode cX12_judge 69 = .ok (.iload_n 3, 1) := by decide +kernel
theorem dX12_judge_70 : decode cX12_judge 70 = .ok (.iadd, 1) := by decide +kernel
theorem dX12_judge_71 : decode cX12_judge 71 = .ok (.iaload, 1) := by decide +kernel
theorem dX12_judge_72 : decode cX12_judge 72 = .ok (.aload_n 0, 1) := by decide +kernel
theorem dX12_judge_73 : decode cX12_judge 73 = .ok (.getfield 13, 3) := by decide +kernel
theorem dX12_judge_76 : decode cX12_judge 76 = .ok (.iconst 0, 1) := by decide +kernel
theorem dX12_judge_77 : decode cX12_judge 77 = .ok (.iconst 2, 1) := by decide +kernel
theorem dX12_judge_78 : decode cX12_judge 78 = .ok (.invokestatic 50, 3) := by decide +kernel
theorem dX12_judge_81 : decode cX12_judge 81 = .ok (.iaload, 1) := by decide +kernel
theorem dX12_judge_82 : decode cX12_judge 82 = .ok (.aload_n 0, 1) := by decide +kernel
theorem dX12_judge_83 : decode cX12_judge 83 = .ok (.getfield 13, 3) := by decide +kernel
theorem dX12_judge_86 : decode cX12_judge 86 = .ok (.iconst 1, 1) := by decide +kernel
theorem dX12_judge_87 : decode cX12_judge 87 = .ok (.iconst 2, 1) := by decide +kernel
theorem dX12_judge_88 : decode cX12_judge 88 = .ok (.invokestatic 50, 3) := by decide +kernel
theorem dX12_judge_91 : decode cX12_judge 91 = .ok (.iaload, 1) := by decide +kernel
theorem dX12_judge_92 : decode cX12_judge 92 = .ok (.iadd, 1) := by decide +kernel
theorem dX12_judge_93 : decode cX12_judge 93 = .ok (.if_icmp .eq 5, 3) := by decide +kernel
theorem dX12_judge_96 : decode cX12_judge 96 = .ok (.iload_n 3, 1) := by decide +kernel
theorem dX12_judge_97 : decode cX12_judge 97 = .ok (.ireturn, 1) := by decide +kernel
theorem dX12_judge_98 : decode cX12_judge 98 = .ok (.aload_n 0, 1) := by decide +kernel
theorem dX12_judge_99 : decode cX12_judge 99 = .ok (.aload_n 0, 1) := by decide +kernel
theorem dX12_judge_100 : decode cX12_judge 100 = .ok (.getfield 13, 3) := by decide +kernel
theorem dX12_judge_103 : decode cX12_judge 103 = .ok (.iconst 0, 1) := by decide +kernel
theorem dX12_judge_104 : decode cX12_judge 104 = .ok (.iload_n 3, 1) := by decide +kernel
theorem dX12_judge_105 : decode cX12_judge 105 = .ok (.iconst 2, 1) := by decide +kernel
theorem dX12_judge_106 : decode cX12_judge 106 = .ok (.irem, 1) := by decide +kernel
theorem dX12_judge_107 : decode cX12_judge 107 = .ok (.ifCond .ne 7, 3) := by decide +kernel
theorem dX12_judge_110 : decode cX12_judge 110 = .ok (.iconst 0, 1) := by decide +kernel
theorem dX12_judge_111 : decode cX12_judge 111 = .ok (.goto 5, 3) := by decide +kernel
theorem dX12_judge_114 : decode cX12_judge 114 = .ok (.bipush 8, 2) := by decide +kernel
theorem dX12_judge_116 : decode cX12_judge 116 = .ok (.invokevirtual 149, 3) := by decide +kernel
theorem dX12_judge_119 : decode cX12_judge 119 = .ok (.istore 4, 2) := by decide +kernel
theorem dX12_judge_121 : decode cX12_judge 121 = .ok (.iinc 3 1, 3) := by decide +kernel
theorem dX12_judge_124 : decode cX12_judge 124 = .ok (.goto (-82), 3) := by decide +kernel
theorem dX12_judge_127 : decode cX12_judge 127 = .ok (.bipush (-4), 2) := by decide +kernel
theorem dX12_judge_129 : decode cX12_judge 129 = .ok (.ireturn, 1) := by decide +kernel
theorem dX12_drawn_0 : decode cX12_drawn 0 = .ok (.aload_n 0, 1) := by decide +kernel
theorem dX12_drawn_1 : decode cX12_drawn 1 = .ok (.aload_n 0, 1) := by decide +kernel
theorem dX12_drawn_2 : decode cX12_drawn 2 = .ok (.getfield 247, 3) := by decide +kernel
theorem dX12_drawn_5 : decode cX12_drawn 5 = .ok (.ldc 250, 2) := by decide +kernel
theorem dX12_drawn_7 : decode cX12_drawn 7 = .ok (.imul, 1) := by decide +kernel
theorem dX12_drawn_8 : decode cX12_drawn 8 = .ok (.sipush 12345, 3) := by decide +kernel
theorem dX12_drawn_11 : decode cX12_drawn 11 = .ok (.iadd, 1) := by decide +kernel
theorem dX12_drawn_12 : decode cX12_drawn 12 = .ok (.putfield 247, 3) := by decide +kernel
theorem dX12_drawn_15 : decode cX12_drawn 15 = .ok (.aload_n 0, 1) := by decide +kernel
theorem dX12_drawn_16 : decode cX12_drawn 16 = .ok (.getfield 247, 3) := by decide +kernel
theorem dX12_drawn_19 : decode cX12_drawn 19 = .ok (.ldc 251, 2) := by decide +kernel
theorem dX12_drawn_21 : decode cX12_drawn 21 = .ok (.iand, 1) := by decide +kernel
theorem dX12_drawn_22 : decode cX12_drawn 22 = .ok (.ldc 252, 2) := by decide +kernel
theorem dX12_drawn_24 : decode cX12_drawn 24 = .ok (.idiv, 1) := by decide +kernel
theorem dX12_drawn_25 : decode cX12_drawn 25 = .ok (.iload_n 1, 1) := by decide +kernel
theorem dX12_drawn_26 : decode cX12_drawn 26 = .ok (.irem, 1) := by decide +kernel
theorem dX12_drawn_27 : decode cX12_drawn 27 = .ok (.ireturn, 1) := by decide +kernel
theorem dX12_nights_0 : decode cX12_nights 0 = .ok (.iload_n 1, 1) := by decide +kernel
theorem dX12_nights_1 : decode cX12_nights 1 = .ok (.iconst 1, 1) := by decide +kernel
theorem dX12_nights_2 : decode cX12_nights 2 = .ok (.bipush 20, 2) := by decide +kernel
theorem dX12_nights_4 : decode cX12_nights 4 = .ok (.invokestatic 53, 3) := by decide +kernel
theorem dX12_nights_7 : decode cX12_nights 7 = .ok (.ifCond .eq 12, 3) := by decide +kernel
theorem dX12_nights_10 : decode cX12_nights 10 = .ok (.iload_n 3, 1) := by decide +kernel
theorem dX12_nights_11 : decode cX12_nights 11 = .ok (.iconst 0, 1) := by decide +kernel
theorem dX12_nights_12 : decode cX12_nights 12 = .ok (.iconst 1, 1) := by decide +kernel
theorem dX12_nights_13 : decode cX12_nights 13 = .ok (.invokestatic 53, 3) := by decide +kernel
theorem dX12_nights_16 : decode cX12_nights 16 = .ok (.ifCond .ne 5, 3) := by decide +kernel
theorem dX12_nights_19 : decode cX12_nights 19 = .ok (.iconst (-1), 1) := by decide +kernel
theorem dX12_nights_20 : decode cX12_nights 20 = .ok (.ireturn, 1) := by decide +kernel
theorem dX12_nights_21 : decode cX12_nights 21 = .ok (.aload_n 0, 1) := by decide +kernel
theorem dX12_nights_22 : decode cX12_nights 22 = .ok (.getfield 9, 3) := by decide +kernel
theorem dX12_nights_25 : decode cX12_nights 25 = .ok (.iconst 0, 1) := by decide +kernel
theorem dX12_nights_26 : decode cX12_nights 26 = .ok (.iaload, 1) := by decide +kernel
theorem dX12_nights_27 : decode cX12_nights 27 = .ok (.ifCond .ne 6, 3) := by decide +kernel
theorem dX12_nights_30 : decode cX12_nights 30 = .ok (.bipush (-3), 2) := by decide +kernel
theorem dX12_nights_32 : decode cX12_nights 32 = .ok (.ireturn, 1) := by decide +kernel
theorem dX12_nights_33 : decode cX12_nights 33 = .ok (.aload_n 0, 1) := by decide +kernel
theorem dX12_nights_34 : decode cX12_nights 34 = .ok (.iload_n 2, 1) := by decide +kernel
theorem dX12_nights_35 : decode cX12_nights 35 = .ok (.putfield 247, 3) := by decide +kernel
theorem dX12_nights_38 : decode cX12_nights 38 = .ok (.iconst 0, 1) := by decide +kernel
theorem dX12_nights_39 : decode cX12_nights 39 = .ok (.istore 4, 2) := by decide +kernel
theorem dX12_nights_41 : decode cX12_nights 41 = .ok (.iconst 0, 1) := by decide +kernel
theorem dX12_nights_42 : decode cX12_nights 42 = .ok (.istore 5, 2) := by decide +kernel
theorem dX12_nights_44 : decode cX12_nights 44 = .ok (.iload 5, 2) := by decide +kernel
theorem dX12_nights_46 : decode cX12_nights 46 = .ok (.iload_n 1, 1) := by decide +kernel
theorem dX12_nights_47 : decode cX12_nights 47 = .ok (.if_icmp .ge 92, 3) := by decide +kernel
theorem dX12_nights_50 : decode cX12_nights 50 = .ok (.aload_n 0, 1) := by decide +kernel
theorem dX12_nights_51 : decode cX12_nights 51 = .ok (.getfield 9, 3) := by decide +kernel
theorem dX12_nights_54 : decode cX12_nights 54 = .ok (.aload_n 0, 1) := by decide +kernel
theorem dX12_nights_55 : decode cX12_nights 55 = .ok (.getfield 13, 3) := by decide +kernel
theorem dX12_nights_58 : decode cX12_nights 58 = .ok (.invokestatic 158, 3) := by decide +kernel
theorem dX12_nights_61 : decode cX12_nights 61 = .ok (.iconst 0, 1) := by decide +kernel
theorem dX12_nights_62 : decode cX12_nights 62 = .ok (.istore 6, 2) := by decide +kernel
theorem dX12_nights_64 : decode cX12_nights 64 = .ok (.iload 6, 2) := by decide +kernel
theorem dX12_nights_66 : decode cX12_nights 66 = .ok (.bipush 12, 2) := by decide +kernel
theorem dX12_nights_68 : decode cX12_nights 68 = .ok (.if_icmp .ge 39, 3) := by decide +kernel
theorem dX12_nights_71 : decode cX12_nights 71 = .ok (.aload_n 0, 1) := by decide +kernel
theorem dX12_nights_72 : decode cX12_nights 72 = .ok (.aload_n 0, 1) := by decide +kernel
theorem dX12_nights_73 : decode cX12_nights 73 = .ok (.getfield 9, 3) := by decide +kernel
theorem dX12_nights_76 : decode cX12_nights 76 = .ok (.iconst 0, 1) := by decide +kernel
theorem dX12_nights_77 : decode cX12_nights 77 = .ok (.iaload, 1) := by decide +kernel
theorem dX12_nights_78 : decode cX12_nights 78 = .ok (.invokevirtual 253, 3) := by decide +kernel
theorem dX12_nights_81 : decode cX12_nights 81 = .ok (.istore 7, 2) := by decide +kernel
theorem dX12_nights_83 : decode cX12_nights 83 = .ok (.aload_n 0, 1) := by decide +kernel
theorem dX12_nights_84 : decode cX12_nights 84 = .ok (.aload_n 0, 1) := by decide +kernel
theorem dX12_nights_85 : decode cX12_nights 85 = .ok (.getfield 13, 3) := by decide +kernel
theorem dX12_nights_88 : decode cX12_nights 88 = .ok (.iload 7, 2) := by decide +kernel
theorem dX12_nights_90 : decode cX12_nights 90 = .ok (.aload_n 0, 1) := by decide +kernel
theorem dX12_nights_91 : decode cX12_nights 91 = .ok (.bipush 9, 2) := by decide +kernel
theorem dX12_nights_93 : decode cX12_nights 93 = .ok (.invokevirtual 253, 3) := by decide +kernel
theorem dX12_nights_96 : decode cX12_nights 96 = .ok (.invokevirtual 149, 3) := by decide +kernel
theorem dX12_nights_99 : decode cX12_nights 99 = .ok (.istore 8, 2) := by decide +kernel
theorem dX12_nights_101 : decode cX12_nights 101 = .ok (.iinc 6 1, 3) := by decide +kernel
theorem dX12_nights_104 : decode cX12_nights 104 = .ok (.goto (-40), 3) := by decide +kernel
theorem dX12_nights_107 : decode cX12_nights 107 = .ok (.iload 4, 2) := by decide +kernel
theorem dX12_nights_109 : decode cX12_nights 109 = .ok (.aload_n 0, 1) := by decide +kernel
theorem dX12_nights_110 : decode cX12_nights 110 = .ok (.getfield 13, 3) := by decide +kernel
theorem dX12_nights_113 : decode cX12_nights 113 = .ok (.iload_n 3, 1) := by decide +kernel
theorem dX12_nights_114 : decode cX12_nights 114 = .ok (.iconst 2, 1) := by decide +kernel
theorem dX12_nights_115 : decode cX12_nights 115 = .ok (.invokestatic 50, 3) := by decide +kernel
theorem dX12_nights_118 : decode cX12_nights 118 = .ok (.iaload, 1) := by decide +kernel
theorem dX12_nights_119 : decode cX12_nights 119 = .ok (.aload_n 0, 1) := by decide +kernel
theorem dX12_nights_120 : decode cX12_nights 120 = .ok (.getfield 9, 3) := by decide +kernel
theorem dX12_nights_123 : decode cX12_nights 123 = .ok (.iload_n 3, 1) := by decide +kernel
theorem dX12_nights_124 : decode cX12_nights 124 = .ok (.iconst 2, 1) := by decide +kernel
theorem dX12_nights_125 : decode cX12_nights 125 = .ok (.invokestatic 50, 3) := by decide +kernel
theorem dX12_nights_128 : decode cX12_nights 128 = .ok (.iaload, 1) := by decide +kernel
theorem dX12_nights_129 : decode cX12_nights 129 = .ok (.isub, 1) := by decide +kernel
theorem dX12_nights_130 : decode cX12_nights 130 = .ok (.iadd, 1) := by decide +kernel
theorem dX12_nights_131 : decode cX12_nights 131 = .ok (.istore 4, 2) := by decide +kernel
theorem dX12_nights_133 : decode cX12_nights 133 = .ok (.iinc 5 1, 3) := by decide +kernel
theorem dX12_nights_136 : decode cX12_nights 136 = .ok (.goto (-92), 3) := by decide +kernel
theorem dX12_nights_139 : decode cX12_nights 139 = .ok (.iload 4, 2) := by decide +kernel
theorem dX12_nights_141 : decode cX12_nights 141 = .ok (.ireturn, 1) := by decide +kernel
theorem dX12_image_0 : decode cX12_image 0 = .ok (.aload_n 0, 1) := by decide +kernel
theorem dX12_image_1 : decode cX12_image 1 = .ok (.getfield 9, 3) := by decide +kernel
theorem dX12_image_4 : decode cX12_image 4 = .ok (.aload_n 0, 1) := by decide +kernel
theorem dX12_image_5 : decode cX12_image 5 = .ok (.getfield 16, 3) := by decide +kernel
theorem dX12_image_8 : decode cX12_image 8 = .ok (.invokestatic 158, 3) := by decide +kernel
theorem dX12_image_11 : decode cX12_image 11 = .ok (.aload_n 0, 1) := by decide +kernel
theorem dX12_image_12 : decode cX12_image 12 = .ok (.iconst 1, 1) := by decide +kernel
theorem dX12_image_13 : decode cX12_image 13 = .ok (.putfield 256, 3) := by decide +kernel
theorem dX12_image_16 : decode cX12_image 16 = .ok (.aload_n 0, 1) := by decide +kernel
theorem dX12_image_17 : decode cX12_image 17 = .ok (.getfield 9, 3) := by decide +kernel
theorem dX12_image_20 : decode cX12_image 20 = .ok (.iconst 1, 1) := by decide +kernel
theorem dX12_image_21 : decode cX12_image 21 = .ok (.iaload, 1) := by decide +kernel
theorem dX12_image_22 : decode cX12_image 22 = .ok (.ireturn, 1) := by decide +kernel
theorem dX12_restore_0 : decode cX12_restore 0 = .ok (.aload_n 0, 1) := by decide +kernel
theorem dX12_restore_1 : decode cX12_restore 1 = .ok (.getfield 256, 3) := by decide +kernel
theorem dX12_restore_4 : decode cX12_restore 4 = .ok (.ifCond .ne 6, 3) := by decide +kernel
theorem dX12_restore_7 : decode cX12_restore 7 = .ok (.bipush (-3), 2) := by decide +kernel
theorem dX12_restore_9 : decode cX12_restore 9 = .ok (.ireturn, 1) := by decide +kernel
theorem dX12_restore_10 : decode cX12_restore 10 = .ok (.aload_n 0, 1) := by decide +kernel
theorem dX12_restore_11 : decode cX12_restore 11 = .ok (.getfield 16, 3) := by decide +kernel
theorem dX12_restore_14 : decode cX12_restore 14 = .ok (.aload_n 0, 1) := by decide +kernel
theorem dX12_restore_15 : decode cX12_restore 15 = .ok (.getfield 9, 3) := by decide +kernel
theorem dX12_restore_18 : decode cX12_restore 18 = .ok (.invokestatic 158, 3) := by decide +kernel
theorem dX12_restore_21 : decode cX12_restore 21 = .ok (.aload_n 0, 1) := by decide +kernel
theorem dX12_restore_22 : decode cX12_restore 22 = .ok (.getfield 9, 3) := by decide +kernel
theorem dX12_restore_25 : decode cX12_restore 25 = .ok (.iconst 1, 1) := by decide +kernel
theorem dX12_restore_26 : decode cX12_restore 26 = .ok (.iaload, 1) := by decide +kernel
theorem dX12_restore_27 : decode cX12_restore 27 = .ok (.ireturn, 1) := by decide +kernel
theorem dX12_count_0 : decode cX12_count 0 = .ok (.iconst 0, 1) := by decide +kernel
theorem dX12_count_1 : decode cX12_count 1 = .ok (.istore_n 2, 1) := by decide +kernel
theorem dX12_count_2 : decode cX12_count 2 = .ok (.iload_n 1, 1) := by decide +kernel
theorem dX12_count_3 : decode cX12_count 3 = .ok (.tableswitch 88 0 5 #[37, 37, 37, 44, 53, 58], 37) := by decide +kernel
theorem dX12_count_40 : decode cX12_count 40 = .ok (.aload_n 0, 1) := by decide +kernel
theorem dX12_count_41 : decode cX12_count 41 = .ok (.getfield 9, 3) := by decide +kernel
theorem dX12_count_44 : decode cX12_count 44 = .ok (.iload_n 1, 1) := by decide +kernel
theorem dX12_count_45 : decode cX12_count 45 = .ok (.iaload, 1) := by decide +kernel
theorem dX12_count_46 : decode cX12_count 46 = .ok (.ireturn, 1) := by decide +kernel
theorem dX12_count_47 : decode cX12_count 47 = .ok (.aload_n 0, 1) := by decide +kernel
theorem dX12_count_48 : decode cX12_count 48 = .ok (.getfield 9, 3) := by decide +kernel
theorem dX12_count_51 : decode cX12_count 51 = .ok (.iconst 3, 1) := by decide +kernel
theorem dX12_count_52 : decode cX12_count 52 = .ok (.iaload, 1) := by decide +kernel
theorem dX12_count_53 : decode cX12_count 53 = .ok (.iconst 1, 1) := by decide +kernel
theorem dX12_count_54 : decode cX12_count 54 = .ok (.iadd, 1) := by decide +kernel
theorem dX12_count_55 : decode cX12_count 55 = .ok (.ireturn, 1) := by decide +kernel
theorem dX12_count_56 : decode cX12_count 56 = .ok (.aload_n 0, 1) := by decide +kernel
theorem dX12_count_57 : decode cX12_count 57 = .ok (.invokevirtual 242, 3) := by decide +kernel
theorem dX12_count_60 : decode cX12_count 60 = .ok (.ireturn, 1) := by decide +kernel
theorem dX12_count_61 : decode cX12_count 61 = .ok (.iconst 0, 1) := by decide +kernel
theorem dX12_count_62 : decode cX12_count 62 = .ok (.istore_n 3, 1) := by decide +kernel
theorem dX12_count_63 : decode cX12_count 63 = .ok (.iload_n 3, 1) := by decide +kernel
theorem dX12_count_64 : decode cX12_count 64 = .ok (.iconst 4, 1) := by decide +kernel
theorem dX12_count_65 : decode cX12_count 65 = .ok (.if_icmp .ge 24, 3) := by decide +kernel
theorem dX12_count_68 : decode cX12_count 68 = .ok (.iload_n 2, 1) := by decide +kernel
theorem dX12_count_69 : decode cX12_count 69 = .ok (.aload_n 0, 1) := by decide +kernel
theorem dX12_count_70 : decode cX12_count 70 = .ok (.getfield 9, 3) := by decide +kernel
theorem dX12_count_73 : decode cX12_count 73 = .ok (.iload_n 3, 1) := by decide +kernel
theorem dX12_count_74 : decode cX12_count 74 = .ok (.iconst 3, 1) := by decide +kernel
theorem dX12_count_75 : decode cX12_count 75 = .ok (.invokestatic 46, 3) := by decide +kernel
theorem dX12_count_78 : decode cX12_count 78 = .ok (.iaload, 1) := by decide +kernel
theorem dX12_count_79 : decode cX12_count 79 = .ok (.iload_n 3, 1) := by decide +kernel
theorem dX12_count_80 : decode cX12_count 80 = .ok (.ishl, 1) := by decide +kernel
theorem dX12_count_81 : decode cX12_count 81 = .ok (.ior, 1) := by decide +kernel
theorem dX12_count_82 : decode cX12_count 82 = .ok (.istore_n 2, 1) := by decide +kernel
theorem dX12_count_83 : decode cX12_count 83 = .ok (.iinc 3 1, 3) := by decide +kernel
theorem dX12_count_86 : decode cX12_count 86 = .ok (.goto (-23), 3) := by decide +kernel
theorem dX12_count_89 : decode cX12_count 89 = .ok (.iload_n 2, 1) := by decide +kernel
theorem dX12_count_90 : decode cX12_count 90 = .ok (.ireturn, 1) := by decide +kernel
theorem dX12_count_91 : decode cX12_count 91 = .ok (.iconst (-1), 1) := by decide +kernel
theorem dX12_count_92 : decode cX12_count 92 = .ok (.ireturn, 1) := by decide +kernel
theorem dX12_thrown_0 : decode cX12_thrown 0 = .ok (.aload_n 0, 1) := by decide +kernel
theorem dX12_thrown_1 : decode cX12_thrown 1 = .ok (.getfield 260, 3) := by decide +kernel
theorem dX12_thrown_4 : decode cX12_thrown 4 = .ok (.ireturn, 1) := by decide +kernel
theorem dX12_isShelf_0 : decode cX12_isShelf 0 = .ok (.iload_n 0, 1) := by decide +kernel
theorem dX12_isShelf_1 : decode cX12_isShelf 1 = .ok (.iconst 0, 1) := by decide +kernel
theorem dX12_isShelf_2 : decode cX12_isShelf 2 = .ok (.bipush 7, 2) := by decide +kernel
theorem dX12_isShelf_4 : decode cX12_isShelf 4 = .ok (.invokestatic 53, 3) := by decide +kernel
theorem dX12_isShelf_7 : decode cX12_isShelf 7 = .ok (.ireturn, 1) := by decide +kernel
theorem dX12_wrongRow_0 : decode cX12_wrongRow 0 = .ok (.iload_n 1, 1) := by decide +kernel
theorem dX12_wrongRow_1 : decode cX12_wrongRow 1 = .ok (.invokestatic 263, 3) := by decide +kernel
theorem dX12_wrongRow_4 : decode cX12_wrongRow 4 = .ok (.ifCond .ne 7, 3) := by decide +kernel
theorem dX12_wrongRow_7 : decode cX12_wrongRow 7 = .ok (.iconst (-1), 1) := by decide +kernel
theorem dX12_wrongRow_8 : decode cX12_wrongRow 8 = .ok (.goto 47, 3) := by decide +kernel
theorem dX12_wrongRow_11 : decode cX12_wrongRow 11 = .ok (.aload_n 0, 1) := by decide +kernel
theorem dX12_wrongRow_12 : decode cX12_wrongRow 12 = .ok (.getfield 28, 3) := by decide +kernel
theorem dX12_wrongRow_15 : decode cX12_wrongRow 15 = .ok (.iload_n 1, 1) := by decide +kernel
theorem dX12_wrongRow_16 : decode cX12_wrongRow 16 = .ok (.iaload, 1) := by decide +kernel
theorem dX12_wrongRow_17 : decode cX12_wrongRow 17 = .ok (.ifCond .ne 8, 3) := by decide +kernel
theorem dX12_wrongRow_20 : decode cX12_wrongRow 20 = .ok (.bipush (-11), 2) := by decide +kernel
theorem dX12_wrongRow_22 : decode cX12_wrongRow 22 = .ok (.goto 33, 3) := by decide +kernel
theorem dX12_wrongRow_25 : decode cX12_wrongRow 25 = .ok (.aload_n 0, 1) := by decide +kernel
theorem dX12_wrongRow_26 : decode cX12_wrongRow 26 = .ok (.getfield 28, 3) := by decide +kernel
theorem dX12_wrongRow_29 : decode cX12_wrongRow 29 = .ok (.iload_n 1, 1) := by decide +kernel
theorem dX12_wrongRow_30 : decode cX12_wrongRow 30 = .ok (.iaload, 1) := by decide +kernel
theorem dX12_wrongRow_31 : decode cX12_wrongRow 31 = .ok (.iconst 2, 1) := by decide +kernel
theorem dX12_wrongRow_32 : decode cX12_wrongRow 32 = .ok (.if_icmp .ne 17, 3) := by decide +kernel
theorem dX12_wrongRow_35 : decode cX12_wrongRow 35 = .ok (.iload_n 2, 1) := by decide +kernel
theorem dX12_wrongRow_36 : decode cX12_wrongRow 36 = .ok (.ifCond .lt 18, 3) := by decide +kernel
theorem dX12_wrongRow_39 : decode cX12_wrongRow 39 = .ok (.aload_n 0, 1) := by decide +kernel
theorem dX12_wrongRow_40 : decode cX12_wrongRow 40 = .ok (.getfield 37, 3) := by decide +kernel
theorem dX12_wrongRow_43 : decode cX12_wrongRow 43 = .ok (.iload_n 1, 1) := by decide +kernel
theorem dX12_wrongRow_44 : decode cX12_wrongRow 44 = .ok (.iaload, 1) := by decide +kernel
theorem dX12_wrongRow_45 : decode cX12_wrongRow 45 = .ok (.iload_n 2, 1) := by decide +kernel
theorem dX12_wrongRow_46 : decode cX12_wrongRow 46 = .ok (.if_icmp .eq 8, 3) := by decide +kernel
theorem dX12_wrongRow_49 : decode cX12_wrongRow 49 = .ok (.bipush (-12), 2) := by decide +kernel
theorem dX12_wrongRow_51 : decode cX12_wrongRow 51 = .ok (.goto 4, 3) := by decide +kernel
theorem dX12_wrongRow_54 : decode cX12_wrongRow 54 = .ok (.iconst 0, 1) := by decide +kernel
theorem dX12_wrongRow_55 : decode cX12_wrongRow 55 = .ok (.ireturn, 1) := by decide +kernel
theorem dX12_wrongKept_0 : decode cX12_wrongKept 0 = .ok (.iload_n 1, 1) := by decide +kernel
theorem dX12_wrongKept_1 : decode cX12_wrongKept 1 = .ok (.invokestatic 263, 3) := by decide +kernel
theorem dX12_wrongKept_4 : decode cX12_wrongKept 4 = .ok (.ifCond .ne 7, 3) := by decide +kernel
theorem dX12_wrongKept_7 : decode cX12_wrongKept 7 = .ok (.iconst (-1), 1) := by decide +kernel
theorem dX12_wrongKept_8 : decode cX12_wrongKept 8 = .ok (.goto 33, 3) := by decide +kernel
theorem dX12_wrongKept_11 : decode cX12_wrongKept 11 = .ok (.aload_n 0, 1) := by decide +kernel
theorem dX12_wrongKept_12 : decode cX12_wrongKept 12 = .ok (.getfield 28, 3) := by decide +kernel
theorem dX12_wrongKept_15 : decode cX12_wrongKept 15 = .ok (.iload_n 1, 1) := by decide +kernel
theorem dX12_wrongKept_16 : decode cX12_wrongKept 16 = .ok (.iaload, 1) := by decide +kernel
theorem dX12_wrongKept_17 : decode cX12_wrongKept 17 = .ok (.ifCond .ne 8, 3) := by decide +kernel
theorem dX12_wrongKept_20 : decode cX12_wrongKept 20 = .ok (.bipush (-11), 2) := by decide +kernel
theorem dX12_wrongKept_22 : decode cX12_wrongKept 22 = .ok (.goto 19, 3) := by decide +kernel
theorem dX12_wrongKept_25 : decode cX12_wrongKept 25 = .ok (.aload_n 0, 1) := by decide +kernel
theorem dX12_wrongKept_26 : decode cX12_wrongKept 26 = .ok (.getfield 28, 3) := by decide +kernel
theorem dX12_wrongKept_29 : decode cX12_wrongKept 29 = .ok (.iload_n 1, 1) := by decide +kernel
theorem dX12_wrongKept_30 : decode cX12_wrongKept 30 = .ok (.iaload, 1) := by decide +kernel
theorem dX12_wrongKept_31 : decode cX12_wrongKept 31 = .ok (.iconst 2, 1) := by decide +kernel
theorem dX12_wrongKept_32 : decode cX12_wrongKept 32 = .ok (.if_icmp .ne 8, 3) := by decide +kernel
theorem dX12_wrongKept_35 : decode cX12_wrongKept 35 = .ok (.bipush (-12), 2) := by decide +kernel
theorem dX12_wrongKept_37 : decode cX12_wrongKept 37 = .ok (.goto 4, 3) := by decide +kernel
theorem dX12_wrongKept_40 : decode cX12_wrongKept 40 = .ok (.iconst 0, 1) := by decide +kernel
theorem dX12_wrongKept_41 : decode cX12_wrongKept 41 = .ok (.ireturn, 1) := by decide +kernel
theorem dX12_keep_0 : decode cX12_keep 0 = .ok (.iload_n 1, 1) := by decide +kernel
theorem dX12_keep_1 : decode cX12_keep 1 = .ok (.invokestatic 263, 3) := by decide +kernel
theorem dX12_keep_4 : decode cX12_keep 4 = .ok (.ifCond .eq 38, 3) := by decide +kernel
theorem dX12_keep_7 : decode cX12_keep 7 = .ok (.iload_n 2, 1) := by decide +kernel
theorem dX12_keep_8 : decode cX12_keep 8 = .ok (.iconst 0, 1) := by decide +kernel
theorem dX12_keep_9 : decode cX12_keep 9 = .ok (.iconst 1, 1) := by decide +kernel
theorem dX12_keep_10 : decode cX12_keep 10 = .ok (.invokestatic 53, 3) := by decide +kernel
theorem dX12_keep_13 : decode cX12_keep 13 = .ok (.ifCond .eq 29, 3) := by decide +kernel
theorem dX12_keep_16 : decode cX12_keep 16 = .ok (.iload_n 2, 1) := by decide +kernel
theorem dX12_keep_17 : decode cX12_keep 17 = .ok (.iconst 1, 1) := by decide +kernel
theorem dX12_keep_18 : decode cX12_keep 18 = .ok (.if_icmp .ne 26, 3) := by decide +kernel
theorem dX12_keep_21 : decode cX12_keep 21 = .ok (.iload_n 3, 1) := by decide +kernel
theorem dX12_keep_22 : decode cX12_keep 22 = .ok (.iconst 0, 1) := by decide +kernel
theorem dX12_keep_23 : decode cX12_keep 23 = .ok (.bipush 7, 2) := by decide +kernel
theorem dX12_keep_25 : decode cX12_keep 25 = .ok (.invokestatic 53, 3) := by decide +kernel
theorem dX12_keep_28 : decode cX12_keep 28 = .ok (.ifCond .eq 14, 3) := by decide +kernel
theorem dX12_keep_31 : decode cX12_keep 31 = .ok (.iload 4, 2) := by decide +kernel
theorem dX12_keep_33 : decode cX12_keep 33 = .ok (.iconst 0, 1) := by decide +kernel
theorem dX12_keep_34 : decode cX12_keep 34 = .ok (.bipush 9, 2) := by decide +kernel
theorem dX12_keep_36 : decode cX12_keep 36 = .ok (.invokestatic 53, 3) := by decide +kernel
theorem dX12_keep_39 : decode cX12_keep 39 = .ok (.ifCond .ne 5, 3) := by decide +kernel
theorem dX12_keep_42 : decode cX12_keep 42 = .ok (.iconst (-1), 1) := by decide +kernel
theorem dX12_keep_43 : decode cX12_keep 43 = .ok (.ireturn, 1) := by decide +kernel
theorem dX12_keep_44 : decode cX12_keep 44 = .ok (.aload_n 0, 1) := by decide +kernel
theorem dX12_keep_45 : decode cX12_keep 45 = .ok (.getfield 28, 3) := by decide +kernel
theorem dX12_keep_48 : decode cX12_keep 48 = .ok (.iload_n 1, 1) := by decide +kernel
theorem dX12_keep_49 : decode cX12_keep 49 = .ok (.iload_n 2, 1) := by decide +kernel
theorem dX12_keep_50 : decode cX12_keep 50 = .ok (.iastore, 1) := by decide +kernel
theorem dX12_keep_51 : decode cX12_keep 51 = .ok (.aload_n 0, 1) := by decide +kernel
theorem dX12_keep_52 : decode cX12_keep 52 = .ok (.getfield 31, 3) := by decide +kernel
theorem dX12_keep_55 : decode cX12_keep 55 = .ok (.iload_n 1, 1) := by decide +kernel
theorem dX12_keep_56 : decode cX12_keep 56 = .ok (.iload_n 3, 1) := by decide +kernel
theorem dX12_keep_57 : decode cX12_keep 57 = .ok (.iastore, 1) := by decide +kernel
theorem dX12_keep_58 : decode cX12_keep 58 = .ok (.aload_n 0, 1) := by decide +kernel
theorem dX12_keep_59 : decode cX12_keep 59 = .ok (.getfield 34, 3) := by decide +kernel
theorem dX12_keep_62 : decode cX12_keep 62 = .ok (.iload_n 1, 1) := by decide +kernel
theorem dX12_keep_63 : decode cX12_keep 63 = .ok (.iload 4, 2) := by decide +kernel
theorem dX12_keep_65 : decode cX12_keep 65 = .ok (.iastore, 1) := by decide +kernel
theorem dX12_keep_66 : decode cX12_keep 66 = .ok (.iconst 0, 1) := by decide +kernel
theorem dX12_keep_67 : decode cX12_keep 67 = .ok (.ireturn, 1) := by decide +kernel
theorem dX12_row_0 : decode cX12_row 0 = .ok (.iload_n 1, 1) := by decide +kernel
theorem dX12_row_1 : decode cX12_row 1 = .ok (.invokestatic 263, 3) := by decide +kernel
theorem dX12_row_4 : decode cX12_row 4 = .ok (.ifCond .eq 18, 3) := by decide +kernel
theorem dX12_row_7 : decode cX12_row 7 = .ok (.iload_n 2, 1) := by decide +kernel
theorem dX12_row_8 : decode cX12_row 8 = .ok (.iconst 0, 1) := by decide +kernel
theorem dX12_row_9 : decode cX12_row 9 = .ok (.iconst 2, 1) := by decide +kernel
theorem dX12_row_10 : decode cX12_row 10 = .ok (.invokestatic 53, 3) := by decide +kernel
theorem dX12_row_13 : decode cX12_row 13 = .ok (.ifCond .eq 9, 3) := by decide +kernel
theorem dX12_row_16 : decode cX12_row 16 = .ok (.iload_n 3, 1) := by decide +kernel
theorem dX12_row_17 : decode cX12_row 17 = .ok (.bipush 100, 2) := by decide +kernel
theorem dX12_row_19 : decode cX12_row 19 = .ok (.if_icmp .le 5, 3) := by decide +kernel
theorem dX12_row_22 : decode cX12_row 22 = .ok (.iconst (-1), 1) := by decide +kernel
theorem dX12_row_23 : decode cX12_row 23 = .ok (.ireturn, 1) := by decide +kernel
theorem dX12_row_24 : decode cX12_row 24 = .ok (.iload_n 3, 1) := by decide +kernel
theorem dX12_row_25 : decode cX12_row 25 = .ok (.ifCond .ge 6, 3) := by decide +kernel
theorem dX12_row_28 : decode cX12_row 28 = .ok (.bipush (-14), 2) := by decide +kernel
theorem dX12_row_30 : decode cX12_row 30 = .ok (.ireturn, 1) := by decide +kernel
theorem dX12_row_31 : decode cX12_row 31 = .ok (.aload_n 0, 1) := by decide +kernel
theorem dX12_row_32 : decode cX12_row 32 = .ok (.getfield 28, 3) := by decide +kernel
theorem dX12_row_35 : decode cX12_row 35 = .ok (.iload_n 1, 1) := by decide +kernel
theorem dX12_row_36 : decode cX12_row 36 = .ok (.iconst 2, 1) := by decide +kernel
theorem dX12_row_37 : decode cX12_row 37 = .ok (.iastore, 1) := by decide +kernel
theorem dX12_row_38 : decode cX12_row 38 = .ok (.aload_n 0, 1) := by decide +kernel
theorem dX12_row_39 : decode cX12_row 39 = .ok (.getfield 37, 3) := by decide +kernel
theorem dX12_row_42 : decode cX12_row 42 = .ok (.iload_n 1, 1) := by decide +kernel
theorem dX12_row_43 : decode cX12_row 43 = .ok (.iload_n 2, 1) := by decide +kernel
theorem dX12_row_44 : decode cX12_row 44 = .ok (.iastore, 1) := by decide +kernel
theorem dX12_row_45 : decode cX12_row 45 = .ok (.aload_n 0, 1) := by decide +kernel
theorem dX12_row_46 : decode cX12_row 46 = .ok (.getfield 40, 3) := by decide +kernel
theorem dX12_row_49 : decode cX12_row 49 = .ok (.iload_n 1, 1) := by decide +kernel
theorem dX12_row_50 : decode cX12_row 50 = .ok (.iload_n 3, 1) := by decide +kernel
theorem dX12_row_51 : decode cX12_row 51 = .ok (.iastore, 1) := by decide +kernel
theorem dX12_row_52 : decode cX12_row 52 = .ok (.iconst 0, 1) := by decide +kernel
theorem dX12_row_53 : decode cX12_row 53 = .ok (.istore 4, 2) := by decide +kernel
theorem dX12_row_55 : decode cX12_row 55 = .ok (.iload 4, 2) := by decide +kernel
theorem dX12_row_57 : decode cX12_row 57 = .ok (.bipush 100, 2) := by decide +kernel
theorem dX12_row_59 : decode cX12_row 59 = .ok (.if_icmp .ge 22, 3) := by decide +kernel
theorem dX12_row_62 : decode cX12_row 62 = .ok (.aload_n 0, 1) := by decide +kernel
theorem dX12_row_63 : decode cX12_row 63 = .ok (.getfield 43, 3) := by decide +kernel
theorem dX12_row_66 : decode cX12_row 66 = .ok (.bipush 100, 2) := by decide +kernel
theorem dX12_row_68 : decode cX12_row 68 = .ok (.iload_n 1, 1) := by decide +kernel
theorem dX12_row_69 : decode cX12_row 69 = .ok (.imul, 1) := by decide +kernel
theorem dX12_row_70 : decode cX12_row 70 = .ok (.iload 4, 2) := by decide +kernel
theorem dX12_row_72 : decode cX12_row 72 = .ok (.iadd, 1) := by decide +kernel
theorem dX12_row_73 : decode cX12_row 73 = .ok (.iconst 0, 1) := by decide +kernel
theorem dX12_row_74 : decode cX12_row 74 = .ok (.iastore, 1) := by decide +kernel
theorem dX12_row_75 : decode cX12_row 75 = .ok (.iinc 4 1, 3) := by decide +kernel
theorem dX12_row_78 : decode cX12_row 78 = .ok (.goto (-23), 3) := by decide +kernel
theorem dX12_row_81 : decode cX12_row 81 = .ok (.iconst 0, 1) := by decide +kernel
theorem dX12_row_82 : decode cX12_row 82 = .ok (.ireturn, 1) := by decide +kernel
theorem dX12_put_0 : decode cX12_put 0 = .ok (.aload_n 0, 1) := by decide +kernel
theorem dX12_put_1 : decode cX12_put 1 = .ok (.iload_n 1, 1) := by decide +kernel
theorem dX12_put_2 : decode cX12_put 2 = .ok (.iconst (-1), 1) := by decide +kernel
theorem dX12_put_3 : decode cX12_put 3 = .ok (.invokevirtual 152, 3) := by decide +kernel
theorem dX12_put_6 : decode cX12_put 6 = .ok (.istore 4, 2) := by decide +kernel
theorem dX12_put_8 : decode cX12_put 8 = .ok (.iload 4, 2) := by decide +kernel
theorem dX12_put_10 : decode cX12_put 10 = .ok (.ifCond .eq 6, 3) := by decide +kernel
theorem dX12_put_13 : decode cX12_put 13 = .ok (.iload 4, 2) := by decide +kernel
theorem dX12_put_15 : decode cX12_put 15 = .ok (.ireturn, 1) := by decide +kernel
theorem dX12_put_16 : decode cX12_put 16 = .ok (.iload_n 2, 1) := by decide +kernel
theorem dX12_put_17 : decode cX12_put 17 = .ok (.iconst 0, 1) := by decide +kernel
theorem dX12_put_18 : decode cX12_put 18 = .ok (.aload_n 0, 1) := by decide +kernel
theorem dX12_put_19 : decode cX12_put 19 = .ok (.getfield 40, 3) := by decide +kernel
theorem dX12_put_22 : decode cX12_put 22 = .ok (.iload_n 1, 1) := by decide +kernel
theorem dX12_put_23 : decode cX12_put 23 = .ok (.iaload, 1) := by decide +kernel
theorem dX12_put_24 : decode cX12_put 24 = .ok (.iconst 1, 1) := by decide +kernel
theorem dX12_put_25 : decode cX12_put 25 = .ok (.isub, 1) := by decide +kernel
theorem dX12_put_26 : decode cX12_put 26 = .ok (.invokestatic 53, 3) := by decide +kernel
theorem dX12_put_29 : decode cX12_put 29 = .ok (.ifCond .ne 6, 3) := by decide +kernel
theorem dX12_put_32 : decode cX12_put 32 = .ok (.bipush (-13), 2) := by decide +kernel
theorem dX12_put_34 : decode cX12_put 34 = .ok (.ireturn, 1) := by decide +kernel
theorem dX12_put_35 : decode cX12_put 35 = .ok (.aload_n 0, 1) := by decide +kernel
theorem dX12_put_36 : decode cX12_put 36 = .ok (.getfield 43, 3) := by decide +kernel
theorem dX12_put_39 : decode cX12_put 39 = .ok (.bipush 100, 2) := by decide +kernel
theorem dX12_put_41 : decode cX12_put 41 = .ok (.iload_n 1, 1) := by decide +kernel
theorem dX12_put_42 : decode cX12_put 42 = .ok (.imul, 1) := by decide +kernel
theorem dX12_put_43 : decode cX12_put 43 = .ok (.iload_n 2, 1) := by decide +kernel
theorem dX12_put_44 : decode cX12_put 44 = .ok (.iadd, 1) := by decide +kernel
theorem dX12_put_45 : decode cX12_put 45 = .ok (.aload_n 0, 1) := by decide +kernel
theorem dX12_put_46 : decode cX12_put 46 = .ok (.getfield 37, 3) := by decide +kernel
theorem dX12_put_49 : decode cX12_put 49 = .ok (.iload_n 1, 1) := by decide +kernel
theorem dX12_put_50 : decode cX12_put 50 = .ok (.iaload, 1) := by decide +kernel
theorem dX12_put_51 : decode cX12_put 51 = .ok (.ifCond .ne 8, 3) := by decide +kernel
theorem dX12_put_54 : decode cX12_put 54 = .ok (.iload_n 3, 1) := by decide +kernel
theorem dX12_put_55 : decode cX12_put 55 = .ok (.i2b, 1) := by decide +kernel
theorem dX12_put_56 : decode cX12_put 56 = .ok (.goto 19, 3) := by decide +kernel
theorem dX12_put_59 : decode cX12_put 59 = .ok (.aload_n 0, 1) := by decide +kernel
theorem dX12_put_60 : decode cX12_put 60 = .ok (.getfield 37, 3) := by decide +kernel
theorem dX12_put_63 : decode cX12_put 63 = .ok (.iload_n 1, 1) := by decide +kernel
theorem dX12_put_64 : decode cX12_put 64 = .ok (.iaload, 1) := by decide +kernel
theorem dX12_put_65 : decode cX12_put 65 = .ok (.iconst 1, 1) := by decide +kernel
theorem dX12_put_66 : decode cX12_put 66 = .ok (.if_icmp .ne 8, 3) := by decide +kernel
theorem dX12_put_69 : decode cX12_put 69 = .ok (.iload_n 3, 1) := by decide +kernel
theorem dX12_put_70 : decode cX12_put 70 = .ok (.i2s, 1) := by decide +kernel
theorem dX12_put_71 : decode cX12_put 71 = .ok (.goto 4, 3) := by decide +kernel
theorem dX12_put_74 : decode cX12_put 74 = .ok (.iload_n 3, 1) := by decide +kernel
theorem dX12_put_75 : decode cX12_put 75 = .ok (.iastore, 1) := by decide +kernel
theorem dX12_put_76 : decode cX12_put 76 = .ok (.iconst 0, 1) := by decide +kernel
theorem dX12_put_77 : decode cX12_put 77 = .ok (.ireturn, 1) := by decide +kernel
theorem dX12_element_0 : decode cX12_element 0 = .ok (.aload_n 0, 1) := by decide +kernel
theorem dX12_element_1 : decode cX12_element 1 = .ok (.iload_n 1, 1) := by decide +kernel
theorem dX12_element_2 : decode cX12_element 2 = .ok (.invokestatic 263, 3) := by decide +kernel
theorem dX12_element_5 : decode cX12_element 5 = .ok (.ifCond .ne 7, 3) := by decide +kernel
theorem dX12_element_8 : decode cX12_element 8 = .ok (.iconst 1, 1) := by decide +kernel
theorem dX12_element_9 : decode cX12_element 9 = .ok (.goto 34, 3) := by decide +kernel
theorem dX12_element_12 : decode cX12_element 12 = .ok (.aload_n 0, 1) := by decide +kernel
theorem dX12_element_13 : decode cX12_element 13 = .ok (.getfield 28, 3) := by decide +kernel
theorem dX12_element_16 : decode cX12_element 16 = .ok (.iload_n 1, 1) := by decide +kernel
theorem dX12_element_17 : decode cX12_element 17 = .ok (.iaload, 1) := by decide +kernel
theorem dX12_element_18 : decode cX12_element 18 = .ok (.iconst 2, 1) := by decide +kernel
theorem dX12_element_19 : decode cX12_element 19 = .ok (.if_icmp .ne 19, 3) := by decide +kernel
theorem dX12_element_22 : decode cX12_element 22 = .ok (.iload_n 2, 1) := by decide +kernel
theorem dX12_element_23 : decode cX12_element 23 = .ok (.iconst 0, 1) := by decide +kernel
theorem dX12_element_24 : decode cX12_element 24 = .ok (.aload_n 0, 1) := by decide +kernel
theorem dX12_element_25 : decode cX12_element 25 = .ok (.getfield 40, 3) := by decide +kernel
theorem dX12_element_28 : decode cX12_element 28 = .ok (.iload_n 1, 1) := by decide +kernel
theorem dX12_element_29 : decode cX12_element 29 = .ok (.iaload, 1) := by decide +kernel
theorem dX12_element_30 : decode cX12_element 30 = .ok (.iconst 1, 1) := by decide +kernel
theorem dX12_element_31 : decode cX12_element 31 = .ok (.isub, 1) := by decide +kernel
theorem dX12_element_32 : decode cX12_element 32 = .ok (.invokestatic 53, 3) := by decide +kernel
theorem dX12_element_35 : decode cX12_element 35 = .ok (.ifCond .ne 7, 3) := by decide +kernel
theorem dX12_element_38 : decode cX12_element 38 = .ok (.iconst 2, 1) := by decide +kernel
theorem dX12_element_39 : decode cX12_element 39 = .ok (.goto 4, 3) := by decide +kernel
theorem dX12_element_42 : decode cX12_element 42 = .ok (.iconst 0, 1) := by decide +kernel
theorem dX12_element_43 : decode cX12_element 43 = .ok (.putfield 260, 3) := by decide +kernel
theorem dX12_element_46 : decode cX12_element 46 = .ok (.aload_n 0, 1) := by decide +kernel
theorem dX12_element_47 : decode cX12_element 47 = .ok (.getfield 260, 3) := by decide +kernel
theorem dX12_element_50 : decode cX12_element 50 = .ok (.ifCond .ne 18, 3) := by decide +kernel
theorem dX12_element_53 : decode cX12_element 53 = .ok (.aload_n 0, 1) := by decide +kernel
theorem dX12_element_54 : decode cX12_element 54 = .ok (.getfield 43, 3) := by decide +kernel
theorem dX12_element_57 : decode cX12_element 57 = .ok (.bipush 100, 2) := by decide +kernel
theorem dX12_element_59 : decode cX12_element 59 = .ok (.iload_n 1, 1) := by decide +kernel
theorem dX12_element_60 : decode cX12_element 60 = .ok (.imul, 1) := by decide +kernel
theorem dX12_element_61 : decode cX12_element 61 = .ok (.iload_n 2, 1) := by decide +kernel
theorem dX12_element_62 : decode cX12_element 62 = .ok (.iadd, 1) := by decide +kernel
theorem dX12_element_63 : decode cX12_element 63 = .ok (.iaload, 1) := by decide +kernel
theorem dX12_element_64 : decode cX12_element 64 = .ok (.i2l, 1) := by decide +kernel
theorem dX12_element_65 : decode cX12_element 65 = .ok (.goto 4, 3) := by decide +kernel
theorem dX12_element_68 : decode cX12_element 68 = .ok (.lconst 0, 1) := by decide +kernel
theorem dX12_element_69 : decode cX12_element 69 = .ok (.lreturn, 1) := by decide +kernel
theorem dX12_copy_0 : decode cX12_copy 0 = .ok (.iload_n 1, 1) := by decide +kernel
theorem dX12_copy_1 : decode cX12_copy 1 = .ok (.invokestatic 263, 3) := by decide +kernel
theorem dX12_copy_4 : decode cX12_copy 4 = .ok (.ifCond .eq 10, 3) := by decide +kernel
theorem dX12_copy_7 : decode cX12_copy 7 = .ok (.iload_n 3, 1) := by decide +kernel
theorem dX12_copy_8 : decode cX12_copy 8 = .ok (.invokestatic 263, 3) := by decide +kernel
theorem dX12_copy_11 : decode cX12_copy 11 = .ok (.ifCond .ne 5, 3) := by decide +kernel
theorem dX12_copy_14 : decode cX12_copy 14 = .ok (.iconst (-1), 1) := by decide +kernel
theorem dX12_copy_15 : decode cX12_copy 15 = .ok (.ireturn, 1) := by decide +kernel
theorem dX12_copy_16 : decode cX12_copy 16 = .ok (.aload_n 0, 1) := by decide +kernel
theorem dX12_copy_17 : decode cX12_copy 17 = .ok (.getfield 28, 3) := by decide +kernel
theorem dX12_copy_20 : decode cX12_copy 20 = .ok (.iload_n 1, 1) := by decide +kernel
theorem dX12_copy_21 : decode cX12_copy 21 = .ok (.iaload, 1) := by decide +kernel
theorem dX12_copy_22 : decode cX12_copy 22 = .ok (.ifCond .eq 12, 3) := by decide +kernel
theorem dX12_copy_25 : decode cX12_copy 25 = .ok (.aload_n 0, 1) := by decide +kernel
theorem dX12_copy_26 : decode cX12_copy 26 = .ok (.getfield 28, 3) := by decide +kernel
theorem dX12_copy_29 : decode cX12_copy 29 = .ok (.iload_n 3, 1) := by decide +kernel
theorem dX12_copy_30 : decode cX12_copy 30 = .ok (.iaload, 1) := by decide +kernel
theorem dX12_copy_31 : decode cX12_copy 31 = .ok (.ifCond .ne 6, 3) := by decide +kernel
theorem dX12_copy_34 : decode cX12_copy 34 = .ok (.bipush (-11), 2) := by decide +kernel
theorem dX12_copy_36 : decode cX12_copy 36 = .ok (.ireturn, 1) := by decide +kernel
theorem dX12_copy_37 : decode cX12_copy 37 = .ok (.aload_n 0, 1) := by decide +kernel
theorem dX12_copy_38 : decode cX12_copy 38 = .ok (.getfield 28, 3) := by decide +kernel
theorem dX12_copy_41 : decode cX12_copy 41 = .ok (.iload_n 1, 1) := by decide +kernel
theorem dX12_copy_42 : decode cX12_copy 42 = .ok (.iaload, 1) := by decide +kernel
theorem dX12_copy_43 : decode cX12_copy 43 = .ok (.iconst 2, 1) := by decide +kernel
theorem dX12_copy_44 : decode cX12_copy 44 = .ok (.if_icmp .ne 28, 3) := by decide +kernel
theorem dX12_copy_47 : decode cX12_copy 47 = .ok (.aload_n 0, 1) := by decide +kernel
theorem dX12_copy_48 : decode cX12_copy 48 = .ok (.getfield 28, 3) := by decide +kernel
theorem dX12_copy_51 : decode cX12_copy 51 = .ok (.iload_n 3, 1) := by decide +kernel
theorem dX12_copy_52 : decode cX12_copy 52 = .ok (.iaload, 1) := by decide +kernel
theorem dX12_copy_53 : decode cX12_copy 53 = .ok (.iconst 2, 1) := by decide +kernel
theorem dX12_copy_54 : decode cX12_copy 54 = .ok (.if_icmp .ne 18, 3) := by decide +kernel
theorem dX12_copy_57 : decode cX12_copy 57 = .ok (.aload_n 0, 1) := by decide +kernel
theorem dX12_copy_58 : decode cX12_copy 58 = .ok (.getfield 37, 3) := by decide +kernel
theorem dX12_copy_61 : decode cX12_copy 61 = .ok (.iload_n 1, 1) := by decide +kernel
theorem dX12_copy_62 : decode cX12_copy 62 = .ok (.iaload, 1) := by decide +kernel
theorem dX12_copy_63 : decode cX12_copy 63 = .ok (.aload_n 0, 1) := by decide +kernel
theorem dX12_copy_64 : decode cX12_copy 64 = .ok (.getfield 37, 3) := by decide +kernel
theorem dX12_copy_67 : decode cX12_copy 67 = .ok (.iload_n 3, 1) := by decide +kernel
theorem dX12_copy_68 : decode cX12_copy 68 = .ok (.iaload, 1) := by decide +kernel
theorem dX12_copy_69 : decode cX12_copy 69 = .ok (.if_icmp .eq 6, 3) := by decide +kernel
theorem dX12_copy_72 : decode cX12_copy 72 = .ok (.bipush (-12), 2) := by decide +kernel
theorem dX12_copy_74 : decode cX12_copy 74 = .ok (.ireturn, 1) := by decide +kernel
theorem dX12_copy_75 : decode cX12_copy 75 = .ok (.iload 5, 2) := by decide +kernel
theorem dX12_copy_77 : decode cX12_copy 77 = .ok (.ifCond .lt 39, 3) := by decide +kernel
theorem dX12_copy_80 : decode cX12_copy 80 = .ok (.iload_n 2, 1) := by decide +kernel
theorem dX12_copy_81 : decode cX12_copy 81 = .ok (.ifCond .lt 35, 3) := by decide +kernel
theorem dX12_copy_84 : decode cX12_copy 84 = .ok (.iload 4, 2) := by decide +kernel
theorem dX12_copy_86 : decode cX12_copy 86 = .ok (.ifCond .lt 30, 3) := by decide +kernel
theorem dX12_copy_89 : decode cX12_copy 89 = .ok (.iload 5, 2) := by decide +kernel
theorem dX12_copy_91 : decode cX12_copy 91 = .ok (.aload_n 0, 1) := by decide +kernel
theorem dX12_copy_92 : decode cX12_copy 92 = .ok (.getfield 40, 3) := by decide +kernel
theorem dX12_copy_95 : decode cX12_copy 95 = .ok (.iload_n 1, 1) := by decide +kernel
theorem dX12_copy_96 : decode cX12_copy 96 = .ok (.iaload, 1) := by decide +kernel
theorem dX12_copy_97 : decode cX12_copy 97 = .ok (.iload_n 2, 1) := by decide +kernel
theorem dX12_copy_98 : decode cX12_copy 98 = .ok (.isub, 1) := by decide +kernel
theorem dX12_copy_99 : decode cX12_copy 99 = .ok (.if_icmp .gt 17, 3) := by decide +kernel
theorem dX12_copy_102 : decode cX12_copy 102 = .ok (.iload 5, 2) := by decide +kernel
theorem dX12_copy_104 : decode cX12_copy 104 = .ok (.aload_n 0, 1) := by decide +kernel
theorem dX12_copy_105 : decode cX12_copy 105 = .ok (.getfield 40, 3) := by decide +kernel
theorem dX12_copy_108 : decode cX12_copy 108 = .ok (.iload_n 3, 1) := by decide +kernel
theorem dX12_copy_109 : decode cX12_copy 109 = .ok (.iaload, 1) := by decide +kernel
theorem dX12_copy_110 : decode cX12_copy 110 = .ok (.iload 4, 2) := by decide +kernel
theorem dX12_copy_112 : decode cX12_copy 112 = .ok (.isub, 1) := by decide +kernel
theorem dX12_copy_113 : decode cX12_copy 113 = .ok (.if_icmp .le 6, 3) := by decide +kernel
theorem dX12_copy_116 : decode cX12_copy 116 = .ok (.bipush (-13), 2) := by decide +kernel
theorem dX12_copy_118 : decode cX12_copy 118 = .ok (.ireturn, 1) := by decide +kernel
theorem dX12_copy_119 : decode cX12_copy 119 = .ok (.iconst 0, 1) := by decide +kernel
theorem dX12_copy_120 : decode cX12_copy 120 = .ok (.istore 6, 2) := by decide +kernel
theorem dX12_copy_122 : decode cX12_copy 122 = .ok (.iload 6, 2) := by decide +kernel
theorem dX12_copy_124 : decode cX12_copy 124 = .ok (.iload 5, 2) := by decide +kernel
theorem dX12_copy_126 : decode cX12_copy 126 = .ok (.if_icmp .ge 58, 3) := by decide +kernel
theorem dX12_copy_129 : decode cX12_copy 129 = .ok (.iload_n 2, 1) := by decide +kernel
theorem dX12_copy_130 : decode cX12_copy 130 = .ok (.iload 4, 2) := by decide +kernel
theorem dX12_copy_132 : decode cX12_copy 132 = .ok (.if_icmp .le 8, 3) := by decide +kernel
theorem dX12_copy_135 : decode cX12_copy 135 = .ok (.iload 6, 2) := by decide +kernel
theorem dX12_copy_137 : decode cX12_copy 137 = .ok (.goto 10, 3) := by decide +kernel
theorem dX12_copy_140 : decode cX12_copy 140 = .ok (.iload 5, 2) := by decide +kernel
theorem dX12_copy_142 : decode cX12_copy 142 = .ok (.iconst 1, 1) := by decide +kernel
theorem dX12_copy_143 : decode cX12_copy 143 = .ok (.isub, 1) := by decide +kernel
theorem dX12_copy_144 : decode cX12_copy 144 = .ok (.iload 6, 2) := by decide +kernel
theorem dX12_copy_146 : decode cX12_copy 146 = .ok (.isub, 1) := by decide +kernel
theorem dX12_copy_147 : decode cX12_copy 147 = .ok (.istore 7, 2) := by decide +kernel
theorem dX12_copy_149 : decode cX12_copy 149 = .ok (.aload_n 0, 1) := by decide +kernel
theorem dX12_copy_150 : decode cX12_copy 150 = .ok (.getfield 43, 3) := by decide +kernel
theorem dX12_copy_153 : decode cX12_copy 153 = .ok (.bipush 100, 2) := by decide +kernel
theorem dX12_copy_155 : decode cX12_copy 155 = .ok (.iload_n 3, 1) := by decide +kernel
theorem dX12_copy_156 : decode cX12_copy 156 = .ok (.imul, 1) := by decide +kernel
theorem dX12_copy_157 : decode cX12_copy 157 = .ok (.iload 4, 2) := by decide +kernel
theorem dX12_copy_159 : decode cX12_copy 159 = .ok (.iadd, 1) := by decide +kernel
theorem dX12_copy_160 : decode cX12_copy 160 = .ok (.iload 7, 2) := by decide +kernel
theorem dX12_copy_162 : decode cX12_copy 162 = .ok (.iadd, 1) := by decide +kernel
theorem dX12_copy_163 : decode cX12_copy 163 = .ok (.aload_n 0, 1) := by decide +kernel
theorem dX12_copy_164 : decode cX12_copy 164 = .ok (.getfield 43, 3) := by decide +kernel
theorem dX12_copy_167 : decode cX12_copy 167 = .ok (.bipush 100, 2) := by decide +kernel
theorem dX12_copy_169 : decode cX12_copy 169 = .ok (.iload_n 1, 1) := by decide +kernel
theorem dX12_copy_170 : decode cX12_copy 170 = .ok (.imul, 1) := by decide +kernel
theorem dX12_copy_171 : decode cX12_copy 171 = .ok (.iload_n 2, 1) := by decide +kernel
theorem dX12_copy_172 : decode cX12_copy 172 = .ok (.iadd, 1) := by decide +kernel
theorem dX12_copy_173 : decode cX12_copy 173 = .ok (.iload 7, 2) := by decide +kernel
theorem dX12_copy_175 : decode cX12_copy 175 = .ok (.iadd, 1) := by decide +kernel
theorem dX12_copy_176 : decode cX12_copy 176 = .ok (.iaload, 1) := by decide +kernel
theorem dX12_copy_177 : decode cX12_copy 177 = .ok (.iastore, 1) := by decide +kernel
theorem dX12_copy_178 : decode cX12_copy 178 = .ok (.iinc 6 1, 3) := by decide +kernel
theorem dX12_copy_181 : decode cX12_copy 181 = .ok (.goto (-59), 3) := by decide +kernel
theorem dX12_copy_184 : decode cX12_copy 184 = .ok (.iload 5, 2) := by decide +kernel
theorem dX12_copy_186 : decode cX12_copy 186 = .ok (.ireturn, 1) := by decide +kernel
theorem dX12_costBy_0 : decode cX12_costBy 0 = .ok (.iload_n 0, 1) := by decide +kernel
theorem dX12_costBy_1 : decode cX12_costBy 1 = .ok (.tableswitch 64 1 7 #[43, 46, 50, 52, 58, 60, 62], 43) := by decide +kernel
theorem dX12_costBy_44 : decode cX12_costBy 44 = .ok (.bipush 6, 2) := by decide +kernel
theorem dX12_costBy_46 : decode cX12_costBy 46 = .ok (.ireturn, 1) := by decide +kernel
theorem dX12_costBy_47 : decode cX12_costBy 47 = .ok (.iconst 2, 1) := by decide +kernel
theorem dX12_costBy_48 : decode cX12_costBy 48 = .ok (.iload_n 1, 1) := by decide +kernel
theorem dX12_costBy_49 : decode cX12_costBy 49 = .ok (.iadd, 1) := by decide +kernel
theorem dX12_costBy_50 : decode cX12_costBy 50 = .ok (.ireturn, 1) := by decide +kernel
theorem dX12_costBy_51 : decode cX12_costBy 51 = .ok (.iconst 1, 1) := by decide +kernel
theorem dX12_costBy_52 : decode cX12_costBy 52 = .ok (.ireturn, 1) := by decide +kernel
theorem dX12_costBy_53 : decode cX12_costBy 53 = .ok (.iconst 2, 1) := by decide +kernel
theorem dX12_costBy_54 : decode cX12_costBy 54 = .ok (.iload_n 1, 1) := by decide +kernel
theorem dX12_costBy_55 : decode cX12_costBy 55 = .ok (.iadd, 1) := by decide +kernel
theorem dX12_costBy_56 : decode cX12_costBy 56 = .ok (.iconst 2, 1) := by decide +kernel
theorem dX12_costBy_57 : decode cX12_costBy 57 = .ok (.idiv, 1) := by decide +kernel
theorem dX12_costBy_58 : decode cX12_costBy 58 = .ok (.ireturn, 1) := by decide +kernel
theorem dX12_costBy_59 : decode cX12_costBy 59 = .ok (.iconst 3, 1) := by decide +kernel
theorem dX12_costBy_60 : decode cX12_costBy 60 = .ok (.ireturn, 1) := by decide +kernel
theorem dX12_costBy_61 : decode cX12_costBy 61 = .ok (.iload_n 1, 1) := by decide +kernel
theorem dX12_costBy_62 : decode cX12_costBy 62 = .ok (.ireturn, 1) := by decide +kernel
theorem dX12_costBy_63 : decode cX12_costBy 63 = .ok (.iconst 0, 1) := by decide +kernel
theorem dX12_costBy_64 : decode cX12_costBy 64 = .ok (.ireturn, 1) := by decide +kernel
theorem dX12_costBy_65 : decode cX12_costBy 65 = .ok (.iconst 2, 1) := by decide +kernel
theorem dX12_costBy_66 : decode cX12_costBy 66 = .ok (.ireturn, 1) := by decide +kernel
theorem dX12_cost_0 : decode cX12_cost 0 = .ok (.aload_n 0, 1) := by decide +kernel
theorem dX12_cost_1 : decode cX12_cost 1 = .ok (.iload_n 1, 1) := by decide +kernel
theorem dX12_cost_2 : decode cX12_cost 2 = .ok (.invokevirtual 168, 3) := by decide +kernel
theorem dX12_cost_5 : decode cX12_cost 5 = .ok (.istore_n 2, 1) := by decide +kernel
theorem dX12_cost_6 : decode cX12_cost 6 = .ok (.iload_n 2, 1) := by decide +kernel
theorem dX12_cost_7 : decode cX12_cost 7 = .ok (.ifCond .eq 7, 3) := by decide +kernel
theorem dX12_cost_10 : decode cX12_cost 10 = .ok (.iload_n 2, 1) := by decide +kernel
theorem dX12_cost_11 : decode cX12_cost 11 = .ok (.goto 18, 3) := by decide +kernel
theorem dX12_cost_14 : decode cX12_cost 14 = .ok (.aload_n 0, 1) := by decide +kernel
theorem dX12_cost_15 : decode cX12_cost 15 = .ok (.getfield 31, 3) := by decide +kernel
theorem dX12_cost_18 : decode cX12_cost 18 = .ok (.iload_n 1, 1) := by decide +kernel
theorem dX12_cost_19 : decode cX12_cost 19 = .ok (.iaload, 1) := by decide +kernel
theorem dX12_cost_20 : decode cX12_cost 20 = .ok (.aload_n 0, 1) := by decide +kernel
theorem dX12_cost_21 : decode cX12_cost 21 = .ok (.getfield 34, 3) := by decide +kernel
theorem dX12_cost_24 : decode cX12_cost 24 = .ok (.iload_n 1, 1) := by decide +kernel
theorem dX12_cost_25 : decode cX12_cost 25 = .ok (.iaload, 1) := by decide +kernel
theorem dX12_cost_26 : decode cX12_cost 26 = .ok (.invokestatic 266, 3) := by decide +kernel
theorem dX12_cost_29 : decode cX12_cost 29 = .ok (.ireturn, 1) := by decide +kernel
theorem dX12_toss_0 : decode cX12_toss 0 = .ok (.aload_n 0, 1) := by decide +kernel
theorem dX12_toss_1 : decode cX12_toss 1 = .ok (.iload_n 1, 1) := by decide +kernel
theorem dX12_toss_2 : decode cX12_toss 2 = .ok (.invokevirtual 168, 3) := by decide +kernel
theorem dX12_toss_5 : decode cX12_toss 5 = .ok (.istore_n 2, 1) := by decide +kernel
theorem dX12_toss_6 : decode cX12_toss 6 = .ok (.iload_n 2, 1) := by decide +kernel
theorem dX12_toss_7 : decode cX12_toss 7 = .ok (.ifCond .eq 5, 3) := by decide +kernel
theorem dX12_toss_10 : decode cX12_toss 10 = .ok (.iload_n 2, 1) := by decide +kernel
theorem dX12_toss_11 : decode cX12_toss 11 = .ok (.ireturn, 1) := by decide +kernel
theorem dX12_toss_12 : decode cX12_toss 12 = .ok (.aload_n 0, 1) := by decide +kernel
theorem dX12_toss_13 : decode cX12_toss 13 = .ok (.getfield 31, 3) := by decide +kernel
theorem dX12_toss_16 : decode cX12_toss 16 = .ok (.iload_n 1, 1) := by decide +kernel
theorem dX12_toss_17 : decode cX12_toss 17 = .ok (.iaload, 1) := by decide +kernel
theorem dX12_toss_18 : decode cX12_toss 18 = .ok (.istore_n 3, 1) := by decide +kernel
theorem dX12_toss_19 : decode cX12_toss 19 = .ok (.aload_n 0, 1) := by decide +kernel
theorem dX12_toss_20 : decode cX12_toss 20 = .ok (.getfield 34, 3) := by decide +kernel
theorem dX12_toss_23 : decode cX12_toss 23 = .ok (.iload_n 1, 1) := by decide +kernel
theorem dX12_toss_24 : decode cX12_toss 24 = .ok (.iaload, 1) := by decide +kernel
theorem dX12_toss_25 : decode cX12_toss 25 = .ok (.istore 4, 2) := by decide +kernel
theorem dX12_toss_27 : decode cX12_toss 27 = .ok (.iload_n 3, 1) := by decide +kernel
theorem dX12_toss_28 : decode cX12_toss 28 = .ok (.iconst 3, 1) := by decide +kernel
theorem dX12_toss_29 : decode cX12_toss 29 = .ok (.if_icmp .eq 19, 3) := by decide +kernel
theorem dX12_toss_32 : decode cX12_toss 32 = .ok (.iload_n 3, 1) := by decide +kernel
theorem dX12_toss_33 : decode cX12_toss 33 = .ok (.iconst 5, 1) := by decide +kernel
theorem dX12_toss_34 : decode cX12_toss 34 = .ok (.if_icmp .eq 14, 3) := by decide +kernel
theorem dX12_toss_37 : decode cX12_toss 37 = .ok (.iload_n 3, 1) := by decide +kernel
theorem dX12_toss_38 : decode cX12_toss 38 = .ok (.bipush 7, 2) := by decide +kernel
theorem dX12_toss_40 : decode cX12_toss 40 = .ok (.if_icmp .eq 8, 3) := by decide +kernel
theorem dX12_toss_43 : decode cX12_toss 43 = .ok (.iload 4, 2) := by decide +kernel
theorem dX12_toss_45 : decode cX12_toss 45 = .ok (.ifCond .ne 6, 3) := by decide +kernel
theorem dX12_toss_48 : decode cX12_toss 48 = .ok (.bipush (-15), 2) := by decide +kernel
theorem dX12_toss_50 : decode cX12_toss 50 = .ok (.ireturn, 1) := by decide +kernel
theorem dX12_toss_51 : decode cX12_toss 51 = .ok (.iload_n 3, 1) := by decide +kernel
theorem dX12_toss_52 : decode cX12_toss 52 = .ok (.iconst 4, 1) := by decide +kernel
theorem dX12_toss_53 : decode cX12_toss 53 = .ok (.if_icmp .ne 16, 3) := by decide +kernel
theorem dX12_toss_56 : decode cX12_toss 56 = .ok (.sipush 200, 3) := by decide +kernel
theorem dX12_toss_59 : decode cX12_toss 59 = .ok (.iload_n 3, 1) := by decide +kernel
theorem dX12_toss_60 : decode cX12_toss 60 = .ok (.iload 4, 2) := by decide +kernel
theorem dX12_toss_62 : decode cX12_toss 62 = .ok (.invokestatic 266, 3) := by decide +kernel
theorem dX12_toss_65 : decode cX12_toss 65 = .ok (.iadd, 1) := by decide +kernel
theorem dX12_toss_66 : decode cX12_toss 66 = .ok (.goto 18, 3) := by decide +kernel
theorem dX12_toss_69 : decode cX12_toss 69 = .ok (.iload_n 3, 1) := by decide +kernel
theorem dX12_toss_70 : decode cX12_toss 70 = .ok (.iconst 2, 1) := by decide +kernel
theorem dX12_toss_71 : decode cX12_toss 71 = .ok (.if_icmp .ne 11, 3) := by decide +kernel
theorem dX12_toss_74 : decode cX12_toss 74 = .ok (.bipush 100, 2) := by decide +kernel
theorem dX12_toss_76 : decode cX12_toss 76 = .ok (.iload 4, 2) := by decide +kernel
theorem dX12_toss_78 : decode cX12_toss 78 = .ok (.iadd, 1) := by decide +kernel
theorem dX12_toss_79 : decode cX12_toss 79 = .ok (.goto 5, 3) := by decide +kernel
theorem dX12_toss_82 : decode cX12_toss 82 = .ok (.iload 4, 2) := by decide +kernel
theorem dX12_toss_84 : decode cX12_toss 84 = .ok (.ireturn, 1) := by decide +kernel
theorem dJ6_bitCount_0f7a4_0 : decode cJ6_bitCount_0f7a4 0 = .ok (.iload_n 0, 1) := by decide +kernel
theorem dJ6_bitCount_0f7a4_1 : decode cJ6_bitCount_0f7a4 1 = .ok (.iload_n 0, 1) := by decide +kernel
theorem dJ6_bitCount_0f7a4_2 : decode cJ6_bitCount_0f7a4 2 = .ok (.iconst 1, 1) := by decide +kernel
theorem dJ6_bitCount_0f7a4_3 : decode cJ6_bitCount_0f7a4 3 = .ok (.iushr, 1) := by decide +kernel
theorem dJ6_bitCount_0f7a4_4 : decode cJ6_bitCount_0f7a4 4 = .ok (.ldc_w 265, 3) := by decide +kernel
theorem dJ6_bitCount_0f7a4_7 : decode cJ6_bitCount_0f7a4 7 = .ok (.iand, 1) := by decide +kernel
theorem dJ6_bitCount_0f7a4_8 : decode cJ6_bitCount_0f7a4 8 = .ok (.isub, 1) := by decide +kernel
theorem dJ6_bitCount_0f7a4_9 : decode cJ6_bitCount_0f7a4 9 = .ok (.istore_n 0, 1) := by decide +kernel
theorem dJ6_bitCount_0f7a4_10 : decode cJ6_bitCount_0f7a4 10 = .ok (.iload_n 0, 1) := by decide +kernel
theorem dJ6_bitCount_0f7a4_11 : decode cJ6_bitCount_0f7a4 11 = .ok (.ldc_w 266, 3) := by decide +kernel
theorem dJ6_bitCount_0f7a4_14 : decode cJ6_bitCount_0f7a4 14 = .ok (.iand, 1) := by decide +kernel
theorem dJ6_bitCount_0f7a4_15 : decode cJ6_bitCount_0f7a4 15 = .ok (.iload_n 0, 1) := by decide +kernel
theorem dJ6_bitCount_0f7a4_16 : decode cJ6_bitCount_0f7a4 16 = .ok (.iconst 2, 1) := by decide +kernel
theorem dJ6_bitCount_0f7a4_17 : decode cJ6_bitCount_0f7a4 17 = .ok (.iushr, 1) := by decide +kernel
theorem dJ6_bitCount_0f7a4_18 : decode cJ6_bitCount_0f7a4 18 = .ok (.ldc_w 266, 3) := by decide +kernel
theorem dJ6_bitCount_0f7a4_21 : decode cJ6_bitCount_0f7a4 21 = .ok (.iand, 1) := by decide +kernel
theorem dJ6_bitCount_0f7a4_22 : decode cJ6_bitCount_0f7a4 22 = .ok (.iadd, 1) := by decide +kernel
theorem dJ6_bitCount_0f7a4_23 : decode cJ6_bitCount_0f7a4 23 = .ok (.istore_n 0, 1) := by decide +kernel
theorem dJ6_bitCount_0f7a4_24 : decode cJ6_bitCount_0f7a4 24 = .ok (.iload_n 0, 1) := by decide +kernel
theorem dJ6_bitCount_0f7a4_25 : decode cJ6_bitCount_0f7a4 25 = .ok (.iload_n 0, 1) := by decide +kernel
theorem dJ6_bitCount_0f7a4_26 : decode cJ6_bitCount_0f7a4 26 = .ok (.iconst 4, 1) := by decide +kernel
theorem dJ6_bitCount_0f7a4_27 : decode cJ6_bitCount_0f7a4 27 = .ok (.iushr, 1) := by decide +kernel
theorem dJ6_bitCount_0f7a4_28 : decode cJ6_bitCount_0f7a4 28 = .ok (.iadd, 1) := by decide +kernel
theorem dJ6_bitCount_0f7a4_29 : decode cJ6_bitCount_0f7a4 29 = .ok (.ldc_w 267, 3) := by decide +kernel
theorem dJ6_bitCount_0f7a4_32 : decode cJ6_bitCount_0f7a4 32 = .ok (.iand, 1) := by decide +kernel
theorem dJ6_bitCount_0f7a4_33 : decode cJ6_bitCount_0f7a4 33 = .ok (.istore_n 0, 1) := by decide +kernel
theorem dJ6_bitCount_0f7a4_34 : decode cJ6_bitCount_0f7a4 34 = .ok (.iload_n 0, 1) := by decide +kernel
theorem dJ6_bitCount_0f7a4_35 : decode cJ6_bitCount_0f7a4 35 = .ok (.iload_n 0, 1) := by decide +kernel
theorem dJ6_bitCount_0f7a4_36 : decode cJ6_bitCount_0f7a4 36 = .ok (.bipush 8, 2) := by decide +kernel
theorem dJ6_bitCount_0f7a4_38 : decode cJ6_bitCount_0f7a4 38 = .ok (.iushr, 1) := by decide +kernel
theorem dJ6_bitCount_0f7a4_39 : decode cJ6_bitCount_0f7a4 39 = .ok (.iadd, 1) := by decide +kernel
theorem dJ6_bitCount_0f7a4_40 : decode cJ6_bitCount_0f7a4 40 = .ok (.istore_n 0, 1) := by decide +kernel
theorem dJ6_bitCount_0f7a4_41 : decode cJ6_bitCount_0f7a4 41 = .ok (.iload_n 0, 1) := by decide +kernel
theorem dJ6_bitCount_0f7a4_42 : decode cJ6_bitCount_0f7a4 42 = .ok (.iload_n 0, 1) := by decide +kernel
theorem dJ6_bitCount_0f7a4_43 : decode cJ6_bitCount_0f7a4 43 = .ok (.bipush 16, 2) := by decide +kernel
theorem dJ6_bitCount_0f7a4_45 : decode cJ6_bitCount_0f7a4 45 = .ok (.iushr, 1) := by decide +kernel
theorem dJ6_bitCount_0f7a4_46 : decode cJ6_bitCount_0f7a4 46 = .ok (.iadd, 1) := by decide +kernel
theorem dJ6_bitCount_0f7a4_47 : decode cJ6_bitCount_0f7a4 47 = .ok (.istore_n 0, 1) := by decide +kernel
theorem dJ6_bitCount_0f7a4_48 : decode cJ6_bitCount_0f7a4 48 = .ok (.iload_n 0, 1) := by decide +kernel
theorem dJ6_bitCount_0f7a4_49 : decode cJ6_bitCount_0f7a4 49 = .ok (.bipush 63, 2) := by decide +kernel
theorem dJ6_bitCount_0f7a4_51 : decode cJ6_bitCount_0f7a4 51 = .ok (.iand, 1) := by decide +kernel
theorem dJ6_bitCount_0f7a4_52 : decode cJ6_bitCount_0f7a4 52 = .ok (.ireturn, 1) := by decide +kernel
theorem dJ9_abs_0f7a4_0 : decode cJ9_abs_0f7a4 0 = .ok (.iload_n 0, 1) := by decide +kernel
theorem dJ9_abs_0f7a4_1 : decode cJ9_abs_0f7a4 1 = .ok (.ifCond .ge 8, 3) := by decide +kernel
theorem dJ9_abs_0f7a4_4 : decode cJ9_abs_0f7a4 4 = .ok (.iload_n 0, 1) := by decide +kernel
theorem dJ9_abs_0f7a4_5 : decode cJ9_abs_0f7a4 5 = .ok (.ineg, 1) := by decide +kernel
theorem dJ9_abs_0f7a4_6 : decode cJ9_abs_0f7a4 6 = .ok (.goto 4, 3) := by decide +kernel
theorem dJ9_abs_0f7a4_9 : decode cJ9_abs_0f7a4 9 = .ok (.iload_n 0, 1) := by decide +kernel
theorem dJ9_abs_0f7a4_10 : decode cJ9_abs_0f7a4 10 = .ok (.ireturn, 1) := by decide +kernel
theorem dJ9_max_7cf53_0 : decode cJ9_max_7cf53 0 = .ok (.iload_n 0, 1) := by decide +kernel
theorem dJ9_max_7cf53_1 : decode cJ9_max_7cf53 1 = .ok (.iload_n 1, 1) := by decide +kernel
theorem dJ9_max_7cf53_2 : decode cJ9_max_7cf53 2 = .ok (.if_icmp .lt 7, 3) := by decide +kernel
theorem dJ9_max_7cf53_5 : decode cJ9_max_7cf53 5 = .ok (.iload_n 0, 1) := by decide +kernel
theorem dJ9_max_7cf53_6 : decode cJ9_max_7cf53 6 = .ok (.goto 4, 3) := by decide +kernel
theorem dJ9_max_7cf53_9 : decode cJ9_max_7cf53 9 = .ok (.iload_n 1, 1) := by decide +kernel
theorem dJ9_max_7cf53_10 : decode cJ9_max_7cf53 10 = .ok (.ireturn, 1) := by decide +kernel
theorem dJ9_max_f86c9_0 : decode cJ9_max_f86c9 0 = .ok (.lload_n 0, 1) := by decide +kernel
theorem dJ9_max_f86c9_1 : decode cJ9_max_f86c9 1 = .ok (.lload_n 2, 1) := by decide +kernel
theorem dJ9_max_f86c9_2 : decode cJ9_max_f86c9 2 = .ok (.lcmp, 1) := by decide +kernel
theorem dJ9_max_f86c9_3 : decode cJ9_max_f86c9 3 = .ok (.ifCond .lt 7, 3) := by decide +kernel
theorem dJ9_max_f86c9_6 : decode cJ9_max_f86c9 6 = .ok (.lload_n 0, 1) := by decide +kernel
theorem dJ9_max_f86c9_7 : decode cJ9_max_f86c9 7 = .ok (.goto 4, 3) := by decide +kernel
theorem dJ9_max_f86c9_10 : decode cJ9_max_f86c9 10 = .ok (.lload_n 2, 1) := by decide +kernel
theorem dJ9_max_f86c9_11 : decode cJ9_max_f86c9 11 = .ok (.lreturn, 1) := by decide +kernel
theorem dJ9_min_7cf53_0 : decode cJ9_min_7cf53 0 = .ok (.iload_n 0, 1) := by decide +kernel
theorem dJ9_min_7cf53_1 : decode cJ9_min_7cf53 1 = .ok (.iload_n 1, 1) := by decide +kernel
theorem dJ9_min_7cf53_2 : decode cJ9_min_7cf53 2 = .ok (.if_icmp .gt 7, 3) := by decide +kernel
theorem dJ9_min_7cf53_5 : decode cJ9_min_7cf53 5 = .ok (.iload_n 0, 1) := by decide +kernel
theorem dJ9_min_7cf53_6 : decode cJ9_min_7cf53 6 = .ok (.goto 4, 3) := by decide +kernel
theorem dJ9_min_7cf53_9 : decode cJ9_min_7cf53 9 = .ok (.iload_n 1, 1) := by decide +kernel
theorem dJ9_min_7cf53_10 : decode cJ9_min_7cf53 10 = .ok (.ireturn, 1) := by decide +kernel
theorem dL_element_0 : decode cL_element 0 = .ok (.aload_n 3, 1) := by decide +kernel
theorem dL_element_1 : decode cL_element 1 = .ok (.iconst 0, 1) := by decide +kernel
theorem dL_element_2 : decode cL_element 2 = .ok (.aload_n 0, 1) := by decide +kernel
theorem dL_element_3 : decode cL_element 3 = .ok (.iload_n 1, 1) := by decide +kernel
theorem dL_element_4 : decode cL_element 4 = .ok (.iload_n 2, 1) := by decide +kernel
theorem dL_element_5 : decode cL_element 5 = .ok (.invokevirtual 7, 3) := by decide +kernel
theorem dL_element_8 : decode cL_element 8 = .ok (.lastore, 1) := by decide +kernel
theorem dL_element_9 : decode cL_element 9 = .ok (.goto 11, 3) := by decide +kernel
theorem dL_element_12 : decode cL_element 12 = .ok (.astore 4, 2) := by decide +kernel
theorem dL_element_14 : decode cL_element 14 = .ok (.iconst 1, 1) := by decide +kernel
theorem dL_element_15 : decode cL_element 15 = .ok (.ireturn, 1) := by decide +kernel
theorem dL_element_16 : decode cL_element 16 = .ok (.astore 4, 2) := by decide +kernel
theorem dL_element_18 : decode cL_element 18 = .ok (.iconst 2, 1) := by decide +kernel
theorem dL_element_19 : decode cL_element 19 = .ok (.ireturn, 1) := by decide +kernel
theorem dL_element_20 : decode cL_element 20 = .ok (.iconst 0, 1) := by decide +kernel
theorem dL_element_21 : decode cL_element 21 = .ok (.ireturn, 1) := by decide +kernel
