theorem dX0_init_0 : decode cX0_init 0 = .ok (.aload_n 0, 1) := by decide +kernel
theorem dX0_init_1 : decode cX0_init 1 = .ok (.invokespecial 3, 3) := by decide +kernel
theorem dX0_init_4 : decode cX0_init 4 = .ok (.aload_n 0, 1) := by decide +kernel
theorem dX0_init_5 : decode cX0_init 5 = .ok (.bipush 14, 2) := by decide +kernel
theorem dX0_init_7 : decode cX0_init 7 = .ok (.newarray .int, 2) := by decide +kernel
theorem dX0_init_9 : decode cX0_init 9 = .ok (.putfield 9, 3) := by decide +kernel
theorem dX0_init_12 : decode cX0_init 12 = .ok (.aload_n 0, 1) := by decide +kernel
theorem dX0_init_13 : decode cX0_init 13 = .ok (.bipush 14, 2) := by decide +kernel
theorem dX0_init_15 : decode cX0_init 15 = .ok (.newarray .int, 2) := by decide +kernel
theorem dX0_init_17 : decode cX0_init 17 = .ok (.putfield 15, 3) := by decide +kernel
theorem dX0_init_20 : decode cX0_init 20 = .ok (.aload_n 0, 1) := by decide +kernel
theorem dX0_init_21 : decode cX0_init 21 = .ok (.bipush 14, 2) := by decide +kernel
theorem dX0_init_23 : decode cX0_init 23 = .ok (.newarray .int, 2) := by decide +kernel
theorem dX0_init_25 : decode cX0_init 25 = .ok (.putfield 18, 3) := by decide +kernel
theorem dX0_init_28 : decode cX0_init 28 = .ok (.aload_n 0, 1) := by decide +kernel
theorem dX0_init_29 : decode cX0_init 29 = .ok (.bipush 14, 2) := by decide +kernel
theorem dX0_init_31 : decode cX0_init 31 = .ok (.newarray .boolean, 2) := by decide +kernel
theorem dX0_init_33 : decode cX0_init 33 = .ok (.putfield 21, 3) := by decide +kernel
theorem dX0_init_36 : decode cX0_init 36 = .ok (.aload_n 0, 1) := by decide +kernel
theorem dX0_init_37 : decode cX0_init 37 = .ok (.bipush 15, 2) := by decide +kernel
theorem dX0_init_39 : decode cX0_init 39 = .ok (.newarray .int, 2) := by decide +kernel
theorem dX0_init_41 : decode cX0_init 41 = .ok (.putfield 25, 3) := by decide +kernel
theorem dX0_init_44 : decode cX0_init 44 = .ok (.aload_n 0, 1) := by decide +kernel
theorem dX0_init_45 : decode cX0_init 45 = .ok (.iconst 0, 1) := by decide +kernel
theorem dX0_init_46 : decode cX0_init 46 = .ok (.putfield 28, 3) := by decide +kernel
theorem dX0_init_49 : decode cX0_init 49 = .ok (.aload_n 0, 1) := by decide +kernel
theorem dX0_init_50 : decode cX0_init 50 = .ok (.iconst 0, 1) := by decide +kernel
theorem dX0_init_51 : decode cX0_init 51 = .ok (.putfield 32, 3) := by decide +kernel
theorem dX0_init_54 : decode cX0_init 54 = .ok (.aload_n 0, 1) := by decide +kernel
theorem dX0_init_55 : decode cX0_init 55 = .ok (.iconst 0, 1) := by decide +kernel
theorem dX0_init_56 : decode cX0_init 56 = .ok (.putfield 35, 3) := by decide +kernel
theorem dX0_init_59 : decode cX0_init 59 = .ok (.aload_n 0, 1) := by decide +kernel
theorem dX0_init_60 : decode cX0_init 60 = .ok (.iconst 0, 1) := by decide +kernel
theorem dX0_init_61 : decode cX0_init 61 = .ok (.putfield 38, 3) := by decide +kernel
theorem dX0_init_64 : decode cX0_init 64 = .ok (.aload_n 0, 1) := by decide +kernel
theorem dX0_init_65 : decode cX0_init 65 = .ok (.iconst 0, 1) := by decide +kernel
theorem dX0_init_66 : decode cX0_init 66 = .ok (.putfield 41, 3) := by decide +kernel
theorem dX0_init_69 : decode cX0_init 69 = .ok (.aload_n 0, 1) := by decide +kernel
theorem dX0_init_70 : decode cX0_init 70 = .ok (.iconst 0, 1) := by decide +kernel
theorem dX0_init_71 : decode cX0_init 71 = .ok (.putfield 44, 3) := by decide +kernel
theorem dX0_init_74 : decode cX0_init 74 = .ok (.return_, 1) := by decide +kernel
theorem dX0_begin_0 : decode cX0_begin 0 = .ok (.aload_n 0, 1) := by decide +kernel
theorem dX0_begin_1 : decode cX0_begin 1 = .ok (.iload_n 1, 1) := by decide +kernel
theorem dX0_begin_2 : decode cX0_begin 2 = .ok (.putfield 32, 3) := by decide +kernel
theorem dX0_begin_5 : decode cX0_begin 5 = .ok (.aload_n 0, 1) := by decide +kernel
theorem dX0_begin_6 : decode cX0_begin 6 = .ok (.iload_n 2, 1) := by decide +kernel
theorem dX0_begin_7 : decode cX0_begin 7 = .ok (.putfield 35, 3) := by decide +kernel
theorem dX0_begin_10 : decode cX0_begin 10 = .ok (.aload_n 0, 1) := by decide +kernel
theorem dX0_begin_11 : decode cX0_begin 11 = .ok (.iconst 0, 1) := by decide +kernel
theorem dX0_begin_12 : decode cX0_begin 12 = .ok (.putfield 28, 3) := by decide +kernel
theorem dX0_begin_15 : decode cX0_begin 15 = .ok (.return_, 1) := by decide +kernel
theorem dX0_offer_0 : decode cX0_offer 0 = .ok (.aload_n 0, 1) := by decide +kernel
theorem dX0_offer_1 : decode cX0_offer 1 = .ok (.getfield 28, 3) := by decide +kernel
theorem dX0_offer_4 : decode cX0_offer 4 = .ok (.bipush 14, 2) := by decide +kernel
theorem dX0_offer_6 : decode cX0_offer 6 = .ok (.if_icmp .ge 54, 3) := by decide +kernel
theorem dX0_offer_9 : decode cX0_offer 9 = .ok (.aload_n 0, 1) := by decide +kernel
theorem dX0_offer_10 : decode cX0_offer 10 = .ok (.getfield 9, 3) := by decide +kernel
theorem dX0_offer_13 : decode cX0_offer 13 = .ok (.aload_n 0, 1) := by decide +kernel
theorem dX0_offer_14 : decode cX0_offer 14 = .ok (.getfield 28, 3) := by decide +kernel
theorem dX0_offer_17 : decode cX0_offer 17 = .ok (.iload_n 1, 1) := by decide +kernel
theorem dX0_offer_18 : decode cX0_offer 18 = .ok (.iastore, 1) := by decide +kernel
theorem dX0_offer_19 : decode cX0_offer 19 = .ok (.aload_n 0, 1) := by decide +kernel
theorem dX0_offer_20 : decode cX0_offer 20 = .ok (.getfield 15, 3) := by decide +kernel
theorem dX0_offer_23 : decode cX0_offer 23 = .ok (.aload_n 0, 1) := by decide +kernel
theorem dX0_offer_24 : decode cX0_offer 24 = .ok (.getfield 28, 3) := by decide +kernel
theorem dX0_offer_27 : decode cX0_offer 27 = .ok (.iload_n 2, 1) := by decide +kernel
theorem dX0_offer_28 : decode cX0_offer 28 = .ok (.iastore, 1) := by decide +kernel
theorem dX0_offer_29 : decode cX0_offer 29 = .ok (.aload_n 0, 1) := by decide +kernel
theorem dX0_offer_30 : decode cX0_offer 30 = .ok (.getfield 18, 3) := by decide +kernel
theorem dX0_offer_33 : decode cX0_offer 33 = .ok (.aload_n 0, 1) := by decide +kernel
theorem dX0_offer_34 : decode cX0_offer 34 = .ok (.getfield 28, 3) := by decide +kernel
theorem dX0_offer_37 : decode cX0_offer 37 = .ok (.iload_n 3, 1) := by decide +kernel
theorem dX0_offer_38 : decode cX0_offer 38 = .ok (.iastore, 1) := by decide +kernel
theorem dX0_offer_39 : decode cX0_offer 39 = .ok (.aload_n 0, 1) := by decide +kernel
theorem dX0_offer_40 : decode cX0_offer 40 = .ok (.getfield 21, 3) := by decide +kernel
theorem dX0_offer_43 : decode cX0_offer 43 = .ok (.aload_n 0, 1) := by decide +kernel
theorem dX0_offer_44 : decode cX0_offer 44 = .ok (.getfield 28, 3) := by decide +kernel
theorem dX0_offer_47 : decode cX0_offer 47 = .ok (.iload 4, 2) := by decide +kernel
theorem dX0_offer_49 : decode cX0_offer 49 = .ok (.bastore, 1) := by decide +kernel
theorem dX0_offer_50 : decode cX0_offer 50 = .ok (.aload_n 0, 1) := by decide +kernel
theorem dX0_offer_51 : decode cX0_offer 51 = .ok (.dup, 1) := by decide +kernel
theorem dX0_offer_52 : decode cX0_offer 52 = .ok (.getfield 28, 3) := by decide +kernel
theorem dX0_offer_55 : decode cX0_offer 55 = .ok (.iconst 1, 1) := by decide +kernel
theorem dX0_offer_56 : decode cX0_offer 56 = .ok (.iadd, 1) := by decide +kernel
theorem dX0_offer_57 : decode cX0_offer 57 = .ok (.putfield 28, 3) := by decide +kernel
theorem dX0_offer_60 : decode cX0_offer 60 = .ok (.return_, 1) := by decide +kernel
theorem dX0_choose_0 : decode cX0_choose 0 = .ok (.aload_n 0, 1) := by decide +kernel
theorem dX0_choose_1 : decode cX0_choose 1 = .ok (.getfield 25, 3) := by decide +kernel
theorem dX0_choose_4 : decode cX0_choose 4 = .ok (.aload_n 0, 1) := by decide +kernel
theorem dX0_choose_5 : decode cX0_choose 5 = .ok (.getfield 28, 3) := by decide +kernel
theorem dX0_choose_8 : decode cX0_choose 8 = .ok (.iconst 0, 1) := by decide +kernel
theorem dX0_choose_9 : decode cX0_choose 9 = .ok (.iastore, 1) := by decide +kernel
theorem dX0_choose_10 : decode cX0_choose 10 = .ok (.aload_n 0, 1) := by decide +kernel
theorem dX0_choose_11 : decode cX0_choose 11 = .ok (.getfield 28, 3) := by decide +kernel
theorem dX0_choose_14 : decode cX0_choose 14 = .ok (.iconst 1, 1) := by decide +kernel
theorem dX0_choose_15 : decode cX0_choose 15 = .ok (.isub, 1) := by decide +kernel
theorem dX0_choose_16 : decode cX0_choose 16 = .ok (.istore_n 1, 1) := by decide +kernel
theorem dX0_choose_17 : decode cX0_choose 17 = .ok (.iload_n 1, 1) := by decide +kernel
theorem dX0_choose_18 : decode cX0_choose 18 = .ok (.ifCond .lt 43, 3) := by decide +kernel
theorem dX0_choose_21 : decode cX0_choose 21 = .ok (.aload_n 0, 1) := by decide +kernel
theorem dX0_choose_22 : decode cX0_choose 22 = .ok (.getfield 25, 3) := by decide +kernel
theorem dX0_choose_25 : decode cX0_choose 25 = .ok (.iload_n 1, 1) := by decide +kernel
theorem dX0_choose_26 : decode cX0_choose 26 = .ok (.aload_n 0, 1) := by decide +kernel
theorem dX0_choose_27 : decode cX0_choose 27 = .ok (.getfield 25, 3) := by decide +kernel
theorem dX0_choose_30 : decode cX0_choose 30 = .ok (.iload_n 1, 1) := by decide +kernel
theorem dX0_choose_31 : decode cX0_choose 31 = .ok (.iconst 1, 1) := by decide +kernel
theorem dX0_choose_32 : decode cX0_choose 32 = .ok (.iadd, 1) := by decide +kernel
theorem dX0_choose_33 : decode cX0_choose 33 = .ok (.iaload, 1) := by decide +kernel
theorem dX0_choose_34 : decode cX0_choose 34 = .ok (.aload_n 0, 1) := by decide +kernel
theorem dX0_choose_35 : decode cX0_choose 35 = .ok (.getfield 21, 3) := by decide +kernel
theorem dX0_choose_38 : decode cX0_choose 38 = .ok (.iload_n 1, 1) := by decide +kernel
theorem dX0_choose_39 : decode cX0_choose 39 = .ok (.baload, 1) := by decide +kernel
theorem dX0_choose_40 : decode cX0_choose 40 = .ok (.ifCond .eq 12, 3) := by decide +kernel
theorem dX0_choose_43 : decode cX0_choose 43 = .ok (.aload_n 0, 1) := by decide +kernel
theorem dX0_choose_44 : decode cX0_choose 44 = .ok (.getfield 9, 3) := by decide +kernel
theorem dX0_choose_47 : decode cX0_choose 47 = .ok (.iload_n 1, 1) := by decide +kernel
theorem dX0_choose_48 : decode cX0_choose 48 = .ok (.iaload, 1) := by decide +kernel
theorem dX0_choose_49 : decode cX0_choose 49 = .ok (.goto 4, 3) := by decide +kernel
theorem dX0_choose_52 : decode cX0_choose 52 = .ok (.iconst 0, 1) := by decide +kernel
theorem dX0_choose_53 : decode cX0_choose 53 = .ok (.iadd, 1) := by decide +kernel
theorem dX0_choose_54 : decode cX0_choose 54 = .ok (.iastore, 1) := by decide +kernel
theorem dX0_choose_55 : decode cX0_choose 55 = .ok (.iinc 1 (-1), 3) := by decide +kernel
theorem dX0_choose_58 : decode cX0_choose 58 = .ok (.goto (-41), 3) := by decide +kernel
theorem dX0_choose_61 : decode cX0_choose 61 = .ok (.aload_n 0, 1) := by decide +kernel
theorem dX0_choose_62 : decode cX0_choose 62 = .ok (.iconst 0, 1) := by decide +kernel
theorem dX0_choose_63 : decode cX0_choose 63 = .ok (.putfield 38, 3) := by decide +kernel
theorem dX0_choose_66 : decode cX0_choose 66 = .ok (.aload_n 0, 1) := by decide +kernel
theorem dX0_choose_67 : decode cX0_choose 67 = .ok (.iconst (-1), 1) := by decide +kernel
theorem dX0_choose_68 : decode cX0_choose 68 = .ok (.putfield 41, 3) := by decide +kernel
theorem dX0_choose_71 : decode cX0_choose 71 = .ok (.aload_n 0, 1) := by decide +kernel
theorem dX0_choose_72 : decode cX0_choose 72 = .ok (.aload_n 0, 1) := by decide +kernel
theorem dX0_choose_73 : decode cX0_choose 73 = .ok (.getfield 32, 3) := by decide +kernel
theorem dX0_choose_76 : decode cX0_choose 76 = .ok (.iconst 1, 1) := by decide +kernel
theorem dX0_choose_77 : decode cX0_choose 77 = .ok (.iadd, 1) := by decide +kernel
theorem dX0_choose_78 : decode cX0_choose 78 = .ok (.putfield 44, 3) := by decide +kernel
theorem dX0_choose_81 : decode cX0_choose 81 = .ok (.aload_n 0, 1) := by decide +kernel
theorem dX0_choose_82 : decode cX0_choose 82 = .ok (.iconst 0, 1) := by decide +kernel
theorem dX0_choose_83 : decode cX0_choose 83 = .ok (.iconst 0, 1) := by decide +kernel
theorem dX0_choose_84 : decode cX0_choose 84 = .ok (.iconst 0, 1) := by decide +kernel
theorem dX0_choose_85 : decode cX0_choose 85 = .ok (.iconst 0, 1) := by decide +kernel
theorem dX0_choose_86 : decode cX0_choose 86 = .ok (.invokestatic 47, 3) := by decide +kernel
theorem dX0_choose_89 : decode cX0_choose 89 = .ok (.return_, 1) := by decide +kernel
theorem dX0_pick_0 : decode cX0_pick 0 = .ok (.iload_n 1, 1) := by decide +kernel
theorem dX0_pick_1 : decode cX0_pick 1 = .ok (.bipush 14, 2) := by decide +kernel
theorem dX0_pick_3 : decode cX0_pick 3 = .ok (.if_icmp .gt 14, 3) := by decide +kernel
theorem dX0_pick_6 : decode cX0_pick 6 = .ok (.iload_n 3, 1) := by decide +kernel
theorem dX0_pick_7 : decode cX0_pick 7 = .ok (.aload_n 0, 1) := by decide +kernel
theorem dX0_pick_8 : decode cX0_pick 8 = .ok (.getfield 25, 3) := by decide +kernel
theorem dX0_pick_11 : decode cX0_pick 11 = .ok (.iload_n 1, 1) := by decide +kernel
theorem dX0_pick_12 : decode cX0_pick 12 = .ok (.iaload, 1) := by decide +kernel
theorem dX0_pick_13 : decode cX0_pick 13 = .ok (.iadd, 1) := by decide +kernel
theorem dX0_pick_14 : decode cX0_pick 14 = .ok (.goto 4, 3) := by decide +kernel
theorem dX0_pick_17 : decode cX0_pick 17 = .ok (.iconst (-1), 1) := by decide +kernel
theorem dX0_pick_18 : decode cX0_pick 18 = .ok (.istore 5, 2) := by decide +kernel
theorem dX0_pick_20 : decode cX0_pick 20 = .ok (.iload 4, 2) := by decide +kernel
theorem dX0_pick_22 : decode cX0_pick 22 = .ok (.aload_n 0, 1) := by decide +kernel
theorem dX0_pick_23 : decode cX0_pick 23 = .ok (.getfield 32, 3) := by decide +kernel
theorem dX0_pick_26 : decode cX0_pick 26 = .ok (.if_icmp .gt 30, 3) := by decide +kernel
theorem dX0_pick_29 : decode cX0_pick 29 = .ok (.iload 5, 2) := by decide +kernel
theorem dX0_pick_31 : decode cX0_pick 31 = .ok (.aload_n 0, 1) := by decide +kernel
theorem dX0_pick_32 : decode cX0_pick 32 = .ok (.getfield 41, 3) := by decide +kernel
theorem dX0_pick_35 : decode cX0_pick 35 = .ok (.if_icmp .lt 21, 3) := by decide +kernel
theorem dX0_pick_38 : decode cX0_pick 38 = .ok (.iload 5, 2) := by decide +kernel
theorem dX0_pick_40 : decode cX0_pick 40 = .ok (.aload_n 0, 1) := by decide +kernel
theorem dX0_pick_41 : decode cX0_pick 41 = .ok (.getfield 41, 3) := by decide +kernel
theorem dX0_pick_44 : decode cX0_pick 44 = .ok (.if_icmp .ne 13, 3) := by decide +kernel
theorem dX0_pick_47 : decode cX0_pick 47 = .ok (.iload 4, 2) := by decide +kernel
theorem dX0_pick_49 : decode cX0_pick 49 = .ok (.aload_n 0, 1) := by decide +kernel
theorem dX0_pick_50 : decode cX0_pick 50 = .ok (.getfield 44, 3) := by decide +kernel
theorem dX0_pick_53 : decode cX0_pick 53 = .ok (.if_icmp .lt 4, 3) := by decide +kernel
theorem dX0_pick_56 : decode cX0_pick 56 = .ok (.return_, 1) := by decide +kernel
theorem dX0_pick_57 : decode cX0_pick 57 = .ok (.iload_n 1, 1) := by decide +kernel
theorem dX0_pick_58 : decode cX0_pick 58 = .ok (.aload_n 0, 1) := by decide +kernel
theorem dX0_pick_59 : decode cX0_pick 59 = .ok (.getfield 28, 3) := by decide +kernel
theorem dX0_pick_62 : decode cX0_pick 62 = .ok (.if_icmp .ge 9, 3) := by decide +kernel
theorem dX0_pick_65 : decode cX0_pick 65 = .ok (.iload_n 1, 1) := by decide +kernel
theorem dX0_pick_66 : decode cX0_pick 66 = .ok (.bipush 14, 2) := by decide +kernel
theorem dX0_pick_68 : decode cX0_pick 68 = .ok (.if_icmp .lt 20, 3) := by decide +kernel
theorem dX0_pick_71 : decode cX0_pick 71 = .ok (.aload_n 0, 1) := by decide +kernel
theorem dX0_pick_72 : decode cX0_pick 72 = .ok (.iload_n 2, 1) := by decide +kernel
theorem dX0_pick_73 : decode cX0_pick 73 = .ok (.putfield 38, 3) := by decide +kernel
theorem dX0_pick_76 : decode cX0_pick 76 = .ok (.aload_n 0, 1) := by decide +kernel
theorem dX0_pick_77 : decode cX0_pick 77 = .ok (.iload_n 3, 1) := by decide +kernel
theorem dX0_pick_78 : decode cX0_pick 78 = .ok (.putfield 41, 3) := by decide +kernel
theorem dX0_pick_81 : decode cX0_pick 81 = .ok (.aload_n 0, 1) := by decide +kernel
theorem dX0_pick_82 : decode cX0_pick 82 = .ok (.iload 4, 2) := by decide +kernel
theorem dX0_pick_84 : decode cX0_pick 84 = .ok (.putfield 44, 3) := by decide +kernel
theorem dX0_pick_87 : decode cX0_pick 87 = .ok (.return_, 1) := by decide +kernel
theorem dX0_pick_88 : decode cX0_pick 88 = .ok (.aload_n 0, 1) := by decide +kernel
theorem dX0_pick_89 : decode cX0_pick 89 = .ok (.getfield 21, 3) := by decide +kernel
theorem dX0_pick_92 : decode cX0_pick 92 = .ok (.iload_n 1, 1) := by decide +kernel
theorem dX0_pick_93 : decode cX0_pick 93 = .ok (.baload, 1) := by decide +kernel
theorem dX0_pick_94 : decode cX0_pick 94 = .ok (.ifCond .eq 77, 3) := by decide +kernel
theorem dX0_pick_97 : decode cX0_pick 97 = .ok (.aload_n 0, 1) := by decide +kernel
theorem dX0_pick_98 : decode cX0_pick 98 = .ok (.getfield 18, 3) := by decide +kernel
theorem dX0_pick_101 : decode cX0_pick 101 = .ok (.iload_n 1, 1) := by decide +kernel
theorem dX0_pick_102 : decode cX0_pick 102 = .ok (.iaload, 1) := by decide +kernel
theorem dX0_pick_103 : decode cX0_pick 103 = .ok (.iconst (-1), 1) := by decide +kernel
theorem dX0_pick_104 : decode cX0_pick 104 = .ok (.if_icmp .eq 16, 3) := by decide +kernel
theorem dX0_pick_107 : decode cX0_pick 107 = .ok (.iload_n 2, 1) := by decide +kernel
theorem dX0_pick_108 : decode cX0_pick 108 = .ok (.iconst 1, 1) := by decide +kernel
theorem dX0_pick_109 : decode cX0_pick 109 = .ok (.aload_n 0, 1) := by decide +kernel
theorem dX0_pick_110 : decode cX0_pick 110 = .ok (.getfield 18, 3) := by decide +kernel
theorem dX0_pick_113 : decode cX0_pick 113 = .ok (.iload_n 1, 1) := by decide +kernel
theorem dX0_pick_114 : decode cX0_pick 114 = .ok (.iaload, 1) := by decide +kernel
theorem dX0_pick_115 : decode cX0_pick 115 = .ok (.ishl, 1) := by decide +kernel
theorem dX0_pick_116 : decode cX0_pick 116 = .ok (.iand, 1) := by decide +kernel
theorem dX0_pick_117 : decode cX0_pick 117 = .ok (.ifCond .eq 54, 3) := by decide +kernel
theorem dX0_pick_120 : decode cX0_pick 120 = .ok (.iload_n 2, 1) := by decide +kernel
theorem dX0_pick_121 : decode cX0_pick 121 = .ok (.ifCond .ne 12, 3) := by decide +kernel
theorem dX0_pick_124 : decode cX0_pick 124 = .ok (.aload_n 0, 1) := by decide +kernel
theorem dX0_pick_125 : decode cX0_pick 125 = .ok (.getfield 15, 3) := by decide +kernel
theorem dX0_pick_128 : decode cX0_pick 128 = .ok (.iload_n 1, 1) := by decide +kernel
theorem dX0_pick_129 : decode cX0_pick 129 = .ok (.iaload, 1) := by decide +kernel
theorem dX0_pick_130 : decode cX0_pick 130 = .ok (.goto 14, 3) := by decide +kernel
theorem dX0_pick_133 : decode cX0_pick 133 = .ok (.aload_n 0, 1) := by decide +kernel
theorem dX0_pick_134 : decode cX0_pick 134 = .ok (.getfield 15, 3) := by decide +kernel
theorem dX0_pick_137 : decode cX0_pick 137 = .ok (.iload_n 1, 1) := by decide +kernel
theorem dX0_pick_138 : decode cX0_pick 138 = .ok (.iaload, 1) := by decide +kernel
theorem dX0_pick_139 : decode cX0_pick 139 = .ok (.aload_n 0, 1) := by decide +kernel
theorem dX0_pick_140 : decode cX0_pick 140 = .ok (.getfield 35, 3) := by decide +kernel
theorem dX0_pick_143 : decode cX0_pick 143 = .ok (.iadd, 1) := by decide +kernel
theorem dX0_pick_144 : decode cX0_pick 144 = .ok (.istore 6, 2) := by decide +kernel
theorem dX0_pick_146 : decode cX0_pick 146 = .ok (.aload_n 0, 1) := by decide +kernel
theorem dX0_pick_147 : decode cX0_pick 147 = .ok (.iload_n 1, 1) := by decide +kernel
theorem dX0_pick_148 : decode cX0_pick 148 = .ok (.iconst 1, 1) := by decide +kernel
theorem dX0_pick_149 : decode cX0_pick 149 = .ok (.iadd, 1) := by decide +kernel
theorem dX0_pick_150 : decode cX0_pick 150 = .ok (.iload_n 2, 1) := by decide +kernel
theorem dX0_pick_151 : decode cX0_pick 151 = .ok (.iconst 1, 1) := by decide +kernel
theorem dX0_pick_152 : decode cX0_pick 152 = .ok (.iload_n 1, 1) := by decide +kernel
theorem dX0_pick_153 : decode cX0_pick 153 = .ok (.ishl, 1) := by decide +kernel
theorem dX0_pick_154 : decode cX0_pick 154 = .ok (.ior, 1) := by decide +kernel
theorem dX0_pick_155 : decode cX0_pick 155 = .ok (.iload_n 3, 1) := by decide +kernel
theorem dX0_pick_156 : decode cX0_pick 156 = .ok (.aload_n 0, 1) := by decide +kernel
theorem dX0_pick_157 : decode cX0_pick 157 = .ok (.getfield 9, 3) := by decide +kernel
theorem dX0_pick_160 : decode cX0_pick 160 = .ok (.iload_n 1, 1) := by decide +kernel
theorem dX0_pick_161 : decode cX0_pick 161 = .ok (.iaload, 1) := by decide +kernel
theorem dX0_pick_162 : decode cX0_pick 162 = .ok (.iadd, 1) := by decide +kernel
theorem dX0_pick_163 : decode cX0_pick 163 = .ok (.iload 4, 2) := by decide +kernel
theorem dX0_pick_165 : decode cX0_pick 165 = .ok (.iload 6, 2) := by decide +kernel
theorem dX0_pick_167 : decode cX0_pick 167 = .ok (.iadd, 1) := by decide +kernel
theorem dX0_pick_168 : decode cX0_pick 168 = .ok (.invokestatic 47, 3) := by decide +kernel
theorem dX0_pick_171 : decode cX0_pick 171 = .ok (.aload_n 0, 1) := by decide +kernel
theorem dX0_pick_172 : decode cX0_pick 172 = .ok (.iload_n 1, 1) := by decide +kernel
theorem dX0_pick_173 : decode cX0_pick 173 = .ok (.iconst 1, 1) := by decide +kernel
theorem dX0_pick_174 : decode cX0_pick 174 = .ok (.iadd, 1) := by decide +kernel
theorem dX0_pick_175 : decode cX0_pick 175 = .ok (.iload_n 2, 1) := by decide +kernel
theorem dX0_pick_176 : decode cX0_pick 176 = .ok (.iload_n 3, 1) := by decide +kernel
theorem dX0_pick_177 : decode cX0_pick 177 = .ok (.iload 4, 2) := by decide +kernel
theorem dX0_pick_179 : decode cX0_pick 179 = .ok (.invokestatic 47, 3) := by decide +kernel
theorem dX0_pick_182 : decode cX0_pick 182 = .ok (.return_, 1) := by decide +kernel
theorem dX1_init_0 : decode cX1_init 0 = .ok (.aload_n 0, 1) := by decide +kernel
theorem dX1_init_1 : decode cX1_init 1 = .ok (.invokespecial 3, 3) := by decide +kernel
theorem dX1_init_4 : decode cX1_init 4 = .ok (.aload_n 0, 1) := by decide +kernel
theorem dX1_init_5 : decode cX1_init 5 = .ok (.iconst 0, 1) := by decide +kernel
theorem dX1_init_6 : decode cX1_init 6 = .ok (.putfield 9, 3) := by decide +kernel
theorem dX1_init_9 : decode cX1_init 9 = .ok (.aload_n 0, 1) := by decide +kernel
theorem dX1_init_10 : decode cX1_init 10 = .ok (.iconst 0, 1) := by decide +kernel
theorem dX1_init_11 : decode cX1_init 11 = .ok (.putfield 15, 3) := by decide +kernel
theorem dX1_init_14 : decode cX1_init 14 = .ok (.aload_n 0, 1) := by decide +kernel
theorem dX1_init_15 : decode cX1_init 15 = .ok (.bipush (-2), 2) := by decide +kernel
theorem dX1_init_17 : decode cX1_init 17 = .ok (.putfield 18, 3) := by decide +kernel
theorem dX1_init_20 : decode cX1_init 20 = .ok (.aload_n 0, 1) := by decide +kernel
theorem dX1_init_21 : decode cX1_init 21 = .ok (.iconst 0, 1) := by decide +kernel
theorem dX1_init_22 : decode cX1_init 22 = .ok (.putfield 21, 3) := by decide +kernel
theorem dX1_init_25 : decode cX1_init 25 = .ok (.aload_n 0, 1) := by decide +kernel
theorem dX1_init_26 : decode cX1_init 26 = .ok (.iconst 0, 1) := by decide +kernel
theorem dX1_init_27 : decode cX1_init 27 = .ok (.putfield 24, 3) := by decide +kernel
theorem dX1_init_30 : decode cX1_init 30 = .ok (.aload_n 0, 1) := by decide +kernel
theorem dX1_init_31 : decode cX1_init 31 = .ok (.iconst 0, 1) := by decide +kernel
theorem dX1_init_32 : decode cX1_init 32 = .ok (.putfield 27, 3) := by decide +kernel
theorem dX1_init_35 : decode cX1_init 35 = .ok (.aload_n 0, 1) := by decide +kernel
theorem dX1_init_36 : decode cX1_init 36 = .ok (.bipush 10, 2) := by decide +kernel
theorem dX1_init_38 : decode cX1_init 38 = .ok (.newarray .int, 2) := by decide +kernel
theorem dX1_init_40 : decode cX1_init 40 = .ok (.putfield 30, 3) := by decide +kernel
theorem dX1_init_43 : decode cX1_init 43 = .ok (.aload_n 0, 1) := by decide +kernel
theorem dX1_init_44 : decode cX1_init 44 = .ok (.bipush 10, 2) := by decide +kernel
theorem dX1_init_46 : decode cX1_init 46 = .ok (.newarray .int, 2) := by decide +kernel
theorem dX1_init_48 : decode cX1_init 48 = .ok (.putfield 34, 3) := by decide +kernel
theorem dX1_init_51 : decode cX1_init 51 = .ok (.aload_n 0, 1) := by decide +kernel
theorem dX1_init_52 : decode cX1_init 52 = .ok (.iload_n 1, 1) := by decide +kernel
theorem dX1_init_53 : decode cX1_init 53 = .ok (.putfield 37, 3) := by decide +kernel
theorem dX1_init_56 : decode cX1_init 56 = .ok (.aload_n 0, 1) := by decide +kernel
theorem dX1_init_57 : decode cX1_init 57 = .ok (.iload_n 2, 1) := by decide +kernel
theorem dX1_init_58 : decode cX1_init 58 = .ok (.putfield 40, 3) := by decide +kernel
theorem dX1_init_61 : decode cX1_init 61 = .ok (.return_, 1) := by decide +kernel
theorem dX1_hasPrinted_0 : decode cX1_hasPrinted 0 = .ok (.iload_n 1, 1) := by decide +kernel
theorem dX1_hasPrinted_1 : decode cX1_hasPrinted 1 = .ok (.invokestatic 43, 3) := by decide +kernel
theorem dX1_hasPrinted_4 : decode cX1_hasPrinted 4 = .ok (.ifCond .eq 18, 3) := by decide +kernel
theorem dX1_hasPrinted_7 : decode cX1_hasPrinted 7 = .ok (.aload_n 0, 1) := by decide +kernel
theorem dX1_hasPrinted_8 : decode cX1_hasPrinted 8 = .ok (.getfield 24, 3) := by decide +kernel
theorem dX1_hasPrinted_11 : decode cX1_hasPrinted 11 = .ok (.iconst 1, 1) := by decide +kernel
theorem dX1_hasPrinted_12 : decode cX1_hasPrinted 12 = .ok (.iload_n 1, 1) := by decide +kernel
theorem dX1_hasPrinted_13 : decode cX1_hasPrinted 13 = .ok (.ishl, 1) := by decide +kernel
theorem dX1_hasPrinted_14 : decode cX1_hasPrinted 14 = .ok (.iand, 1) := by decide +kernel
theorem dX1_hasPrinted_15 : decode cX1_hasPrinted 15 = .ok (.ifCond .eq 7, 3) := by decide +kernel
theorem dX1_hasPrinted_18 : decode cX1_hasPrinted 18 = .ok (.iconst 1, 1) := by decide +kernel
theorem dX1_hasPrinted_19 : decode cX1_hasPrinted 19 = .ok (.goto 4, 3) := by decide +kernel
theorem dX1_hasPrinted_22 : decode cX1_hasPrinted 22 = .ok (.iconst 0, 1) := by decide +kernel
theorem dX1_hasPrinted_23 : decode cX1_hasPrinted 23 = .ok (.ireturn, 1) := by decide +kernel
theorem dX2_init_0 : decode cX2_init 0 = .ok (.aload_n 0, 1) := by decide +kernel
theorem dX2_init_1 : decode cX2_init 1 = .ok (.invokespecial 3, 3) := by decide +kernel
theorem dX2_init_4 : decode cX2_init 4 = .ok (.aload_n 0, 1) := by decide +kernel
theorem dX2_init_5 : decode cX2_init 5 = .ok (.bipush (-2), 2) := by decide +kernel
theorem dX2_init_7 : decode cX2_init 7 = .ok (.putfield 9, 3) := by decide +kernel
theorem dX2_init_10 : decode cX2_init 10 = .ok (.aload_n 0, 1) := by decide +kernel
theorem dX2_init_11 : decode cX2_init 11 = .ok (.iconst 0, 1) := by decide +kernel
theorem dX2_init_12 : decode cX2_init 12 = .ok (.putfield 15, 3) := by decide +kernel
theorem dX2_init_15 : decode cX2_init 15 = .ok (.aload_n 0, 1) := by decide +kernel
theorem dX2_init_16 : decode cX2_init 16 = .ok (.iconst 0, 1) := by decide +kernel
theorem dX2_init_17 : decode cX2_init 17 = .ok (.putfield 19, 3) := by decide +kernel
theorem dX2_init_20 : decode cX2_init 20 = .ok (.aload_n 0, 1) := by decide +kernel
theorem dX2_init_21 : decode cX2_init 21 = .ok (.iconst 0, 1) := by decide +kernel
theorem dX2_init_22 : decode cX2_init 22 = .ok (.putfield 22, 3) := by decide +kernel
theorem dX2_init_25 : decode cX2_init 25 = .ok (.aload_n 0, 1) := by decide +kernel
theorem dX2_init_26 : decode cX2_init 26 = .ok (.bipush 10, 2) := by decide +kernel
theorem dX2_init_28 : decode cX2_init 28 = .ok (.anewarray 25, 3) := by decide +kernel
theorem dX2_init_31 : decode cX2_init 31 = .ok (.putfield 27, 3) := by decide +kernel
theorem dX2_init_34 : decode cX2_init 34 = .ok (.aload_n 0, 1) := by decide +kernel
theorem dX2_init_35 : decode cX2_init 35 = .ok (.bipush 14, 2) := by decide +kernel
theorem dX2_init_37 : decode cX2_init 37 = .ok (.anewarray 31, 3) := by decide +kernel
theorem dX2_init_40 : decode cX2_init 40 = .ok (.putfield 33, 3) := by decide +kernel
theorem dX2_init_43 : decode cX2_init 43 = .ok (.aload_n 0, 1) := by decide +kernel
theorem dX2_init_44 : decode cX2_init 44 = .ok (.bipush 14, 2) := by decide +kernel
theorem dX2_init_46 : decode cX2_init 46 = .ok (.newarray .int, 2) := by decide +kernel
theorem dX2_init_48 : decode cX2_init 48 = .ok (.putfield 37, 3) := by decide +kernel
theorem dX2_init_51 : decode cX2_init 51 = .ok (.aload_n 0, 1) := by decide +kernel
theorem dX2_init_52 : decode cX2_init 52 = .ok (.bipush 14, 2) := by decide +kernel
theorem dX2_init_54 : decode cX2_init 54 = .ok (.newarray .int, 2) := by decide +kernel
theorem dX2_init_56 : decode cX2_init 56 = .ok (.putfield 41, 3) := by decide +kernel
theorem dX2_init_59 : decode cX2_init 59 = .ok (.aload_n 0, 1) := by decide +kernel
theorem dX2_init_60 : decode cX2_init 60 = .ok (.iconst 0, 1) := by decide +kernel
theorem dX2_init_61 : decode cX2_init 61 = .ok (.putfield 44, 3) := by decide +kernel
theorem dX2_init_64 : decode cX2_init 64 = .ok (.aload_n 0, 1) := by decide +kernel
theorem dX2_init_65 : decode cX2_init 65 = .ok (.iload_n 1, 1) := by decide +kernel
theorem dX2_init_66 : decode cX2_init 66 = .ok (.putfield 47, 3) := by decide +kernel
theorem dX2_init_69 : decode cX2_init 69 = .ok (.aload_n 0, 1) := by decide +kernel
theorem dX2_init_70 : decode cX2_init 70 = .ok (.iload_n 2, 1) := by decide +kernel
theorem dX2_init_71 : decode cX2_init 71 = .ok (.putfield 50, 3) := by decide +kernel
theorem dX2_init_74 : decode cX2_init 74 = .ok (.aload_n 0, 1) := by decide +kernel
theorem dX2_init_75 : decode cX2_init 75 = .ok (.iload_n 3, 1) := by decide +kernel
theorem dX2_init_76 : decode cX2_init 76 = .ok (.putfield 53, 3) := by decide +kernel
theorem dX2_init_79 : decode cX2_init 79 = .ok (.aload_n 0, 1) := by decide +kernel
theorem dX2_init_80 : decode cX2_init 80 = .ok (.iload 4, 2) := by decide +kernel
theorem dX2_init_82 : decode cX2_init 82 = .ok (.putfield 56, 3) := by decide +kernel
theorem dX2_init_85 : decode cX2_init 85 = .ok (.aload_n 0, 1) := by decide +kernel
theorem dX2_init_86 : decode cX2_init 86 = .ok (.iload 5, 2) := by decide +kernel
theorem dX2_init_88 : decode cX2_init 88 = .ok (.putfield 59, 3) := by decide +kernel
theorem dX2_init_91 : decode cX2_init 91 = .ok (.return_, 1) := by decide +kernel
theorem dX2_isDead_0 : decode cX2_isDead 0 = .ok (.aload_n 0, 1) := by decide +kernel
theorem dX2_isDead_1 : decode cX2_isDead 1 = .ok (.getfield 9, 3) := by decide +kernel
theorem dX2_isDead_4 : decode cX2_isDead 4 = .ok (.ifCond .lt 7, 3) := by decide +kernel
theorem dX2_isDead_7 : decode cX2_isDead 7 = .ok (.iconst 1, 1) := by decide +kernel
theorem dX2_isDead_8 : decode cX2_isDead 8 = .ok (.goto 4, 3) := by decide +kernel
theorem dX2_isDead_11 : decode cX2_isDead 11 = .ok (.iconst 0, 1) := by decide +kernel
theorem dX2_isDead_12 : decode cX2_isDead 12 = .ok (.ireturn, 1) := by decide +kernel
theorem dX2_kindsTold_0 : decode cX2_kindsTold 0 = .ok (.iconst 0, 1) := by decide +kernel
theorem dX2_kindsTold_1 : decode cX2_kindsTold 1 = .ok (.istore_n 1, 1) := by decide +kernel
theorem dX2_kindsTold_2 : decode cX2_kindsTold 2 = .ok (.iconst 0, 1) := by decide +kernel
theorem dX2_kindsTold_3 : decode cX2_kindsTold 3 = .ok (.istore_n 2, 1) := by decide +kernel
theorem dX2_kindsTold_4 : decode cX2_kindsTold 4 = .ok (.iload_n 2, 1) := by decide +kernel
theorem dX2_kindsTold_5 : decode cX2_kindsTold 5 = .ok (.bipush 10, 2) := by decide +kernel
theorem dX2_kindsTold_7 : decode cX2_kindsTold 7 = .ok (.if_icmp .ge 28, 3) := by decide +kernel
theorem dX2_kindsTold_10 : decode cX2_kindsTold 10 = .ok (.iload_n 1, 1) := by decide +kernel
theorem dX2_kindsTold_11 : decode cX2_kindsTold 11 = .ok (.aload_n 0, 1) := by decide +kernel
theorem dX2_kindsTold_12 : decode cX2_kindsTold 12 = .ok (.getfield 27, 3) := by decide +kernel
theorem dX2_kindsTold_15 : decode cX2_kindsTold 15 = .ok (.iload_n 2, 1) := by decide +kernel
theorem dX2_kindsTold_16 : decode cX2_kindsTold 16 = .ok (.aaload, 1) := by decide +kernel
theorem dX2_kindsTold_17 : decode cX2_kindsTold 17 = .ok (.ifnonnull 7, 3) := by decide +kernel
theorem dX2_kindsTold_20 : decode cX2_kindsTold 20 = .ok (.iconst 0, 1) := by decide +kernel
theorem dX2_kindsTold_21 : decode cX2_kindsTold 21 = .ok (.goto 6, 3) := by decide +kernel
theorem dX2_kindsTold_24 : decode cX2_kindsTold 24 = .ok (.iconst 1, 1) := by decide +kernel
theorem dX2_kindsTold_25 : decode cX2_kindsTold 25 = .ok (.iload_n 2, 1) := by decide +kernel
theorem dX2_kindsTold_26 : decode cX2_kindsTold 26 = .ok (.ishl, 1) := by decide +kernel
theorem dX2_kindsTold_27 : decode cX2_kindsTold 27 = .ok (.ior, 1) := by decide +kernel
theorem dX2_kindsTold_28 : decode cX2_kindsTold 28 = .ok (.istore_n 1, 1) := by decide +kernel
theorem dX2_kindsTold_29 : decode cX2_kindsTold 29 = .ok (.iinc 2 1, 3) := by decide +kernel
theorem dX2_kindsTold_32 : decode cX2_kindsTold 32 = .ok (.goto (-28), 3) := by decide +kernel
theorem dX2_kindsTold_35 : decode cX2_kindsTold 35 = .ok (.iload_n 1, 1) := by decide +kernel
theorem dX2_kindsTold_36 : decode cX2_kindsTold 36 = .ok (.ireturn, 1) := by decide +kernel
theorem dX3_init_0 : decode cX3_init 0 = .ok (.aload_n 0, 1) := by decide +kernel
theorem dX3_init_1 : decode cX3_init 1 = .ok (.invokespecial 1, 3) := by decide +kernel
theorem dX3_init_4 : decode cX3_init 4 = .ok (.aload_n 0, 1) := by decide +kernel
theorem dX3_init_5 : decode cX3_init 5 = .ok (.iconst 0, 1) := by decide +kernel
theorem dX3_init_6 : decode cX3_init 6 = .ok (.putfield 7, 3) := by decide +kernel
theorem dX3_init_9 : decode cX3_init 9 = .ok (.aload_n 0, 1) := by decide +kernel
theorem dX3_init_10 : decode cX3_init 10 = .ok (.iload_n 1, 1) := by decide +kernel
theorem dX3_init_11 : decode cX3_init 11 = .ok (.putfield 13, 3) := by decide +kernel
theorem dX3_init_14 : decode cX3_init 14 = .ok (.aload_n 0, 1) := by decide +kernel
theorem dX3_init_15 : decode cX3_init 15 = .ok (.iload_n 2, 1) := by decide +kernel
theorem dX3_init_16 : decode cX3_init 16 = .ok (.putfield 16, 3) := by decide +kernel
theorem dX3_init_19 : decode cX3_init 19 = .ok (.aload_n 0, 1) := by decide +kernel
theorem dX3_init_20 : decode cX3_init 20 = .ok (.iload_n 3, 1) := by decide +kernel
theorem dX3_init_21 : decode cX3_init 21 = .ok (.putfield 19, 3) := by decide +kernel
theorem dX3_init_24 : decode cX3_init 24 = .ok (.aload_n 0, 1) := by decide +kernel
theorem dX3_init_25 : decode cX3_init 25 = .ok (.iload 4, 2) := by decide +kernel
theorem dX3_init_27 : decode cX3_init 27 = .ok (.putfield 22, 3) := by decide +kernel
theorem dX3_init_30 : decode cX3_init 30 = .ok (.aload_n 0, 1) := by decide +kernel
theorem dX3_init_31 : decode cX3_init 31 = .ok (.iload 5, 2) := by decide +kernel
theorem dX3_init_33 : decode cX3_init 33 = .ok (.putfield 25, 3) := by decide +kernel
theorem dX3_init_36 : decode cX3_init 36 = .ok (.return_, 1) := by decide +kernel
theorem dX3_isFree_0 : decode cX3_isFree 0 = .ok (.iload_n 1, 1) := by decide +kernel
theorem dX3_isFree_1 : decode cX3_isFree 1 = .ok (.aload_n 0, 1) := by decide +kernel
theorem dX3_isFree_2 : decode cX3_isFree 2 = .ok (.getfield 19, 3) := by decide +kernel
theorem dX3_isFree_5 : decode cX3_isFree 5 = .ok (.if_icmp .lt 26, 3) := by decide +kernel
theorem dX3_isFree_8 : decode cX3_isFree 8 = .ok (.iload_n 1, 1) := by decide +kernel
theorem dX3_isFree_9 : decode cX3_isFree 9 = .ok (.aload_n 0, 1) := by decide +kernel
theorem dX3_isFree_10 : decode cX3_isFree 10 = .ok (.getfield 22, 3) := by decide +kernel
theorem dX3_isFree_13 : decode cX3_isFree 13 = .ok (.if_icmp .gt 18, 3) := by decide +kernel
theorem dX3_isFree_16 : decode cX3_isFree 16 = .ok (.aload_n 0, 1) := by decide +kernel
theorem dX3_isFree_17 : decode cX3_isFree 17 = .ok (.getfield 7, 3) := by decide +kernel
theorem dX3_isFree_20 : decode cX3_isFree 20 = .ok (.aload_n 0, 1) := by decide +kernel
theorem dX3_isFree_21 : decode cX3_isFree 21 = .ok (.getfield 25, 3) := by decide +kernel
theorem dX3_isFree_24 : decode cX3_isFree 24 = .ok (.if_icmp .ge 7, 3) := by decide +kernel
theorem dX3_isFree_27 : decode cX3_isFree 27 = .ok (.iconst 1, 1) := by decide +kernel
theorem dX3_isFree_28 : decode cX3_isFree 28 = .ok (.goto 4, 3) := by decide +kernel
theorem dX3_isFree_31 : decode cX3_isFree 31 = .ok (.iconst 0, 1) := by decide +kernel
theorem dX3_isFree_32 : decode cX3_isFree 32 = .ok (.ireturn, 1) := by decide +kernel
theorem dX4_init_0 : decode cX4_init 0 = .ok (.aload_n 0, 1) := by decide +kernel
theorem dX4_init_1 : decode cX4_init 1 = .ok (.invokespecial 3, 3) := by decide +kernel
theorem dX4_init_4 : decode cX4_init 4 = .ok (.aload_n 0, 1) := by decide +kernel
theorem dX4_init_5 : decode cX4_init 5 = .ok (.bipush 21, 2) := by decide +kernel
theorem dX4_init_7 : decode cX4_init 7 = .ok (.newarray .int, 2) := by decide +kernel
theorem dX4_init_9 : decode cX4_init 9 = .ok (.putfield 9, 3) := by decide +kernel
theorem dX4_init_12 : decode cX4_init 12 = .ok (.aload_n 0, 1) := by decide +kernel
theorem dX4_init_13 : decode cX4_init 13 = .ok (.sipush 1024, 3) := by decide +kernel
theorem dX4_init_16 : decode cX4_init 16 = .ok (.newarray .byte, 2) := by decide +kernel
theorem dX4_init_18 : decode cX4_init 18 = .ok (.putfield 15, 3) := by decide +kernel
theorem dX4_init_21 : decode cX4_init 21 = .ok (.aload_n 0, 1) := by decide +kernel
theorem dX4_init_22 : decode cX4_init 22 = .ok (.iconst 0, 1) := by decide +kernel
theorem dX4_init_23 : decode cX4_init 23 = .ok (.putfield 19, 3) := by decide +kernel
theorem dX4_init_26 : decode cX4_init 26 = .ok (.aload_n 0, 1) := by decide +kernel
theorem dX4_init_27 : decode cX4_init 27 = .ok (.iconst 0, 1) := by decide +kernel
theorem dX4_init_28 : decode cX4_init 28 = .ok (.putfield 23, 3) := by decide +kernel
theorem dX4_init_31 : decode cX4_init 31 = .ok (.aload_n 0, 1) := by decide +kernel
theorem dX4_init_32 : decode cX4_init 32 = .ok (.iconst 0, 1) := by decide +kernel
theorem dX4_init_33 : decode cX4_init 33 = .ok (.putfield 26, 3) := by decide +kernel
theorem dX4_init_36 : decode cX4_init 36 = .ok (.aload_n 0, 1) := by decide +kernel
theorem dX4_init_37 : decode cX4_init 37 = .ok (.iconst 0, 1) := by decide +kernel
theorem dX4_init_38 : decode cX4_init 38 = .ok (.putfield 30, 3) := by decide +kernel
theorem dX4_init_41 : decode cX4_init 41 = .ok (.aload_n 0, 1) := by decide +kernel
theorem dX4_init_42 : decode cX4_init 42 = .ok (.iconst 0, 1) := by decide +kernel
theorem dX4_init_43 : decode cX4_init 43 = .ok (.putfield 33, 3) := by decide +kernel
theorem dX4_init_46 : decode cX4_init 46 = .ok (.aload_n 0, 1) := by decide +kernel
theorem dX4_init_47 : decode cX4_init 47 = .ok (.iconst 0, 1) := by decide +kernel
theorem dX4_init_48 : decode cX4_init 48 = .ok (.putfield 36, 3) := by decide +kernel
theorem dX4_init_51 : decode cX4_init 51 = .ok (.aload_n 0, 1) := by decide +kernel
theorem dX4_init_52 : decode cX4_init 52 = .ok (.iconst 0, 1) := by decide +kernel
theorem dX4_init_53 : decode cX4_init 53 = .ok (.putfield 39, 3) := by decide +kernel
theorem dX4_init_56 : decode cX4_init 56 = .ok (.aload_n 0, 1) := by decide +kernel
theorem dX4_init_57 : decode cX4_init 57 = .ok (.iconst 0, 1) := by decide +kernel
theorem dX4_init_58 : decode cX4_init 58 = .ok (.putfield 42, 3) := by decide +kernel
theorem dX4_init_61 : decode cX4_init 61 = .ok (.aload_n 0, 1) := by decide +kernel
theorem dX4_init_62 : decode cX4_init 62 = .ok (.iconst 0, 1) := by decide +kernel
theorem dX4_init_63 : decode cX4_init 63 = .ok (.putfield 45, 3) := by decide +kernel
theorem dX4_init_66 : decode cX4_init 66 = .ok (.aload_n 0, 1) := by decide +kernel
theorem dX4_init_67 : decode cX4_init 67 = .ok (.iconst 0, 1) := by decide +kernel
theorem dX4_init_68 : decode cX4_init 68 = .ok (.putfield 48, 3) := by decide +kernel
theorem dX4_init_71 : decode cX4_init 71 = .ok (.aload_n 0, 1) := by decide +kernel
theorem dX4_init_72 : decode cX4_init 72 = .ok (.iconst 0, 1) := by decide +kernel
theorem dX4_init_73 : decode cX4_init 73 = .ok (.putfield 51, 3) := by decide +kernel
theorem dX4_init_76 : decode cX4_init 76 = .ok (.aload_n 0, 1) := by decide +kernel
theorem dX4_init_77 : decode cX4_init 77 = .ok (.iconst 0, 1) := by decide +kernel
theorem dX4_init_78 : decode cX4_init 78 = .ok (.putfield 54, 3) := by decide +kernel
theorem dX4_init_81 : decode cX4_init 81 = .ok (.return_, 1) := by decide +kernel
theorem dX4_run_0 : decode cX4_run 0 = .ok (.aload_n 0, 1) := by decide +kernel
theorem dX4_run_1 : decode cX4_run 1 = .ok (.iload_n 2, 1) := by decide +kernel
theorem dX4_run_2 : decode cX4_run 2 = .ok (.putfield 33, 3) := by decide +kernel
theorem dX4_run_5 : decode cX4_run 5 = .ok (.aload_n 0, 1) := by decide +kernel
theorem dX4_run_6 : decode cX4_run 6 = .ok (.iconst 0, 1) := by decide +kernel
theorem dX4_run_7 : decode cX4_run 7 = .ok (.putfield 30, 3) := by decide +kernel
theorem dX4_run_10 : decode cX4_run 10 = .ok (.aload_n 0, 1) := by decide +kernel
theorem dX4_run_11 : decode cX4_run 11 = .ok (.iconst 0, 1) := by decide +kernel
theorem dX4_run_12 : decode cX4_run 12 = .ok (.putfield 36, 3) := by decide +kernel
theorem dX4_run_15 : decode cX4_run 15 = .ok (.aload_n 0, 1) := by decide +kernel
theorem dX4_run_16 : decode cX4_run 16 = .ok (.iconst 0, 1) := by decide +kernel
theorem dX4_run_17 : decode cX4_run 17 = .ok (.putfield 39, 3) := by decide +kernel
theorem dX4_run_20 : decode cX4_run 20 = .ok (.aload_n 0, 1) := by decide +kernel
theorem dX4_run_21 : decode cX4_run 21 = .ok (.iconst 0, 1) := by decide +kernel
theorem dX4_run_22 : decode cX4_run 22 = .ok (.putfield 48, 3) := by decide +kernel
theorem dX4_run_25 : decode cX4_run 25 = .ok (.aload_n 0, 1) := by decide +kernel
theorem dX4_run_26 : decode cX4_run 26 = .ok (.iconst 0, 1) := by decide +kernel
theorem dX4_run_27 : decode cX4_run 27 = .ok (.putfield 51, 3) := by decide +kernel
theorem dX4_run_30 : decode cX4_run 30 = .ok (.aload_n 0, 1) := by decide +kernel
theorem dX4_run_31 : decode cX4_run 31 = .ok (.iconst 0, 1) := by decide +kernel
theorem dX4_run_32 : decode cX4_run 32 = .ok (.putfield 54, 3) := by decide +kernel
theorem dX4_run_35 : decode cX4_run 35 = .ok (.iconst 0, 1) := by decide +kernel
theorem dX4_run_36 : decode cX4_run 36 = .ok (.istore_n 3, 1) := by decide +kernel
theorem dX4_run_37 : decode cX4_run 37 = .ok (.iload_n 3, 1) := by decide +kernel
theorem dX4_run_38 : decode cX4_run 38 = .ok (.aload_n 1, 1) := by decide +kernel
theorem dX4_run_39 : decode cX4_run 39 = .ok (.arraylength, 1) := by decide +kernel
theorem dX4_run_40 : decode cX4_run 40 = .ok (.if_icmp .ge 64, 3) := by decide +kernel
theorem dX4_run_43 : decode cX4_run 43 = .ok (.aload_n 1, 1) := by decide +kernel
theorem dX4_run_44 : decode cX4_run 44 = .ok (.iload_n 3, 1) := by decide +kernel
theorem dX4_run_45 : decode cX4_run 45 = .ok (.iaload, 1) := by decide +kernel
theorem dX4_run_46 : decode cX4_run 46 = .ok (.bipush 16, 2) := by decide +kernel
theorem dX4_run_48 : decode cX4_run 48 = .ok (.ishr, 1) := by decide +kernel
theorem dX4_run_49 : decode cX4_run 49 = .ok (.istore 4, 2) := by decide +kernel
theorem dX4_run_51 : decode cX4_run 51 = .ok (.aload_n 1, 1) := by decide +kernel
theorem dX4_run_52 : decode cX4_run 52 = .ok (.iload_n 3, 1) := by decide +kernel
theorem dX4_run_53 : decode cX4_run 53 = .ok (.iaload, 1) := by decide +kernel
theorem dX4_run_54 : decode cX4_run 54 = .ok (.ldc 57, 2) := by decide +kernel
theorem dX4_run_56 : decode cX4_run 56 = .ok (.iand, 1) := by decide +kernel
theorem dX4_run_57 : decode cX4_run 57 = .ok (.istore 5, 2) := by decide +kernel
theorem dX4_run_59 : decode cX4_run 59 = .ok (.iinc 3 1, 3) := by decide +kernel
theorem dX4_run_62 : decode cX4_run 62 = .ok (.iload 4, 2) := by decide +kernel
theorem dX4_run_64 : decode cX4_run 64 = .ok (.bipush 14, 2) := by decide +kernel
theorem dX4_run_66 : decode cX4_run 66 = .ok (.if_icmp .eq 17, 3) := by decide +kernel
theorem dX4_run_69 : decode cX4_run 69 = .ok (.iload 4, 2) := by decide +kernel
theorem dX4_run_71 : decode cX4_run 71 = .ok (.bipush 13, 2) := by decide +kernel
theorem dX4_run_73 : decode cX4_run 73 = .ok (.if_icmp .ne 20, 3) := by decide +kernel
theorem dX4_run_76 : decode cX4_run 76 = .ok (.aload_n 0, 1) := by decide +kernel
theorem dX4_run_77 : decode cX4_run 77 = .ok (.getfield 54, 3) := by decide +kernel
theorem dX4_run_80 : decode cX4_run 80 = .ok (.ifCond .ne 13, 3) := by decide +kernel
theorem dX4_run_83 : decode cX4_run 83 = .ok (.iload_n 3, 1) := by decide +kernel
theorem dX4_run_84 : decode cX4_run 84 = .ok (.iload 5, 2) := by decide +kernel
theorem dX4_run_86 : decode cX4_run 86 = .ok (.invokestatic 58, 3) := by decide +kernel
theorem dX4_run_89 : decode cX4_run 89 = .ok (.istore_n 3, 1) := by decide +kernel
theorem dX4_run_90 : decode cX4_run 90 = .ok (.goto 11, 3) := by decide +kernel
theorem dX4_run_93 : decode cX4_run 93 = .ok (.aload_n 0, 1) := by decide +kernel
theorem dX4_run_94 : decode cX4_run 94 = .ok (.iload 4, 2) := by decide +kernel
theorem dX4_run_96 : decode cX4_run 96 = .ok (.iload 5, 2) := by decide +kernel
theorem dX4_run_98 : decode cX4_run 98 = .ok (.invokevirtual 64, 3) := by decide +kernel
theorem dX4_run_101 : decode cX4_run 101 = .ok (.goto (-64), 3) := by decide +kernel
theorem dX4_run_104 : decode cX4_run 104 = .ok (.aload_n 0, 1) := by decide +kernel
theorem dX4_run_105 : decode cX4_run 105 = .ok (.getfield 54, 3) := by decide +kernel
theorem dX4_run_108 : decode cX4_run 108 = .ok (.ireturn, 1) := by decide +kernel
theorem dX4_perform_0 : decode cX4_perform 0 = .ok (.iload_n 1, 1) := by decide +kernel
theorem dX4_perform_1 : decode cX4_perform 1 = .ok (.tableswitch 252 0 12 #[67, 75, 83, 106, 114, 125, 141, 160, 179, 202, 225, 236, 244], 67) := by decide +kernel
theorem dX4_perform_68 : decode cX4_perform 68 = .ok (.aload_n 0, 1) := by decide +kernel
theorem dX4_perform_69 : decode cX4_perform 69 = .ok (.iload_n 2, 1) := by decide +kernel
theorem dX4_perform_70 : decode cX4_perform 70 = .ok (.invokevirtual 68, 3) := by decide +kernel
theorem dX4_perform_73 : decode cX4_perform 73 = .ok (.goto 180, 3) := by decide +kernel
theorem dX4_perform_76 : decode cX4_perform 76 = .ok (.aload_n 0, 1) := by decide +kernel
theorem dX4_perform_77 : decode cX4_perform 77 = .ok (.iload_n 2, 1) := by decide +kernel
theorem dX4_perform_78 : decode cX4_perform 78 = .ok (.invokevirtual 72, 3) := by decide +kernel
theorem dX4_perform_81 : decode cX4_perform 81 = .ok (.goto 172, 3) := by decide +kernel
theorem dX4_perform_84 : decode cX4_perform 84 = .ok (.aload_n 0, 1) := by decide +kernel
theorem dX4_perform_85 : decode cX4_perform 85 = .ok (.iload_n 2, 1) := by decide +kernel
theorem dX4_perform_86 : decode cX4_perform 86 = .ok (.bipush 21, 2) := by decide +kernel
theorem dX4_perform_88 : decode cX4_perform 88 = .ok (.if_icmp .ge 12, 3) := by decide +kernel
theorem dX4_perform_91 : decode cX4_perform 91 = .ok (.aload_n 0, 1) := by decide +kernel
theorem dX4_perform_92 : decode cX4_perform 92 = .ok (.getfield 9, 3) := by decide +kernel
theorem dX4_perform_95 : decode cX4_perform 95 = .ok (.iload_n 2, 1) := by decide +kernel
theorem dX4_perform_96 : decode cX4_perform 96 = .ok (.iaload, 1) := by decide +kernel
theorem dX4_perform_97 : decode cX4_perform 97 = .ok (.goto 4, 3) := by decide +kernel
theorem dX4_perform_100 : decode cX4_perform 100 = .ok (.iconst 0, 1) := by decide +kernel
theorem dX4_perform_101 : decode cX4_perform 101 = .ok (.invokevirtual 72, 3) := by decide +kernel
theorem dX4_perform_104 : decode cX4_perform 104 = .ok (.goto 149, 3) := by decide +kernel
theorem dX4_perform_107 : decode cX4_perform 107 = .ok (.aload_n 0, 1) := by decide +kernel
theorem dX4_perform_108 : decode cX4_perform 108 = .ok (.iconst 1, 1) := by decide +kernel
theorem dX4_perform_109 : decode cX4_perform 109 = .ok (.putfield 39, 3) := by decide +kernel
theorem dX4_perform_112 : decode cX4_perform 112 = .ok (.goto 141, 3) := by decide +kernel
theorem dX4_perform_115 : decode cX4_perform 115 = .ok (.aload_n 0, 1) := by decide +kernel
theorem dX4_perform_116 : decode cX4_perform 116 = .ok (.aload_n 0, 1) := by decide +kernel
theorem dX4_perform_117 : decode cX4_perform 117 = .ok (.invokevirtual 75, 3) := by decide +kernel
theorem dX4_perform_120 : decode cX4_perform 120 = .ok (.invokevirtual 79, 3) := by decide +kernel
theorem dX4_perform_123 : decode cX4_perform 123 = .ok (.goto 130, 3) := by decide +kernel
theorem dX4_perform_126 : decode cX4_perform 126 = .ok (.aload_n 0, 1) := by decide +kernel
theorem dX4_perform_127 : decode cX4_perform 127 = .ok (.aload_n 0, 1) := by decide +kernel
theorem dX4_perform_128 : decode cX4_perform 128 = .ok (.invokevirtual 75, 3) := by decide +kernel
theorem dX4_perform_131 : decode cX4_perform 131 = .ok (.putfield 42, 3) := by decide +kernel
theorem dX4_perform_134 : decode cX4_perform 134 = .ok (.aload_n 0, 1) := by decide +kernel
theorem dX4_perform_135 : decode cX4_perform 135 = .ok (.iload_n 2, 1) := by decide +kernel
theorem dX4_perform_136 : decode cX4_perform 136 = .ok (.putfield 45, 3) := by decide +kernel
theorem dX4_perform_139 : decode cX4_perform 139 = .ok (.goto 114, 3) := by decide +kernel
theorem dX4_perform_142 : decode cX4_perform 142 = .ok (.aload_n 0, 1) := by decide +kernel
theorem dX4_perform_143 : decode cX4_perform 143 = .ok (.aload_n 0, 1) := by decide +kernel
theorem dX4_perform_144 : decode cX4_perform 144 = .ok (.aload_n 0, 1) := by decide +kernel
theorem dX4_perform_145 : decode cX4_perform 145 = .ok (.getfield 42, 3) := by decide +kernel
theorem dX4_perform_148 : decode cX4_perform 148 = .ok (.aload_n 0, 1) := by decide +kernel
theorem dX4_perform_149 : decode cX4_perform 149 = .ok (.invokevirtual 75, 3) := by decide +kernel
theorem dX4_perform_152 : decode cX4_perform 152 = .ok (.invokevirtual 82, 3) := by decide +kernel
theorem dX4_perform_155 : decode cX4_perform 155 = .ok (.invokevirtual 86, 3) := by decide +kernel
theorem dX4_perform_158 : decode cX4_perform 158 = .ok (.goto 95, 3) := by decide +kernel
theorem dX4_perform_161 : decode cX4_perform 161 = .ok (.aload_n 0, 1) := by decide +kernel
theorem dX4_perform_162 : decode cX4_perform 162 = .ok (.aload_n 0, 1) := by decide +kernel
theorem dX4_perform_163 : decode cX4_perform 163 = .ok (.getfield 48, 3) := by decide +kernel
theorem dX4_perform_166 : decode cX4_perform 166 = .ok (.ifCond .ne 7, 3) := by decide +kernel
theorem dX4_perform_169 : decode cX4_perform 169 = .ok (.iconst 1, 1) := by decide +kernel
theorem dX4_perform_170 : decode cX4_perform 170 = .ok (.goto 4, 3) := by decide +kernel
theorem dX4_perform_173 : decode cX4_perform 173 = .ok (.iconst 0, 1) := by decide +kernel
theorem dX4_perform_174 : decode cX4_perform 174 = .ok (.putfield 48, 3) := by decide +kernel
theorem dX4_perform_177 : decode cX4_perform 177 = .ok (.goto 76, 3) := by decide +kernel
theorem dX4_perform_180 : decode cX4_perform 180 = .ok (.aload_n 0, 1) := by decide +kernel
theorem dX4_perform_181 : decode cX4_perform 181 = .ok (.aload_n 0, 1) := by decide +kernel
theorem dX4_perform_182 : decode cX4_perform 182 = .ok (.getfield 19, 3) := by decide +kernel
theorem dX4_perform_185 : decode cX4_perform 185 = .ok (.iconst 1, 1) := by decide +kernel
theorem dX4_perform_186 : decode cX4_perform 186 = .ok (.iload_n 2, 1) := by decide +kernel
theorem dX4_perform_187 : decode cX4_perform 187 = .ok (.ishl, 1) := by decide +kernel
theorem dX4_perform_188 : decode cX4_perform 188 = .ok (.iand, 1) := by decide +kernel
theorem dX4_perform_189 : decode cX4_perform 189 = .ok (.ifCond .eq 7, 3) := by decide +kernel
theorem dX4_perform_192 : decode cX4_perform 192 = .ok (.iconst 1, 1) := by decide +kernel
theorem dX4_perform_193 : decode cX4_perform 193 = .ok (.goto 4, 3) := by decide +kernel
theorem dX4_perform_196 : decode cX4_perform 196 = .ok (.iconst 0, 1) := by decide +kernel
theorem dX4_perform_197 : decode cX4_perform 197 = .ok (.invokevirtual 86, 3) := by decide +kernel
theorem dX4_perform_200 : decode cX4_perform 200 = .ok (.goto 53, 3) := by decide +kernel
theorem dX4_perform_203 : decode cX4_perform 203 = .ok (.aload_n 0, 1) := by decide +kernel
theorem dX4_perform_204 : decode cX4_perform 204 = .ok (.aload_n 0, 1) := by decide +kernel
theorem dX4_perform_205 : decode cX4_perform 205 = .ok (.getfield 23, 3) := by decide +kernel
theorem dX4_perform_208 : decode cX4_perform 208 = .ok (.iconst 1, 1) := by decide +kernel
theorem dX4_perform_209 : decode cX4_perform 209 = .ok (.iload_n 2, 1) := by decide +kernel
theorem dX4_perform_210 : decode cX4_perform 210 = .ok (.ishl, 1) := by decide +kernel
theorem dX4_perform_211 : decode cX4_perform 211 = .ok (.iand, 1) := by decide +kernel
theorem dX4_perform_212 : decode cX4_perform 212 = .ok (.ifCond .eq 7, 3) := by decide +kernel
theorem dX4_perform_215 : decode cX4_perform 215 = .ok (.iconst 1, 1) := by decide +kernel
theorem dX4_perform_216 : decode cX4_perform 216 = .ok (.goto 4, 3) := by decide +kernel
theorem dX4_perform_219 : decode cX4_perform 219 = .ok (.iconst 0, 1) := by decide +kernel
theorem dX4_perform_220 : decode cX4_perform 220 = .ok (.invokevirtual 86, 3) := by decide +kernel
theorem dX4_perform_223 : decode cX4_perform 223 = .ok (.goto 30, 3) := by decide +kernel
theorem dX4_perform_226 : decode cX4_perform 226 = .ok (.aload_n 0, 1) := by decide +kernel
theorem dX4_perform_227 : decode cX4_perform 227 = .ok (.aload_n 0, 1) := by decide +kernel
theorem dX4_perform_228 : decode cX4_perform 228 = .ok (.getfield 26, 3) := by decide +kernel
theorem dX4_perform_231 : decode cX4_perform 231 = .ok (.invokevirtual 86, 3) := by decide +kernel
theorem dX4_perform_234 : decode cX4_perform 234 = .ok (.goto 19, 3) := by decide +kernel
theorem dX4_perform_237 : decode cX4_perform 237 = .ok (.aload_n 0, 1) := by decide +kernel
theorem dX4_perform_238 : decode cX4_perform 238 = .ok (.iconst 0, 1) := by decide +kernel
theorem dX4_perform_239 : decode cX4_perform 239 = .ok (.putfield 51, 3) := by decide +kernel
theorem dX4_perform_242 : decode cX4_perform 242 = .ok (.goto 11, 3) := by decide +kernel
theorem dX4_perform_245 : decode cX4_perform 245 = .ok (.aload_n 0, 1) := by decide +kernel
theorem dX4_perform_246 : decode cX4_perform 246 = .ok (.iload_n 2, 1) := by decide +kernel
theorem dX4_perform_247 : decode cX4_perform 247 = .ok (.putfield 51, 3) := by decide +kernel
theorem dX4_perform_250 : decode cX4_perform 250 = .ok (.goto 3, 3) := by decide +kernel
theorem dX4_perform_253 : decode cX4_perform 253 = .ok (.return_, 1) := by decide +kernel
theorem dX4_add_0 : decode cX4_add 0 = .ok (.aload_n 0, 1) := by decide +kernel
theorem dX4_add_1 : decode cX4_add 1 = .ok (.dup, 1) := by decide +kernel
theorem dX4_add_2 : decode cX4_add 2 = .ok (.getfield 36, 3) := by decide +kernel
theorem dX4_add_5 : decode cX4_add 5 = .ok (.aload_n 0, 1) := by decide +kernel
theorem dX4_add_6 : decode cX4_add 6 = .ok (.getfield 39, 3) := by decide +kernel
theorem dX4_add_9 : decode cX4_add 9 = .ok (.ifCond .eq 8, 3) := by decide +kernel
theorem dX4_add_12 : decode cX4_add 12 = .ok (.iload_n 1, 1) := by decide +kernel
theorem dX4_add_13 : decode cX4_add 13 = .ok (.ineg, 1) := by decide +kernel
theorem dX4_add_14 : decode cX4_add 14 = .ok (.goto 4, 3) := by decide +kernel
theorem dX4_add_17 : decode cX4_add 17 = .ok (.iload_n 1, 1) := by decide +kernel
theorem dX4_add_18 : decode cX4_add 18 = .ok (.iadd, 1) := by decide +kernel
theorem dX4_add_19 : decode cX4_add 19 = .ok (.putfield 36, 3) := by decide +kernel
theorem dX4_add_22 : decode cX4_add 22 = .ok (.aload_n 0, 1) := by decide +kernel
theorem dX4_add_23 : decode cX4_add 23 = .ok (.iconst 0, 1) := by decide +kernel
theorem dX4_add_24 : decode cX4_add 24 = .ok (.putfield 39, 3) := by decide +kernel
theorem dX4_add_27 : decode cX4_add 27 = .ok (.return_, 1) := by decide +kernel
theorem dX4_takeSum_0 : decode cX4_takeSum 0 = .ok (.aload_n 0, 1) := by decide +kernel
theorem dX4_takeSum_1 : decode cX4_takeSum 1 = .ok (.getfield 36, 3) := by decide +kernel
theorem dX4_takeSum_4 : decode cX4_takeSum 4 = .ok (.istore_n 1, 1) := by decide +kernel
theorem dX4_takeSum_5 : decode cX4_takeSum 5 = .ok (.aload_n 0, 1) := by decide +kernel
theorem dX4_takeSum_6 : decode cX4_takeSum 6 = .ok (.iconst 0, 1) := by decide +kernel
theorem dX4_takeSum_7 : decode cX4_takeSum 7 = .ok (.putfield 36, 3) := by decide +kernel
theorem dX4_takeSum_10 : decode cX4_takeSum 10 = .ok (.iload_n 1, 1) := by decide +kernel
theorem dX4_takeSum_11 : decode cX4_takeSum 11 = .ok (.ireturn, 1) := by decide +kernel
theorem dX4_compares_0 : decode cX4_compares 0 = .ok (.aload_n 0, 1) := by decide +kernel
theorem dX4_compares_1 : decode cX4_compares 1 = .ok (.getfield 45, 3) := by decide +kernel
theorem dX4_compares_4 : decode cX4_compares 4 = .ok (.bipush 60, 2) := by decide +kernel
theorem dX4_compares_6 : decode cX4_compares 6 = .ok (.if_icmp .ne 16, 3) := by decide +kernel
theorem dX4_compares_9 : decode cX4_compares 9 = .ok (.iload_n 1, 1) := by decide +kernel
theorem dX4_compares_10 : decode cX4_compares 10 = .ok (.iload_n 2, 1) := by decide +kernel
theorem dX4_compares_11 : decode cX4_compares 11 = .ok (.if_icmp .ge 7, 3) := by decide +kernel
theorem dX4_compares_14 : decode cX4_compares 14 = .ok (.iconst 1, 1) := by decide +kernel
theorem dX4_compares_15 : decode cX4_compares 15 = .ok (.goto 39, 3) := by decide +kernel
theorem dX4_compares_18 : decode cX4_compares 18 = .ok (.iconst 0, 1) := by decide +kernel
theorem dX4_compares_19 : decode cX4_compares 19 = .ok (.goto 35, 3) := by decide +kernel
theorem dX4_compares_22 : decode cX4_compares 22 = .ok (.aload_n 0, 1) := by decide +kernel
theorem dX4_compares_23 : decode cX4_compares 23 = .ok (.getfield 45, 3) := by decide +kernel
theorem dX4_compares_26 : decode cX4_compares 26 = .ok (.bipush 62, 2) := by decide +kernel
theorem dX4_compares_28 : decode cX4_compares 28 = .ok (.if_icmp .ne 16, 3) := by decide +kernel
theorem dX4_compares_31 : decode cX4_compares 31 = .ok (.iload_n 1, 1) := by decide +kernel
theorem dX4_compares_32 : decode cX4_compares 32 = .ok (.iload_n 2, 1) := by decide +kernel
theorem dX4_compares_33 : decode cX4_compares 33 = .ok (.if_icmp .le 7, 3) := by decide +kernel
theorem dX4_compares_36 : decode cX4_compares 36 = .ok (.iconst 1, 1) := by decide +kernel
theorem dX4_compares_37 : decode cX4_compares 37 = .ok (.goto 17, 3) := by decide +kernel
theorem dX4_compares_40 : decode cX4_compares 40 = .ok (.iconst 0, 1) := by decide +kernel
theorem dX4_compares_41 : decode cX4_compares 41 = .ok (.goto 13, 3) := by decide +kernel
theorem dX4_compares_44 : decode cX4_compares 44 = .ok (.iload_n 1, 1) := by decide +kernel
theorem dX4_compares_45 : decode cX4_compares 45 = .ok (.iload_n 2, 1) := by decide +kernel
theorem dX4_compares_46 : decode cX4_compares 46 = .ok (.if_icmp .ne 7, 3) := by decide +kernel
theorem dX4_compares_49 : decode cX4_compares 49 = .ok (.iconst 1, 1) := by decide +kernel
theorem dX4_compares_50 : decode cX4_compares 50 = .ok (.goto 4, 3) := by decide +kernel
theorem dX4_compares_53 : decode cX4_compares 53 = .ok (.iconst 0, 1) := by decide +kernel
theorem dX4_compares_54 : decode cX4_compares 54 = .ok (.ireturn, 1) := by decide +kernel
theorem dX4_decide_0 : decode cX4_decide 0 = .ok (.iload_n 1, 1) := by decide +kernel
theorem dX4_decide_1 : decode cX4_decide 1 = .ok (.aload_n 0, 1) := by decide +kernel
theorem dX4_decide_2 : decode cX4_decide 2 = .ok (.getfield 48, 3) := by decide +kernel
theorem dX4_decide_5 : decode cX4_decide 5 = .ok (.if_icmp .eq 7, 3) := by decide +kernel
theorem dX4_decide_8 : decode cX4_decide 8 = .ok (.iconst 1, 1) := by decide +kernel
theorem dX4_decide_9 : decode cX4_decide 9 = .ok (.goto 4, 3) := by decide +kernel
theorem dX4_decide_12 : decode cX4_decide 12 = .ok (.iconst 0, 1) := by decide +kernel
theorem dX4_decide_13 : decode cX4_decide 13 = .ok (.istore_n 2, 1) := by decide +kernel
theorem dX4_decide_14 : decode cX4_decide 14 = .ok (.aload_n 0, 1) := by decide +kernel
theorem dX4_decide_15 : decode cX4_decide 15 = .ok (.iconst 0, 1) := by decide +kernel
theorem dX4_decide_16 : decode cX4_decide 16 = .ok (.putfield 48, 3) := by decide +kernel
theorem dX4_decide_19 : decode cX4_decide 19 = .ok (.aload_n 0, 1) := by decide +kernel
theorem dX4_decide_20 : decode cX4_decide 20 = .ok (.getfield 51, 3) := by decide +kernel
theorem dX4_decide_23 : decode cX4_decide 23 = .ok (.iconst 1, 1) := by decide +kernel
theorem dX4_decide_24 : decode cX4_decide 24 = .ok (.if_icmp .ne 26, 3) := by decide +kernel
theorem dX4_decide_27 : decode cX4_decide 27 = .ok (.aload_n 0, 1) := by decide +kernel
theorem dX4_decide_28 : decode cX4_decide 28 = .ok (.aload_n 0, 1) := by decide +kernel
theorem dX4_decide_29 : decode cX4_decide 29 = .ok (.getfield 54, 3) := by decide +kernel
theorem dX4_decide_32 : decode cX4_decide 32 = .ok (.ifCond .eq 11, 3) := by decide +kernel
theorem dX4_decide_35 : decode cX4_decide 35 = .ok (.iload_n 2, 1) := by decide +kernel
theorem dX4_decide_36 : decode cX4_decide 36 = .ok (.ifCond .eq 7, 3) := by decide +kernel
theorem dX4_decide_39 : decode cX4_decide 39 = .ok (.iconst 1, 1) := by decide +kernel
theorem dX4_decide_40 : decode cX4_decide 40 = .ok (.goto 4, 3) := by decide +kernel
theorem dX4_decide_43 : decode cX4_decide 43 = .ok (.iconst 0, 1) := by decide +kernel
theorem dX4_decide_44 : decode cX4_decide 44 = .ok (.putfield 54, 3) := by decide +kernel
theorem dX4_decide_47 : decode cX4_decide 47 = .ok (.goto 39, 3) := by decide +kernel
theorem dX4_decide_50 : decode cX4_decide 50 = .ok (.aload_n 0, 1) := by decide +kernel
theorem dX4_decide_51 : decode cX4_decide 51 = .ok (.getfield 51, 3) := by decide +kernel
theorem dX4_decide_54 : decode cX4_decide 54 = .ok (.iconst 2, 1) := by decide +kernel
theorem dX4_decide_55 : decode cX4_decide 55 = .ok (.if_icmp .ne 26, 3) := by decide +kernel
theorem dX4_decide_58 : decode cX4_decide 58 = .ok (.aload_n 0, 1) := by decide +kernel
theorem dX4_decide_59 : decode cX4_decide 59 = .ok (.aload_n 0, 1) := by decide +kernel
theorem dX4_decide_60 : decode cX4_decide 60 = .ok (.getfield 54, 3) := by decide +kernel
theorem dX4_decide_63 : decode cX4_decide 63 = .ok (.ifCond .ne 7, 3) := by decide +kernel
theorem dX4_decide_66 : decode cX4_decide 66 = .ok (.iload_n 2, 1) := by decide +kernel
theorem dX4_decide_67 : decode cX4_decide 67 = .ok (.ifCond .eq 7, 3) := by decide +kernel
theorem dX4_decide_70 : decode cX4_decide 70 = .ok (.iconst 1, 1) := by decide +kernel
theorem dX4_decide_71 : decode cX4_decide 71 = .ok (.goto 4, 3) := by decide +kernel
theorem dX4_decide_74 : decode cX4_decide 74 = .ok (.iconst 0, 1) := by decide +kernel
theorem dX4_decide_75 : decode cX4_decide 75 = .ok (.putfield 54, 3) := by decide +kernel
theorem dX4_decide_78 : decode cX4_decide 78 = .ok (.goto 8, 3) := by decide +kernel
theorem dX4_decide_81 : decode cX4_decide 81 = .ok (.aload_n 0, 1) := by decide +kernel
theorem dX4_decide_82 : decode cX4_decide 82 = .ok (.iload_n 2, 1) := by decide +kernel
theorem dX4_decide_83 : decode cX4_decide 83 = .ok (.putfield 54, 3) := by decide +kernel
theorem dX4_decide_86 : decode cX4_decide 86 = .ok (.return_, 1) := by decide +kernel
theorem dX4_put_0 : decode cX4_put 0 = .ok (.aload_n 0, 1) := by decide +kernel
theorem dX4_put_1 : decode cX4_put 1 = .ok (.getfield 33, 3) := by decide +kernel
theorem dX4_put_4 : decode cX4_put 4 = .ok (.ifCond .eq 24, 3) := by decide +kernel
theorem dX4_put_7 : decode cX4_put 7 = .ok (.aload_n 0, 1) := by decide +kernel
theorem dX4_put_8 : decode cX4_put 8 = .ok (.getfield 30, 3) := by decide +kernel
theorem dX4_put_11 : decode cX4_put 11 = .ok (.sipush 1024, 3) := by decide +kernel
theorem dX4_put_14 : decode cX4_put 14 = .ok (.if_icmp .ge 14, 3) := by decide +kernel
theorem dX4_put_17 : decode cX4_put 17 = .ok (.aload_n 0, 1) := by decide +kernel
theorem dX4_put_18 : decode cX4_put 18 = .ok (.getfield 15, 3) := by decide +kernel
theorem dX4_put_21 : decode cX4_put 21 = .ok (.aload_n 0, 1) := by decide +kernel
theorem dX4_put_22 : decode cX4_put 22 = .ok (.getfield 30, 3) := by decide +kernel
theorem dX4_put_25 : decode cX4_put 25 = .ok (.iload_n 1, 1) := by decide +kernel
theorem dX4_put_26 : decode cX4_put 26 = .ok (.i2b, 1) := by decide +kernel
theorem dX4_put_27 : decode cX4_put 27 = .ok (.bastore, 1) := by decide +kernel
theorem dX4_put_28 : decode cX4_put 28 = .ok (.aload_n 0, 1) := by decide +kernel
theorem dX4_put_29 : decode cX4_put 29 = .ok (.dup, 1) := by decide +kernel
theorem dX4_put_30 : decode cX4_put 30 = .ok (.getfield 30, 3) := by decide +kernel
theorem dX4_put_33 : decode cX4_put 33 = .ok (.iconst 1, 1) := by decide +kernel
theorem dX4_put_34 : decode cX4_put 34 = .ok (.iadd, 1) := by decide +kernel
theorem dX4_put_35 : decode cX4_put 35 = .ok (.putfield 30, 3) := by decide +kernel
theorem dX4_put_38 : decode cX4_put 38 = .ok (.return_, 1) := by decide +kernel
theorem dX4_putNumber_0 : decode cX4_putNumber 0 = .ok (.iload_n 1, 1) := by decide +kernel
theorem dX4_putNumber_1 : decode cX4_putNumber 1 = .ok (.ifCond .ge 9, 3) := by decide +kernel
theorem dX4_putNumber_4 : decode cX4_putNumber 4 = .ok (.aload_n 0, 1) := by decide +kernel
theorem dX4_putNumber_5 : decode cX4_putNumber 5 = .ok (.bipush 45, 2) := by decide +kernel
theorem dX4_putNumber_7 : decode cX4_putNumber 7 = .ok (.invokevirtual 68, 3) := by decide +kernel
theorem dX4_putNumber_10 : decode cX4_putNumber 10 = .ok (.iload_n 1, 1) := by decide +kernel
theorem dX4_putNumber_11 : decode cX4_putNumber 11 = .ok (.invokestatic 90, 3) := by decide +kernel
theorem dX4_putNumber_14 : decode cX4_putNumber 14 = .ok (.istore_n 2, 1) := by decide +kernel
theorem dX4_putNumber_15 : decode cX4_putNumber 15 = .ok (.ldc 94, 2) := by decide +kernel
theorem dX4_putNumber_17 : decode cX4_putNumber 17 = .ok (.istore_n 3, 1) := by decide +kernel
theorem dX4_putNumber_18 : decode cX4_putNumber 18 = .ok (.iload_n 3, 1) := by decide +kernel
theorem dX4_putNumber_19 : decode cX4_putNumber 19 = .ok (.ifCond .le 34, 3) := by decide +kernel
theorem dX4_putNumber_22 : decode cX4_putNumber 22 = .ok (.iload_n 2, 1) := by decide +kernel
theorem dX4_putNumber_23 : decode cX4_putNumber 23 = .ok (.iload_n 3, 1) := by decide +kernel
theorem dX4_putNumber_24 : decode cX4_putNumber 24 = .ok (.if_icmp .ge 8, 3) := by decide +kernel
theorem dX4_putNumber_27 : decode cX4_putNumber 27 = .ok (.iload_n 3, 1) := by decide +kernel
theorem dX4_putNumber_28 : decode cX4_putNumber 28 = .ok (.iconst 1, 1) := by decide +kernel
theorem dX4_putNumber_29 : decode cX4_putNumber 29 = .ok (.if_icmp .ne 16, 3) := by decide +kernel
theorem dX4_putNumber_32 : decode cX4_putNumber 32 = .ok (.aload_n 0, 1) := by decide +kernel
theorem dX4_putNumber_33 : decode cX4_putNumber 33 = .ok (.bipush 48, 2) := by decide +kernel
theorem dX4_putNumber_35 : decode cX4_putNumber 35 = .ok (.iload_n 2, 1) := by decide +kernel
theorem dX4_putNumber_36 : decode cX4_putNumber 36 = .ok (.iload_n 3, 1) := by decide +kernel
theorem dX4_putNumber_37 : decode cX4_putNumber 37 = .ok (.idiv, 1) := by decide +kernel
theorem dX4_putNumber_38 : decode cX4_putNumber 38 = .ok (.bipush 10, 2) := by decide +kernel
theorem dX4_putNumber_40 : decode cX4_putNumber 40 = .ok (.irem, 1) := by decide +kernel
theorem dX4_putNumber_41 : decode cX4_putNumber 41 = .ok (.iadd, 1) := by decide +kernel
theorem dX4_putNumber_42 : decode cX4_putNumber 42 = .ok (.invokevirtual 68, 3) := by decide +kernel
theorem dX4_putNumber_45 : decode cX4_putNumber 45 = .ok (.iload_n 3, 1) := by decide +kernel
theorem dX4_putNumber_46 : decode cX4_putNumber 46 = .ok (.bipush 10, 2) := by decide +kernel
theorem dX4_putNumber_48 : decode cX4_putNumber 48 = .ok (.idiv, 1) := by decide +kernel
theorem dX4_putNumber_49 : decode cX4_putNumber 49 = .ok (.istore_n 3, 1) := by decide +kernel
theorem dX4_putNumber_50 : decode cX4_putNumber 50 = .ok (.goto (-32), 3) := by decide +kernel
theorem dX4_putNumber_53 : decode cX4_putNumber 53 = .ok (.return_, 1) := by decide +kernel
theorem dX5_init_0 : decode cX5_init 0 = .ok (.aload_n 0, 1) := by decide +kernel
theorem dX5_init_1 : decode cX5_init 1 = .ok (.invokespecial 1, 3) := by decide +kernel
theorem dX5_init_4 : decode cX5_init 4 = .ok (.aload_n 0, 1) := by decide +kernel
theorem dX5_init_5 : decode cX5_init 5 = .ok (.iconst 0, 1) := by decide +kernel
theorem dX5_init_6 : decode cX5_init 6 = .ok (.putfield 7, 3) := by decide +kernel
theorem dX5_init_9 : decode cX5_init 9 = .ok (.aload_n 0, 1) := by decide +kernel
theorem dX5_init_10 : decode cX5_init 10 = .ok (.iconst 0, 1) := by decide +kernel
theorem dX5_init_11 : decode cX5_init 11 = .ok (.putfield 13, 3) := by decide +kernel
theorem dX5_init_14 : decode cX5_init 14 = .ok (.aload_n 0, 1) := by decide +kernel
theorem dX5_init_15 : decode cX5_init 15 = .ok (.iload_n 1, 1) := by decide +kernel
theorem dX5_init_16 : decode cX5_init 16 = .ok (.putfield 17, 3) := by decide +kernel
theorem dX5_init_19 : decode cX5_init 19 = .ok (.aload_n 0, 1) := by decide +kernel
theorem dX5_init_20 : decode cX5_init 20 = .ok (.iload_n 2, 1) := by decide +kernel
theorem dX5_init_21 : decode cX5_init 21 = .ok (.putfield 20, 3) := by decide +kernel
theorem dX5_init_24 : decode cX5_init 24 = .ok (.return_, 1) := by decide +kernel
theorem dX6_init_0 : decode cX6_init 0 = .ok (.aload_n 0, 1) := by decide +kernel
theorem dX6_init_1 : decode cX6_init 1 = .ok (.invokespecial 3, 3) := by decide +kernel
theorem dX6_init_4 : decode cX6_init 4 = .ok (.aload_n 0, 1) := by decide +kernel
theorem dX6_init_5 : decode cX6_init 5 = .ok (.sipush 400, 3) := by decide +kernel
theorem dX6_init_8 : decode cX6_init 8 = .ok (.newarray .byte, 2) := by decide +kernel
theorem dX6_init_10 : decode cX6_init 10 = .ok (.putfield 11, 3) := by decide +kernel
theorem dX6_init_13 : decode cX6_init 13 = .ok (.aload_n 0, 1) := by decide +kernel
theorem dX6_init_14 : decode cX6_init 14 = .ok (.iconst 0, 1) := by decide +kernel
theorem dX6_init_15 : decode cX6_init 15 = .ok (.putfield 15, 3) := by decide +kernel
theorem dX6_init_18 : decode cX6_init 18 = .ok (.aload_n 0, 1) := by decide +kernel
theorem dX6_init_19 : decode cX6_init 19 = .ok (.iconst 0, 1) := by decide +kernel
theorem dX6_init_20 : decode cX6_init 20 = .ok (.putfield 19, 3) := by decide +kernel
theorem dX6_init_23 : decode cX6_init 23 = .ok (.aload_n 0, 1) := by decide +kernel
theorem dX6_init_24 : decode cX6_init 24 = .ok (.iconst 0, 1) := by decide +kernel
theorem dX6_init_25 : decode cX6_init 25 = .ok (.putfield 22, 3) := by decide +kernel
theorem dX6_init_28 : decode cX6_init 28 = .ok (.aload_n 0, 1) := by decide +kernel
theorem dX6_init_29 : decode cX6_init 29 = .ok (.sipush 1024, 3) := by decide +kernel
theorem dX6_init_32 : decode cX6_init 32 = .ok (.newarray .int, 2) := by decide +kernel
theorem dX6_init_34 : decode cX6_init 34 = .ok (.putfield 25, 3) := by decide +kernel
theorem dX6_init_37 : decode cX6_init 37 = .ok (.aload_n 0, 1) := by decide +kernel
theorem dX6_init_38 : decode cX6_init 38 = .ok (.iconst 5, 1) := by decide +kernel
theorem dX6_init_39 : decode cX6_init 39 = .ok (.newarray .int, 2) := by decide +kernel
theorem dX6_init_41 : decode cX6_init 41 = .ok (.putfield 29, 3) := by decide +kernel
theorem dX6_init_44 : decode cX6_init 44 = .ok (.aload_n 0, 1) := by decide +kernel
theorem dX6_init_45 : decode cX6_init 45 = .ok (.iconst 0, 1) := by decide +kernel
theorem dX6_init_46 : decode cX6_init 46 = .ok (.putfield 32, 3) := by decide +kernel
theorem dX6_init_49 : decode cX6_init 49 = .ok (.aload_n 0, 1) := by decide +kernel
theorem dX6_init_50 : decode cX6_init 50 = .ok (.iconst 0, 1) := by decide +kernel
theorem dX6_init_51 : decode cX6_init 51 = .ok (.putfield 35, 3) := by decide +kernel
theorem dX6_init_54 : decode cX6_init 54 = .ok (.aload_n 0, 1) := by decide +kernel
theorem dX6_init_55 : decode cX6_init 55 = .ok (.iconst 0, 1) := by decide +kernel
theorem dX6_init_56 : decode cX6_init 56 = .ok (.putfield 39, 3) := by decide +kernel
theorem dX6_init_59 : decode cX6_init 59 = .ok (.aload_n 0, 1) := by decide +kernel
theorem dX6_init_60 : decode cX6_init 60 = .ok (.iconst 0, 1) := by decide +kernel
theorem dX6_init_61 : decode cX6_init 61 = .ok (.putfield 42, 3) := by decide +kernel
theorem dX6_init_64 : decode cX6_init 64 = .ok (.aload_n 0, 1) := by decide +kernel
theorem dX6_init_65 : decode cX6_init 65 = .ok (.iconst 0, 1) := by decide +kernel
theorem dX6_init_66 : decode cX6_init 66 = .ok (.putfield 45, 3) := by decide +kernel
theorem dX6_init_69 : decode cX6_init 69 = .ok (.aload_n 0, 1) := by decide +kernel
theorem dX6_init_70 : decode cX6_init 70 = .ok (.iconst 0, 1) := by decide +kernel
theorem dX6_init_71 : decode cX6_init 71 = .ok (.putfield 48, 3) := by decide +kernel
theorem dX6_init_74 : decode cX6_init 74 = .ok (.aload_n 0, 1) := by decide +kernel
theorem dX6_init_75 : decode cX6_init 75 = .ok (.iconst 0, 1) := by decide +kernel
theorem dX6_init_76 : decode cX6_init 76 = .ok (.putfield 51, 3) := by decide +kernel
theorem dX6_init_79 : decode cX6_init 79 = .ok (.aload_n 0, 1) := by decide +kernel
theorem dX6_init_80 : decode cX6_init 80 = .ok (.iconst 0, 1) := by decide +kernel
theorem dX6_init_81 : decode cX6_init 81 = .ok (.putfield 54, 3) := by decide +kernel
theorem dX6_init_84 : decode cX6_init 84 = .ok (.aload_n 0, 1) := by decide +kernel
theorem dX6_init_85 : decode cX6_init 85 = .ok (.iconst 0, 1) := by decide +kernel
theorem dX6_init_86 : decode cX6_init 86 = .ok (.putfield 57, 3) := by decide +kernel
theorem dX6_init_89 : decode cX6_init 89 = .ok (.aload_n 0, 1) := by decide +kernel
theorem dX6_init_90 : decode cX6_init 90 = .ok (.iconst 0, 1) := by decide +kernel
theorem dX6_init_91 : decode cX6_init 91 = .ok (.putfield 60, 3) := by decide +kernel
theorem dX6_init_94 : decode cX6_init 94 = .ok (.aload_n 0, 1) := by decide +kernel
theorem dX6_init_95 : decode cX6_init 95 = .ok (.iconst 0, 1) := by decide +kernel
theorem dX6_init_96 : decode cX6_init 96 = .ok (.putfield 63, 3) := by decide +kernel
theorem dX6_init_99 : decode cX6_init 99 = .ok (.aload_n 0, 1) := by decide +kernel
theorem dX6_init_100 : decode cX6_init 100 = .ok (.iconst 0, 1) := by decide +kernel
theorem dX6_init_101 : decode cX6_init 101 = .ok (.putfield 66, 3) := by decide +kernel
theorem dX6_init_104 : decode cX6_init 104 = .ok (.aload_n 0, 1) := by decide +kernel
theorem dX6_init_105 : decode cX6_init 105 = .ok (.iconst 0, 1) := by decide +kernel
theorem dX6_init_106 : decode cX6_init 106 = .ok (.putfield 69, 3) := by decide +kernel
theorem dX6_init_109 : decode cX6_init 109 = .ok (.return_, 1) := by decide +kernel
theorem dX6_hasRoomFor_0 : decode cX6_hasRoomFor 0 = .ok (.aload_n 0, 1) := by decide +kernel
theorem dX6_hasRoomFor_1 : decode cX6_hasRoomFor 1 = .ok (.getfield 15, 3) := by decide +kernel
theorem dX6_hasRoomFor_4 : decode cX6_hasRoomFor 4 = .ok (.iload_n 1, 1) := by decide +kernel
theorem dX6_hasRoomFor_5 : decode cX6_hasRoomFor 5 = .ok (.iadd, 1) := by decide +kernel
theorem dX6_hasRoomFor_6 : decode cX6_hasRoomFor 6 = .ok (.sipush 400, 3) := by decide +kernel
theorem dX6_hasRoomFor_9 : decode cX6_hasRoomFor 9 = .ok (.if_icmp .gt 7, 3) := by decide +kernel
theorem dX6_hasRoomFor_12 : decode cX6_hasRoomFor 12 = .ok (.iconst 1, 1) := by decide +kernel
theorem dX6_hasRoomFor_13 : decode cX6_hasRoomFor 13 = .ok (.goto 4, 3) := by decide +kernel
theorem dX6_hasRoomFor_16 : decode cX6_hasRoomFor 16 = .ok (.iconst 0, 1) := by decide +kernel
theorem dX6_hasRoomFor_17 : decode cX6_hasRoomFor 17 = .ok (.ireturn, 1) := by decide +kernel
theorem dX6_holds_0 : decode cX6_holds 0 = .ok (.iload_n 1, 1) := by decide +kernel
theorem dX6_holds_1 : decode cX6_holds 1 = .ok (.iconst 0, 1) := by decide +kernel
theorem dX6_holds_2 : decode cX6_holds 2 = .ok (.aload_n 0, 1) := by decide +kernel
theorem dX6_holds_3 : decode cX6_holds 3 = .ok (.getfield 15, 3) := by decide +kernel
theorem dX6_holds_6 : decode cX6_holds 6 = .ok (.invokestatic 72, 3) := by decide +kernel
theorem dX6_holds_9 : decode cX6_holds 9 = .ok (.ireturn, 1) := by decide +kernel
theorem dX6_append_0 : decode cX6_append 0 = .ok (.bipush 24, 2) := by decide +kernel
theorem dX6_append_2 : decode cX6_append 2 = .ok (.istore_n 2, 1) := by decide +kernel
theorem dX6_append_3 : decode cX6_append 3 = .ok (.iload_n 2, 1) := by decide +kernel
theorem dX6_append_4 : decode cX6_append 4 = .ok (.ifCond .lt 42, 3) := by decide +kernel
theorem dX6_append_7 : decode cX6_append 7 = .ok (.aload_n 0, 1) := by decide +kernel
theorem dX6_append_8 : decode cX6_append 8 = .ok (.getfield 15, 3) := by decide +kernel
theorem dX6_append_11 : decode cX6_append 11 = .ok (.sipush 400, 3) := by decide +kernel
theorem dX6_append_14 : decode cX6_append 14 = .ok (.if_icmp .ge 32, 3) := by decide +kernel
theorem dX6_append_17 : decode cX6_append 17 = .ok (.aload_n 0, 1) := by decide +kernel
theorem dX6_append_18 : decode cX6_append 18 = .ok (.getfield 11, 3) := by decide +kernel
theorem dX6_append_21 : decode cX6_append 21 = .ok (.aload_n 0, 1) := by decide +kernel
theorem dX6_append_22 : decode cX6_append 22 = .ok (.getfield 15, 3) := by decide +kernel
theorem dX6_append_25 : decode cX6_append 25 = .ok (.iload_n 1, 1) := by decide +kernel
theorem dX6_append_26 : decode cX6_append 26 = .ok (.iload_n 2, 1) := by decide +kernel
theorem dX6_append_27 : decode cX6_append 27 = .ok (.ishr, 1) := by decide +kernel
theorem dX6_append_28 : decode cX6_append 28 = .ok (.i2b, 1) := by decide +kernel
theorem dX6_append_29 : decode cX6_append 29 = .ok (.bastore, 1) := by decide +kernel
theorem dX6_append_30 : decode cX6_append 30 = .ok (.aload_n 0, 1) := by decide +kernel
theorem dX6_append_31 : decode cX6_append 31 = .ok (.dup, 1) := by decide +kernel
theorem dX6_append_32 : decode cX6_append 32 = .ok (.getfield 15, 3) := by decide +kernel
theorem dX6_append_35 : decode cX6_append 35 = .ok (.iconst 1, 1) := by decide +kernel
theorem dX6_append_36 : decode cX6_append 36 = .ok (.iadd, 1) := by decide +kernel
theorem dX6_append_37 : decode cX6_append 37 = .ok (.putfield 15, 3) := by decide +kernel
theorem dX6_append_40 : decode cX6_append 40 = .ok (.iinc 2 (-8), 3) := by decide +kernel
theorem dX6_append_43 : decode cX6_append 43 = .ok (.goto (-40), 3) := by decide +kernel
theorem dX6_append_46 : decode cX6_append 46 = .ok (.return_, 1) := by decide +kernel
theorem dX6_read_0 : decode cX6_read 0 = .ok (.aload_n 0, 1) := by decide +kernel
theorem dX6_read_1 : decode cX6_read 1 = .ok (.iload_n 1, 1) := by decide +kernel
theorem dX6_read_2 : decode cX6_read 2 = .ok (.iload_n 2, 1) := by decide +kernel
theorem dX6_read_3 : decode cX6_read 3 = .ok (.invokevirtual 76, 3) := by decide +kernel
theorem dX6_read_6 : decode cX6_read 6 = .ok (.iconst 0, 1) := by decide +kernel
theorem dX6_read_7 : decode cX6_read 7 = .ok (.istore_n 3, 1) := by decide +kernel
theorem dX6_read_8 : decode cX6_read 8 = .ok (.iload_n 3, 1) := by decide +kernel
theorem dX6_read_9 : decode cX6_read 9 = .ok (.iload_n 1, 1) := by decide +kernel
theorem dX6_read_10 : decode cX6_read 10 = .ok (.if_icmp .ge 89, 3) := by decide +kernel
theorem dX6_read_13 : decode cX6_read 13 = .ok (.aload_n 0, 1) := by decide +kernel
theorem dX6_read_14 : decode cX6_read 14 = .ok (.getfield 42, 3) := by decide +kernel
theorem dX6_read_17 : decode cX6_read 17 = .ok (.aload_n 0, 1) := by decide +kernel
theorem dX6_read_18 : decode cX6_read 18 = .ok (.getfield 39, 3) := by decide +kernel
theorem dX6_read_21 : decode cX6_read 21 = .ok (.if_icmp .ge 78, 3) := by decide +kernel
theorem dX6_read_24 : decode cX6_read 24 = .ok (.aload_n 0, 1) := by decide +kernel
theorem dX6_read_25 : decode cX6_read 25 = .ok (.getfield 19, 3) := by decide +kernel
theorem dX6_read_28 : decode cX6_read 28 = .ok (.ifCond .ne 71, 3) := by decide +kernel
theorem dX6_read_31 : decode cX6_read 31 = .ok (.aload_n 0, 1) := by decide +kernel
theorem dX6_read_32 : decode cX6_read 32 = .ok (.aload_n 0, 1) := by decide +kernel
theorem dX6_read_33 : decode cX6_read 33 = .ok (.getfield 42, 3) := by decide +kernel
theorem dX6_read_36 : decode cX6_read 36 = .ok (.invokevirtual 80, 3) := by decide +kernel
theorem dX6_read_39 : decode cX6_read 39 = .ok (.istore 4, 2) := by decide +kernel
theorem dX6_read_41 : decode cX6_read 41 = .ok (.aload_n 0, 1) := by decide +kernel
theorem dX6_read_42 : decode cX6_read 42 = .ok (.getfield 45, 3) := by decide +kernel
theorem dX6_read_45 : decode cX6_read 45 = .ok (.ifCond .ne 12, 3) := by decide +kernel
theorem dX6_read_48 : decode cX6_read 48 = .ok (.aload_n 0, 1) := by decide +kernel
theorem dX6_read_49 : decode cX6_read 49 = .ok (.iload 4, 2) := by decide +kernel
theorem dX6_read_51 : decode cX6_read 51 = .ok (.invokevirtual 84, 3) := by decide +kernel
theorem dX6_read_54 : decode cX6_read 54 = .ok (.goto 39, 3) := by decide +kernel
theorem dX6_read_57 : decode cX6_read 57 = .ok (.iload 4, 2) := by decide +kernel
theorem dX6_read_59 : decode cX6_read 59 = .ok (.invokestatic 88, 3) := by decide +kernel
theorem dX6_read_62 : decode cX6_read 62 = .ok (.ifCond .eq 10, 3) := by decide +kernel
theorem dX6_read_65 : decode cX6_read 65 = .ok (.aload_n 0, 1) := by decide +kernel
theorem dX6_read_66 : decode cX6_read 66 = .ok (.invokevirtual 92, 3) := by decide +kernel
theorem dX6_read_69 : decode cX6_read 69 = .ok (.goto 24, 3) := by decide +kernel
theorem dX6_read_72 : decode cX6_read 72 = .ok (.iload 4, 2) := by decide +kernel
theorem dX6_read_74 : decode cX6_read 74 = .ok (.invokestatic 95, 3) := by decide +kernel
theorem dX6_read_77 : decode cX6_read 77 = .ok (.ifCond .eq 10, 3) := by decide +kernel
theorem dX6_read_80 : decode cX6_read 80 = .ok (.aload_n 0, 1) := by decide +kernel
theorem dX6_read_81 : decode cX6_read 81 = .ok (.invokevirtual 98, 3) := by decide +kernel
theorem dX6_read_84 : decode cX6_read 84 = .ok (.goto 9, 3) := by decide +kernel
theorem dX6_read_87 : decode cX6_read 87 = .ok (.aload_n 0, 1) := by decide +kernel
theorem dX6_read_88 : decode cX6_read 88 = .ok (.iload 4, 2) := by decide +kernel
theorem dX6_read_90 : decode cX6_read 90 = .ok (.invokevirtual 101, 3) := by decide +kernel
theorem dX6_read_93 : decode cX6_read 93 = .ok (.iinc 3 1, 3) := by decide +kernel
theorem dX6_read_96 : decode cX6_read 96 = .ok (.goto (-88), 3) := by decide +kernel
theorem dX6_read_99 : decode cX6_read 99 = .ok (.aload_n 0, 1) := by decide +kernel
theorem dX6_read_100 : decode cX6_read 100 = .ok (.getfield 19, 3) := by decide +kernel
theorem dX6_read_103 : decode cX6_read 103 = .ok (.ifCond .ne 7, 3) := by decide +kernel
theorem dX6_read_106 : decode cX6_read 106 = .ok (.aload_n 0, 1) := by decide +kernel
theorem dX6_read_107 : decode cX6_read 107 = .ok (.invokevirtual 104, 3) := by decide +kernel
theorem dX6_read_110 : decode cX6_read 110 = .ok (.aload_n 0, 1) := by decide +kernel
theorem dX6_read_111 : decode cX6_read 111 = .ok (.iconst 0, 1) := by decide +kernel
theorem dX6_read_112 : decode cX6_read 112 = .ok (.putfield 15, 3) := by decide +kernel
theorem dX6_read_115 : decode cX6_read 115 = .ok (.aload_n 0, 1) := by decide +kernel
theorem dX6_read_116 : decode cX6_read 116 = .ok (.getfield 19, 3) := by decide +kernel
theorem dX6_read_119 : decode cX6_read 119 = .ok (.ifCond .ne 32, 3) := by decide +kernel
theorem dX6_read_122 : decode cX6_read 122 = .ok (.new 107, 3) := by decide +kernel
theorem dX6_read_125 : decode cX6_read 125 = .ok (.dup, 1) := by decide +kernel
theorem dX6_read_126 : decode cX6_read 126 = .ok (.aload_n 0, 1) := by decide +kernel
theorem dX6_read_127 : decode cX6_read 127 = .ok (.getfield 25, 3) := by decide +kernel
theorem dX6_read_130 : decode cX6_read 130 = .ok (.aload_n 0, 1) := by decide +kernel
theorem dX6_read_131 : decode cX6_read 131 = .ok (.getfield 32, 3) := by decide +kernel
theorem dX6_read_134 : decode cX6_read 134 = .ok (.invokestatic 109, 3) := by decide +kernel
theorem dX6_read_137 : decode cX6_read 137 = .ok (.aload_n 0, 1) := by decide +kernel
theorem dX6_read_138 : decode cX6_read 138 = .ok (.getfield 69, 3) := by decide +kernel
theorem dX6_read_141 : decode cX6_read 141 = .ok (.aload_n 0, 1) := by decide +kernel
theorem dX6_read_142 : decode cX6_read 142 = .ok (.getfield 63, 3) := by decide +kernel
theorem dX6_read_145 : decode cX6_read 145 = .ok (.invokespecial 115, 3) := by decide +kernel
theorem dX6_read_148 : decode cX6_read 148 = .ok (.goto 4, 3) := by decide +kernel
theorem dX6_read_151 : decode cX6_read 151 = .ok (.aconst_null, 1) := by decide +kernel
theorem dX6_read_152 : decode cX6_read 152 = .ok (.areturn, 1) := by decide +kernel
theorem dX6_begin_0 : decode cX6_begin 0 = .ok (.aload_n 0, 1) := by decide +kernel
theorem dX6_begin_1 : decode cX6_begin 1 = .ok (.iload_n 2, 1) := by decide +kernel
theorem dX6_begin_2 : decode cX6_begin 2 = .ok (.putfield 35, 3) := by decide +kernel
theorem dX6_begin_5 : decode cX6_begin 5 = .ok (.aload_n 0, 1) := by decide +kernel
theorem dX6_begin_6 : decode cX6_begin 6 = .ok (.iload_n 1, 1) := by decide +kernel
theorem dX6_begin_7 : decode cX6_begin 7 = .ok (.putfield 39, 3) := by decide +kernel
theorem dX6_begin_10 : decode cX6_begin 10 = .ok (.aload_n 0, 1) := by decide +kernel
theorem dX6_begin_11 : decode cX6_begin 11 = .ok (.iconst 0, 1) := by decide +kernel
theorem dX6_begin_12 : decode cX6_begin 12 = .ok (.putfield 42, 3) := by decide +kernel
theorem dX6_begin_15 : decode cX6_begin 15 = .ok (.aload_n 0, 1) := by decide +kernel
theorem dX6_begin_16 : decode cX6_begin 16 = .ok (.iconst 0, 1) := by decide +kernel
theorem dX6_begin_17 : decode cX6_begin 17 = .ok (.putfield 19, 3) := by decide +kernel
theorem dX6_begin_20 : decode cX6_begin 20 = .ok (.aload_n 0, 1) := by decide +kernel
theorem dX6_begin_21 : decode cX6_begin 21 = .ok (.iconst 0, 1) := by decide +kernel
theorem dX6_begin_22 : decode cX6_begin 22 = .ok (.putfield 22, 3) := by decide +kernel
theorem dX6_begin_25 : decode cX6_begin 25 = .ok (.aload_n 0, 1) := by decide +kernel
theorem dX6_begin_26 : decode cX6_begin 26 = .ok (.iconst 0, 1) := by decide +kernel
theorem dX6_begin_27 : decode cX6_begin 27 = .ok (.putfield 32, 3) := by decide +kernel
theorem dX6_begin_30 : decode cX6_begin 30 = .ok (.aload_n 0, 1) := by decide +kernel
theorem dX6_begin_31 : decode cX6_begin 31 = .ok (.iload_n 2, 1) := by decide +kernel
theorem dX6_begin_32 : decode cX6_begin 32 = .ok (.ifCond .eq 7, 3) := by decide +kernel
theorem dX6_begin_35 : decode cX6_begin 35 = .ok (.iconst 2, 1) := by decide +kernel
theorem dX6_begin_36 : decode cX6_begin 36 = .ok (.goto 4, 3) := by decide +kernel
theorem dX6_begin_39 : decode cX6_begin 39 = .ok (.iconst 0, 1) := by decide +kernel
theorem dX6_begin_40 : decode cX6_begin 40 = .ok (.putfield 45, 3) := by decide +kernel
theorem dX6_begin_43 : decode cX6_begin 43 = .ok (.aload_n 0, 1) := by decide +kernel
theorem dX6_begin_44 : decode cX6_begin 44 = .ok (.iconst 0, 1) := by decide +kernel
theorem dX6_begin_45 : decode cX6_begin 45 = .ok (.putfield 48, 3) := by decide +kernel
theorem dX6_begin_48 : decode cX6_begin 48 = .ok (.aload_n 0, 1) := by decide +kernel
theorem dX6_begin_49 : decode cX6_begin 49 = .ok (.iconst 0, 1) := by decide +kernel
theorem dX6_begin_50 : decode cX6_begin 50 = .ok (.putfield 51, 3) := by decide +kernel
theorem dX6_begin_53 : decode cX6_begin 53 = .ok (.aload_n 0, 1) := by decide +kernel
theorem dX6_begin_54 : decode cX6_begin 54 = .ok (.iconst 0, 1) := by decide +kernel
theorem dX6_begin_55 : decode cX6_begin 55 = .ok (.putfield 57, 3) := by decide +kernel
theorem dX6_begin_58 : decode cX6_begin 58 = .ok (.aload_n 0, 1) := by decide +kernel
theorem dX6_begin_59 : decode cX6_begin 59 = .ok (.iconst 0, 1) := by decide +kernel
theorem dX6_begin_60 : decode cX6_begin 60 = .ok (.putfield 60, 3) := by decide +kernel
theorem dX6_begin_63 : decode cX6_begin 63 = .ok (.aload_n 0, 1) := by decide +kernel
theorem dX6_begin_64 : decode cX6_begin 64 = .ok (.iconst 0, 1) := by decide +kernel
theorem dX6_begin_65 : decode cX6_begin 65 = .ok (.putfield 63, 3) := by decide +kernel
theorem dX6_begin_68 : decode cX6_begin 68 = .ok (.aload_n 0, 1) := by decide +kernel
theorem dX6_begin_69 : decode cX6_begin 69 = .ok (.iconst 0, 1) := by decide +kernel
theorem dX6_begin_70 : decode cX6_begin 70 = .ok (.putfield 66, 3) := by decide +kernel
theorem dX6_begin_73 : decode cX6_begin 73 = .ok (.aload_n 0, 1) := by decide +kernel
theorem dX6_begin_74 : decode cX6_begin 74 = .ok (.iconst 0, 1) := by decide +kernel
theorem dX6_begin_75 : decode cX6_begin 75 = .ok (.putfield 69, 3) := by decide +kernel
theorem dX6_begin_78 : decode cX6_begin 78 = .ok (.return_, 1) := by decide +kernel
theorem dX6_finish_0 : decode cX6_finish 0 = .ok (.aload_n 0, 1) := by decide +kernel
theorem dX6_finish_1 : decode cX6_finish 1 = .ok (.getfield 35, 3) := by decide +kernel
theorem dX6_finish_4 : decode cX6_finish 4 = .ok (.ifCond .eq 28, 3) := by decide +kernel
theorem dX6_finish_7 : decode cX6_finish 7 = .ok (.aload_n 0, 1) := by decide +kernel
theorem dX6_finish_8 : decode cX6_finish 8 = .ok (.invokevirtual 118, 3) := by decide +kernel
theorem dX6_finish_11 : decode cX6_finish 11 = .ok (.aload_n 0, 1) := by decide +kernel
theorem dX6_finish_12 : decode cX6_finish 12 = .ok (.getfield 45, 3) := by decide +kernel
theorem dX6_finish_15 : decode cX6_finish 15 = .ok (.bipush 11, 2) := by decide +kernel
theorem dX6_finish_17 : decode cX6_finish 17 = .ok (.if_icmp .eq 45, 3) := by decide +kernel
theorem dX6_finish_20 : decode cX6_finish 20 = .ok (.aload_n 0, 1) := by decide +kernel
theorem dX6_finish_21 : decode cX6_finish 21 = .ok (.iconst 1, 1) := by decide +kernel
theorem dX6_finish_22 : decode cX6_finish 22 = .ok (.aload_n 0, 1) := by decide +kernel
theorem dX6_finish_23 : decode cX6_finish 23 = .ok (.getfield 39, 3) := by decide +kernel
theorem dX6_finish_26 : decode cX6_finish 26 = .ok (.invokevirtual 121, 3) := by decide +kernel
theorem dX6_finish_29 : decode cX6_finish 29 = .ok (.goto 33, 3) := by decide +kernel
theorem dX6_finish_32 : decode cX6_finish 32 = .ok (.aload_n 0, 1) := by decide +kernel
theorem dX6_finish_33 : decode cX6_finish 33 = .ok (.getfield 45, 3) := by decide +kernel
theorem dX6_finish_36 : decode cX6_finish 36 = .ok (.ifCond .ne 17, 3) := by decide +kernel
theorem dX6_finish_39 : decode cX6_finish 39 = .ok (.aload_n 0, 1) := by decide +kernel
theorem dX6_finish_40 : decode cX6_finish 40 = .ok (.getfield 57, 3) := by decide +kernel
theorem dX6_finish_43 : decode cX6_finish 43 = .ok (.ifCond .gt 10, 3) := by decide +kernel
theorem dX6_finish_46 : decode cX6_finish 46 = .ok (.aload_n 0, 1) := by decide +kernel
theorem dX6_finish_47 : decode cX6_finish 47 = .ok (.getfield 51, 3) := by decide +kernel
theorem dX6_finish_50 : decode cX6_finish 50 = .ok (.ifCond .ne 12, 3) := by decide +kernel
theorem dX6_finish_53 : decode cX6_finish 53 = .ok (.aload_n 0, 1) := by decide +kernel
theorem dX6_finish_54 : decode cX6_finish 54 = .ok (.iconst 1, 1) := by decide +kernel
theorem dX6_finish_55 : decode cX6_finish 55 = .ok (.aload_n 0, 1) := by decide +kernel
theorem dX6_finish_56 : decode cX6_finish 56 = .ok (.getfield 39, 3) := by decide +kernel
theorem dX6_finish_59 : decode cX6_finish 59 = .ok (.invokevirtual 121, 3) := by decide +kernel
theorem dX6_finish_62 : decode cX6_finish 62 = .ok (.return_, 1) := by decide +kernel
theorem dX6_fail_0 : decode cX6_fail 0 = .ok (.aload_n 0, 1) := by decide +kernel
theorem dX6_fail_1 : decode cX6_fail 1 = .ok (.iload_n 1, 1) := by decide +kernel
theorem dX6_fail_2 : decode cX6_fail 2 = .ok (.putfield 19, 3) := by decide +kernel
theorem dX6_fail_5 : decode cX6_fail 5 = .ok (.aload_n 0, 1) := by decide +kernel
theorem dX6_fail_6 : decode cX6_fail 6 = .ok (.iload_n 2, 1) := by decide +kernel
theorem dX6_fail_7 : decode cX6_fail 7 = .ok (.putfield 22, 3) := by decide +kernel
theorem dX6_fail_10 : decode cX6_fail 10 = .ok (.return_, 1) := by decide +kernel
theorem dX6_byteAt_0 : decode cX6_byteAt 0 = .ok (.iload_n 1, 1) := by decide +kernel
theorem dX6_byteAt_1 : decode cX6_byteAt 1 = .ok (.ifCond .lt 27, 3) := by decide +kernel
theorem dX6_byteAt_4 : decode cX6_byteAt 4 = .ok (.iload_n 1, 1) := by decide +kernel
theorem dX6_byteAt_5 : decode cX6_byteAt 5 = .ok (.aload_n 0, 1) := by decide +kernel
theorem dX6_byteAt_6 : decode cX6_byteAt 6 = .ok (.getfield 39, 3) := by decide +kernel
theorem dX6_byteAt_9 : decode cX6_byteAt 9 = .ok (.if_icmp .ge 19, 3) := by decide +kernel
theorem dX6_byteAt_12 : decode cX6_byteAt 12 = .ok (.iload_n 1, 1) := by decide +kernel
theorem dX6_byteAt_13 : decode cX6_byteAt 13 = .ok (.sipush 400, 3) := by decide +kernel
theorem dX6_byteAt_16 : decode cX6_byteAt 16 = .ok (.if_icmp .ge 12, 3) := by decide +kernel
theorem dX6_byteAt_19 : decode cX6_byteAt 19 = .ok (.aload_n 0, 1) := by decide +kernel
theorem dX6_byteAt_20 : decode cX6_byteAt 20 = .ok (.getfield 11, 3) := by decide +kernel
theorem dX6_byteAt_23 : decode cX6_byteAt 23 = .ok (.iload_n 1, 1) := by decide +kernel
theorem dX6_byteAt_24 : decode cX6_byteAt 24 = .ok (.baload, 1) := by decide +kernel
theorem dX6_byteAt_25 : decode cX6_byteAt 25 = .ok (.goto 4, 3) := by decide +kernel
theorem dX6_byteAt_28 : decode cX6_byteAt 28 = .ok (.iconst 0, 1) := by decide +kernel
theorem dX6_byteAt_29 : decode cX6_byteAt 29 = .ok (.ireturn, 1) := by decide +kernel
theorem dX6_emit_0 : decode cX6_emit 0 = .ok (.aload_n 0, 1) := by decide +kernel
theorem dX6_emit_1 : decode cX6_emit 1 = .ok (.getfield 32, 3) := by decide +kernel
theorem dX6_emit_4 : decode cX6_emit 4 = .ok (.istore_n 3, 1) := by decide +kernel
theorem dX6_emit_5 : decode cX6_emit 5 = .ok (.iload_n 3, 1) := by decide +kernel
theorem dX6_emit_6 : decode cX6_emit 6 = .ok (.sipush 1024, 3) := by decide +kernel
theorem dX6_emit_9 : decode cX6_emit 9 = .ok (.if_icmp .ge 25, 3) := by decide +kernel
theorem dX6_emit_12 : decode cX6_emit 12 = .ok (.aload_n 0, 1) := by decide +kernel
theorem dX6_emit_13 : decode cX6_emit 13 = .ok (.getfield 25, 3) := by decide +kernel
theorem dX6_emit_16 : decode cX6_emit 16 = .ok (.iload_n 3, 1) := by decide +kernel
theorem dX6_emit_17 : decode cX6_emit 17 = .ok (.iload_n 1, 1) := by decide +kernel
theorem dX6_emit_18 : decode cX6_emit 18 = .ok (.bipush 16, 2) := by decide +kernel
theorem dX6_emit_20 : decode cX6_emit 20 = .ok (.ishl, 1) := by decide +kernel
theorem dX6_emit_21 : decode cX6_emit 21 = .ok (.iload_n 2, 1) := by decide +kernel
theorem dX6_emit_22 : decode cX6_emit 22 = .ok (.ior, 1) := by decide +kernel
theorem dX6_emit_23 : decode cX6_emit 23 = .ok (.iastore, 1) := by decide +kernel
theorem dX6_emit_24 : decode cX6_emit 24 = .ok (.aload_n 0, 1) := by decide +kernel
theorem dX6_emit_25 : decode cX6_emit 25 = .ok (.dup, 1) := by decide +kernel
theorem dX6_emit_26 : decode cX6_emit 26 = .ok (.getfield 32, 3) := by decide +kernel
theorem dX6_emit_29 : decode cX6_emit 29 = .ok (.iconst 1, 1) := by decide +kernel
theorem dX6_emit_30 : decode cX6_emit 30 = .ok (.iadd, 1) := by decide +kernel
theorem dX6_emit_31 : decode cX6_emit 31 = .ok (.putfield 32, 3) := by decide +kernel
theorem dX6_emit_34 : decode cX6_emit 34 = .ok (.iload_n 3, 1) := by decide +kernel
theorem dX6_emit_35 : decode cX6_emit 35 = .ok (.ireturn, 1) := by decide +kernel
theorem dX6_readPlain_0 : decode cX6_readPlain 0 = .ok (.iload_n 1, 1) := by decide +kernel
theorem dX6_readPlain_1 : decode cX6_readPlain 1 = .ok (.bipush 32, 2) := by decide +kernel
theorem dX6_readPlain_3 : decode cX6_readPlain 3 = .ok (.if_icmp .lt 9, 3) := by decide +kernel
theorem dX6_readPlain_6 : decode cX6_readPlain 6 = .ok (.iload_n 1, 1) := by decide +kernel
theorem dX6_readPlain_7 : decode cX6_readPlain 7 = .ok (.bipush 126, 2) := by decide +kernel
theorem dX6_readPlain_9 : decode cX6_readPlain 9 = .ok (.if_icmp .le 15, 3) := by decide +kernel
theorem dX6_readPlain_12 : decode cX6_readPlain 12 = .ok (.aload_n 0, 1) := by decide +kernel
theorem dX6_readPlain_13 : decode cX6_readPlain 13 = .ok (.iconst 1, 1) := by decide +kernel
theorem dX6_readPlain_14 : decode cX6_readPlain 14 = .ok (.aload_n 0, 1) := by decide +kernel
theorem dX6_readPlain_15 : decode cX6_readPlain 15 = .ok (.getfield 42, 3) := by decide +kernel
theorem dX6_readPlain_18 : decode cX6_readPlain 18 = .ok (.invokevirtual 121, 3) := by decide +kernel
theorem dX6_readPlain_21 : decode cX6_readPlain 21 = .ok (.goto 76, 3) := by decide +kernel
theorem dX6_readPlain_24 : decode cX6_readPlain 24 = .ok (.iload_n 1, 1) := by decide +kernel
theorem dX6_readPlain_25 : decode cX6_readPlain 25 = .ok (.bipush 123, 2) := by decide +kernel
theorem dX6_readPlain_27 : decode cX6_readPlain 27 = .ok (.if_icmp .ne 24, 3) := by decide +kernel
theorem dX6_readPlain_30 : decode cX6_readPlain 30 = .ok (.aload_n 0, 1) := by decide +kernel
theorem dX6_readPlain_31 : decode cX6_readPlain 31 = .ok (.iconst 2, 1) := by decide +kernel
theorem dX6_readPlain_32 : decode cX6_readPlain 32 = .ok (.invokevirtual 125, 3) := by decide +kernel
theorem dX6_readPlain_35 : decode cX6_readPlain 35 = .ok (.aload_n 0, 1) := by decide +kernel
theorem dX6_readPlain_36 : decode cX6_readPlain 36 = .ok (.aload_n 0, 1) := by decide +kernel
theorem dX6_readPlain_37 : decode cX6_readPlain 37 = .ok (.getfield 42, 3) := by decide +kernel
theorem dX6_readPlain_40 : decode cX6_readPlain 40 = .ok (.putfield 54, 3) := by decide +kernel
theorem dX6_readPlain_43 : decode cX6_readPlain 43 = .ok (.aload_n 0, 1) := by decide +kernel
theorem dX6_readPlain_44 : decode cX6_readPlain 44 = .ok (.iconst 1, 1) := by decide +kernel
theorem dX6_readPlain_45 : decode cX6_readPlain 45 = .ok (.putfield 45, 3) := by decide +kernel
theorem dX6_readPlain_48 : decode cX6_readPlain 48 = .ok (.goto 49, 3) := by decide +kernel
theorem dX6_readPlain_51 : decode cX6_readPlain 51 = .ok (.iload_n 1, 1) := by decide +kernel
theorem dX6_readPlain_52 : decode cX6_readPlain 52 = .ok (.bipush 124, 2) := by decide +kernel
theorem dX6_readPlain_54 : decode cX6_readPlain 54 = .ok (.if_icmp .ne 10, 3) := by decide +kernel
theorem dX6_readPlain_57 : decode cX6_readPlain 57 = .ok (.aload_n 0, 1) := by decide +kernel
theorem dX6_readPlain_58 : decode cX6_readPlain 58 = .ok (.invokevirtual 128, 3) := by decide +kernel
theorem dX6_readPlain_61 : decode cX6_readPlain 61 = .ok (.goto 36, 3) := by decide +kernel
theorem dX6_readPlain_64 : decode cX6_readPlain 64 = .ok (.iload_n 1, 1) := by decide +kernel
theorem dX6_readPlain_65 : decode cX6_readPlain 65 = .ok (.bipush 125, 2) := by decide +kernel
theorem dX6_readPlain_67 : decode cX6_readPlain 67 = .ok (.if_icmp .ne 10, 3) := by decide +kernel
theorem dX6_readPlain_70 : decode cX6_readPlain 70 = .ok (.aload_n 0, 1) := by decide +kernel
theorem dX6_readPlain_71 : decode cX6_readPlain 71 = .ok (.invokevirtual 131, 3) := by decide +kernel
theorem dX6_readPlain_74 : decode cX6_readPlain 74 = .ok (.goto 23, 3) := by decide +kernel
theorem dX6_readPlain_77 : decode cX6_readPlain 77 = .ok (.aload_n 0, 1) := by decide +kernel
theorem dX6_readPlain_78 : decode cX6_readPlain 78 = .ok (.getfield 51, 3) := by decide +kernel
theorem dX6_readPlain_81 : decode cX6_readPlain 81 = .ok (.iconst 1, 1) := by decide +kernel
theorem dX6_readPlain_82 : decode cX6_readPlain 82 = .ok (.if_icmp .eq 8, 3) := by decide +kernel
theorem dX6_readPlain_85 : decode cX6_readPlain 85 = .ok (.aload_n 0, 1) := by decide +kernel
theorem dX6_readPlain_86 : decode cX6_readPlain 86 = .ok (.iconst 1, 1) := by decide +kernel
theorem dX6_readPlain_87 : decode cX6_readPlain 87 = .ok (.invokevirtual 125, 3) := by decide +kernel
theorem dX6_readPlain_90 : decode cX6_readPlain 90 = .ok (.aload_n 0, 1) := by decide +kernel
theorem dX6_readPlain_91 : decode cX6_readPlain 91 = .ok (.iconst 0, 1) := by decide +kernel
theorem dX6_readPlain_92 : decode cX6_readPlain 92 = .ok (.iload_n 1, 1) := by decide +kernel
theorem dX6_readPlain_93 : decode cX6_readPlain 93 = .ok (.invokevirtual 134, 3) := by decide +kernel
theorem dX6_readPlain_96 : decode cX6_readPlain 96 = .ok (.pop, 1) := by decide +kernel
theorem dX6_readPlain_97 : decode cX6_readPlain 97 = .ok (.aload_n 0, 1) := by decide +kernel
theorem dX6_readPlain_98 : decode cX6_readPlain 98 = .ok (.dup, 1) := by decide +kernel
theorem dX6_readPlain_99 : decode cX6_readPlain 99 = .ok (.getfield 42, 3) := by decide +kernel
theorem dX6_readPlain_102 : decode cX6_readPlain 102 = .ok (.iconst 1, 1) := by decide +kernel
theorem dX6_readPlain_103 : decode cX6_readPlain 103 = .ok (.iadd, 1) := by decide +kernel
theorem dX6_readPlain_104 : decode cX6_readPlain 104 = .ok (.putfield 42, 3) := by decide +kernel
theorem dX6_readPlain_107 : decode cX6_readPlain 107 = .ok (.return_, 1) := by decide +kernel
theorem dX6_beginPiece_0 : decode cX6_beginPiece 0 = .ok (.aload_n 0, 1) := by decide +kernel
theorem dX6_beginPiece_1 : decode cX6_beginPiece 1 = .ok (.iload_n 1, 1) := by decide +kernel
theorem dX6_beginPiece_2 : decode cX6_beginPiece 2 = .ok (.putfield 51, 3) := by decide +kernel
theorem dX6_beginPiece_5 : decode cX6_beginPiece 5 = .ok (.aload_n 0, 1) := by decide +kernel
theorem dX6_beginPiece_6 : decode cX6_beginPiece 6 = .ok (.dup, 1) := by decide +kernel
theorem dX6_beginPiece_7 : decode cX6_beginPiece 7 = .ok (.getfield 63, 3) := by decide +kernel
theorem dX6_beginPiece_10 : decode cX6_beginPiece 10 = .ok (.iconst 1, 1) := by decide +kernel
theorem dX6_beginPiece_11 : decode cX6_beginPiece 11 = .ok (.iadd, 1) := by decide +kernel
theorem dX6_beginPiece_12 : decode cX6_beginPiece 12 = .ok (.putfield 63, 3) := by decide +kernel
theorem dX6_beginPiece_15 : decode cX6_beginPiece 15 = .ok (.aload_n 0, 1) := by decide +kernel
theorem dX6_beginPiece_16 : decode cX6_beginPiece 16 = .ok (.getfield 63, 3) := by decide +kernel
theorem dX6_beginPiece_19 : decode cX6_beginPiece 19 = .ok (.bipush 60, 2) := by decide +kernel
theorem dX6_beginPiece_21 : decode cX6_beginPiece 21 = .ok (.if_icmp .le 12, 3) := by decide +kernel
theorem dX6_beginPiece_24 : decode cX6_beginPiece 24 = .ok (.aload_n 0, 1) := by decide +kernel
theorem dX6_beginPiece_25 : decode cX6_beginPiece 25 = .ok (.iconst 3, 1) := by decide +kernel
theorem dX6_beginPiece_26 : decode cX6_beginPiece 26 = .ok (.aload_n 0, 1) := by decide +kernel
theorem dX6_beginPiece_27 : decode cX6_beginPiece 27 = .ok (.getfield 42, 3) := by decide +kernel
theorem dX6_beginPiece_30 : decode cX6_beginPiece 30 = .ok (.invokevirtual 121, 3) := by decide +kernel
theorem dX6_beginPiece_33 : decode cX6_beginPiece 33 = .ok (.return_, 1) := by decide +kernel
theorem dX6_turnToElse_0 : decode cX6_turnToElse 0 = .ok (.aload_n 0, 1) := by decide +kernel
theorem dX6_turnToElse_1 : decode cX6_turnToElse 1 = .ok (.getfield 57, 3) := by decide +kernel
theorem dX6_turnToElse_4 : decode cX6_turnToElse 4 = .ok (.iconst 1, 1) := by decide +kernel
theorem dX6_turnToElse_5 : decode cX6_turnToElse 5 = .ok (.isub, 1) := by decide +kernel
theorem dX6_turnToElse_6 : decode cX6_turnToElse 6 = .ok (.istore_n 1, 1) := by decide +kernel
theorem dX6_turnToElse_7 : decode cX6_turnToElse 7 = .ok (.iload_n 1, 1) := by decide +kernel
theorem dX6_turnToElse_8 : decode cX6_turnToElse 8 = .ok (.ifCond .lt 26, 3) := by decide +kernel
theorem dX6_turnToElse_11 : decode cX6_turnToElse 11 = .ok (.iload_n 1, 1) := by decide +kernel
theorem dX6_turnToElse_12 : decode cX6_turnToElse 12 = .ok (.iconst 5, 1) := by decide +kernel
theorem dX6_turnToElse_13 : decode cX6_turnToElse 13 = .ok (.if_icmp .ge 21, 3) := by decide +kernel
theorem dX6_turnToElse_16 : decode cX6_turnToElse 16 = .ok (.aload_n 0, 1) := by decide +kernel
theorem dX6_turnToElse_17 : decode cX6_turnToElse 17 = .ok (.getfield 51, 3) := by decide +kernel
theorem dX6_turnToElse_20 : decode cX6_turnToElse 20 = .ok (.ifCond .eq 14, 3) := by decide +kernel
theorem dX6_turnToElse_23 : decode cX6_turnToElse 23 = .ok (.aload_n 0, 1) := by decide +kernel
theorem dX6_turnToElse_24 : decode cX6_turnToElse 24 = .ok (.getfield 60, 3) := by decide +kernel
theorem dX6_turnToElse_27 : decode cX6_turnToElse 27 = .ok (.iconst 1, 1) := by decide +kernel
theorem dX6_turnToElse_28 : decode cX6_turnToElse 28 = .ok (.iload_n 1, 1) := by decide +kernel
theorem dX6_turnToElse_29 : decode cX6_turnToElse 29 = .ok (.ishl, 1) := by decide +kernel
theorem dX6_turnToElse_30 : decode cX6_turnToElse 30 = .ok (.iand, 1) := by decide +kernel
theorem dX6_turnToElse_31 : decode cX6_turnToElse 31 = .ok (.ifCond .eq 13, 3) := by decide +kernel
theorem dX6_turnToElse_34 : decode cX6_turnToElse 34 = .ok (.aload_n 0, 1) := by decide +kernel
theorem dX6_turnToElse_35 : decode cX6_turnToElse 35 = .ok (.iconst 1, 1) := by decide +kernel
theorem dX6_turnToElse_36 : decode cX6_turnToElse 36 = .ok (.aload_n 0, 1) := by decide +kernel
theorem dX6_turnToElse_37 : decode cX6_turnToElse 37 = .ok (.getfield 42, 3) := by decide +kernel
theorem dX6_turnToElse_40 : decode cX6_turnToElse 40 = .ok (.invokevirtual 121, 3) := by decide +kernel
theorem dX6_turnToElse_43 : decode cX6_turnToElse 43 = .ok (.return_, 1) := by decide +kernel
theorem dX6_turnToElse_44 : decode cX6_turnToElse 44 = .ok (.aload_n 0, 1) := by decide +kernel
theorem dX6_turnToElse_45 : decode cX6_turnToElse 45 = .ok (.bipush 14, 2) := by decide +kernel
theorem dX6_turnToElse_47 : decode cX6_turnToElse 47 = .ok (.iconst 0, 1) := by decide +kernel
theorem dX6_turnToElse_48 : decode cX6_turnToElse 48 = .ok (.invokevirtual 134, 3) := by decide +kernel
theorem dX6_turnToElse_51 : decode cX6_turnToElse 51 = .ok (.istore_n 2, 1) := by decide +kernel
theorem dX6_turnToElse_52 : decode cX6_turnToElse 52 = .ok (.aload_n 0, 1) := by decide +kernel
theorem dX6_turnToElse_53 : decode cX6_turnToElse 53 = .ok (.iload_n 1, 1) := by decide +kernel
theorem dX6_turnToElse_54 : decode cX6_turnToElse 54 = .ok (.invokevirtual 138, 3) := by decide +kernel
theorem dX6_turnToElse_57 : decode cX6_turnToElse 57 = .ok (.aload_n 0, 1) := by decide +kernel
theorem dX6_turnToElse_58 : decode cX6_turnToElse 58 = .ok (.getfield 29, 3) := by decide +kernel
theorem dX6_turnToElse_61 : decode cX6_turnToElse 61 = .ok (.iload_n 1, 1) := by decide +kernel
theorem dX6_turnToElse_62 : decode cX6_turnToElse 62 = .ok (.iload_n 2, 1) := by decide +kernel
theorem dX6_turnToElse_63 : decode cX6_turnToElse 63 = .ok (.iastore, 1) := by decide +kernel
theorem dX6_turnToElse_64 : decode cX6_turnToElse 64 = .ok (.aload_n 0, 1) := by decide +kernel
theorem dX6_turnToElse_65 : decode cX6_turnToElse 65 = .ok (.dup, 1) := by decide +kernel
theorem dX6_turnToElse_66 : decode cX6_turnToElse 66 = .ok (.getfield 60, 3) := by decide +kernel
theorem dX6_turnToElse_69 : decode cX6_turnToElse 69 = .ok (.iconst 1, 1) := by decide +kernel
theorem dX6_turnToElse_70 : decode cX6_turnToElse 70 = .ok (.iload_n 1, 1) := by decide +kernel
theorem dX6_turnToElse_71 : decode cX6_turnToElse 71 = .ok (.ishl, 1) := by decide +kernel
theorem dX6_turnToElse_72 : decode cX6_turnToElse 72 = .ok (.ior, 1) := by decide +kernel
theorem dX6_turnToElse_73 : decode cX6_turnToElse 73 = .ok (.putfield 60, 3) := by decide +kernel
theorem dX6_turnToElse_76 : decode cX6_turnToElse 76 = .ok (.aload_n 0, 1) := by decide +kernel
theorem dX6_turnToElse_77 : decode cX6_turnToElse 77 = .ok (.iconst 0, 1) := by decide +kernel
theorem dX6_turnToElse_78 : decode cX6_turnToElse 78 = .ok (.putfield 51, 3) := by decide +kernel
theorem dX6_turnToElse_81 : decode cX6_turnToElse 81 = .ok (.return_, 1) := by decide +kernel
theorem dX6_closeIf_0 : decode cX6_closeIf 0 = .ok (.aload_n 0, 1) := by decide +kernel
theorem dX6_closeIf_1 : decode cX6_closeIf 1 = .ok (.getfield 57, 3) := by decide +kernel
theorem dX6_closeIf_4 : decode cX6_closeIf 4 = .ok (.ifCond .eq 10, 3) := by decide +kernel
theorem dX6_closeIf_7 : decode cX6_closeIf 7 = .ok (.aload_n 0, 1) := by decide +kernel
theorem dX6_closeIf_8 : decode cX6_closeIf 8 = .ok (.getfield 51, 3) := by decide +kernel
theorem dX6_closeIf_11 : decode cX6_closeIf 11 = .ok (.ifCond .ne 13, 3) := by decide +kernel
theorem dX6_closeIf_14 : decode cX6_closeIf 14 = .ok (.aload_n 0, 1) := by decide +kernel
theorem dX6_closeIf_15 : decode cX6_closeIf 15 = .ok (.iconst 1, 1) := by decide +kernel
theorem dX6_closeIf_16 : decode cX6_closeIf 16 = .ok (.aload_n 0, 1) := by decide +kernel
theorem dX6_closeIf_17 : decode cX6_closeIf 17 = .ok (.getfield 42, 3) := by decide +kernel
theorem dX6_closeIf_20 : decode cX6_closeIf 20 = .ok (.invokevirtual 121, 3) := by decide +kernel
theorem dX6_closeIf_23 : decode cX6_closeIf 23 = .ok (.return_, 1) := by decide +kernel
theorem dX6_closeIf_24 : decode cX6_closeIf 24 = .ok (.aload_n 0, 1) := by decide +kernel
theorem dX6_closeIf_25 : decode cX6_closeIf 25 = .ok (.dup, 1) := by decide +kernel
theorem dX6_closeIf_26 : decode cX6_closeIf 26 = .ok (.getfield 57, 3) := by decide +kernel
theorem dX6_closeIf_29 : decode cX6_closeIf 29 = .ok (.iconst 1, 1) := by decide +kernel
theorem dX6_closeIf_30 : decode cX6_closeIf 30 = .ok (.isub, 1) := by decide +kernel
theorem dX6_closeIf_31 : decode cX6_closeIf 31 = .ok (.putfield 57, 3) := by decide +kernel
theorem dX6_closeIf_34 : decode cX6_closeIf 34 = .ok (.aload_n 0, 1) := by decide +kernel
theorem dX6_closeIf_35 : decode cX6_closeIf 35 = .ok (.aload_n 0, 1) := by decide +kernel
theorem dX6_closeIf_36 : decode cX6_closeIf 36 = .ok (.getfield 57, 3) := by decide +kernel
theorem dX6_closeIf_39 : decode cX6_closeIf 39 = .ok (.invokevirtual 138, 3) := by decide +kernel
theorem dX6_closeIf_42 : decode cX6_closeIf 42 = .ok (.aload_n 0, 1) := by decide +kernel
theorem dX6_closeIf_43 : decode cX6_closeIf 43 = .ok (.dup, 1) := by decide +kernel
theorem dX6_closeIf_44 : decode cX6_closeIf 44 = .ok (.getfield 60, 3) := by decide +kernel
theorem dX6_closeIf_47 : decode cX6_closeIf 47 = .ok (.iconst 1, 1) := by decide +kernel
theorem dX6_closeIf_48 : decode cX6_closeIf 48 = .ok (.aload_n 0, 1) := by decide +kernel
theorem dX6_closeIf_49 : decode cX6_closeIf 49 = .ok (.getfield 57, 3) := by decide +kernel
theorem dX6_closeIf_52 : decode cX6_closeIf 52 = .ok (.ishl, 1) := by decide +kernel
theorem dX6_closeIf_53 : decode cX6_closeIf 53 = .ok (.iconst (-1), 1) := by decide +kernel
theorem dX6_closeIf_54 : decode cX6_closeIf 54 = .ok (.ixor, 1) := by decide +kernel
theorem dX6_closeIf_55 : decode cX6_closeIf 55 = .ok (.iand, 1) := by decide +kernel
theorem dX6_closeIf_56 : decode cX6_closeIf 56 = .ok (.putfield 60, 3) := by decide +kernel
theorem dX6_closeIf_59 : decode cX6_closeIf 59 = .ok (.aload_n 0, 1) := by decide +kernel
theorem dX6_closeIf_60 : decode cX6_closeIf 60 = .ok (.iconst 2, 1) := by decide +kernel
theorem dX6_closeIf_61 : decode cX6_closeIf 61 = .ok (.putfield 51, 3) := by decide +kernel
theorem dX6_closeIf_64 : decode cX6_closeIf 64 = .ok (.return_, 1) := by decide +kernel
theorem dX6_aimSkip_0 : decode cX6_aimSkip 0 = .ok (.iload_n 1, 1) := by decide +kernel
theorem dX6_aimSkip_1 : decode cX6_aimSkip 1 = .ok (.ifCond .lt 39, 3) := by decide +kernel
theorem dX6_aimSkip_4 : decode cX6_aimSkip 4 = .ok (.iload_n 1, 1) := by decide +kernel
theorem dX6_aimSkip_5 : decode cX6_aimSkip 5 = .ok (.iconst 5, 1) := by decide +kernel
theorem dX6_aimSkip_6 : decode cX6_aimSkip 6 = .ok (.if_icmp .ge 34, 3) := by decide +kernel
theorem dX6_aimSkip_9 : decode cX6_aimSkip 9 = .ok (.aload_n 0, 1) := by decide +kernel
theorem dX6_aimSkip_10 : decode cX6_aimSkip 10 = .ok (.getfield 29, 3) := by decide +kernel
theorem dX6_aimSkip_13 : decode cX6_aimSkip 13 = .ok (.iload_n 1, 1) := by decide +kernel
theorem dX6_aimSkip_14 : decode cX6_aimSkip 14 = .ok (.iaload, 1) := by decide +kernel
theorem dX6_aimSkip_15 : decode cX6_aimSkip 15 = .ok (.istore_n 2, 1) := by decide +kernel
theorem dX6_aimSkip_16 : decode cX6_aimSkip 16 = .ok (.iload_n 2, 1) := by decide +kernel
theorem dX6_aimSkip_17 : decode cX6_aimSkip 17 = .ok (.ifCond .lt 23, 3) := by decide +kernel
theorem dX6_aimSkip_20 : decode cX6_aimSkip 20 = .ok (.iload_n 2, 1) := by decide +kernel
theorem dX6_aimSkip_21 : decode cX6_aimSkip 21 = .ok (.sipush 1024, 3) := by decide +kernel
theorem dX6_aimSkip_24 : decode cX6_aimSkip 24 = .ok (.if_icmp .ge 16, 3) := by decide +kernel
theorem dX6_aimSkip_27 : decode cX6_aimSkip 27 = .ok (.aload_n 0, 1) := by decide +kernel
theorem dX6_aimSkip_28 : decode cX6_aimSkip 28 = .ok (.getfield 25, 3) := by decide +kernel
theorem dX6_aimSkip_31 : decode cX6_aimSkip 31 = .ok (.iload_n 2, 1) := by decide +kernel
theorem dX6_aimSkip_32 : decode cX6_aimSkip 32 = .ok (.dup2, 1) := by decide +kernel
theorem dX6_aimSkip_33 : decode cX6_aimSkip 33 = .ok (.iaload, 1) := by decide +kernel
theorem dX6_aimSkip_34 : decode cX6_aimSkip 34 = .ok (.aload_n 0, 1) := by decide +kernel
theorem dX6_aimSkip_35 : decode cX6_aimSkip 35 = .ok (.getfield 32, 3) := by decide +kernel
theorem dX6_aimSkip_38 : decode cX6_aimSkip 38 = .ok (.ior, 1) := by decide +kernel
theorem dX6_aimSkip_39 : decode cX6_aimSkip 39 = .ok (.iastore, 1) := by decide +kernel
theorem dX6_aimSkip_40 : decode cX6_aimSkip 40 = .ok (.return_, 1) := by decide +kernel
theorem dX6_isLetter_0 : decode cX6_isLetter 0 = .ok (.iload_n 0, 1) := by decide +kernel
theorem dX6_isLetter_1 : decode cX6_isLetter 1 = .ok (.bipush 97, 2) := by decide +kernel
theorem dX6_isLetter_3 : decode cX6_isLetter 3 = .ok (.if_icmp .lt 13, 3) := by decide +kernel
theorem dX6_isLetter_6 : decode cX6_isLetter 6 = .ok (.iload_n 0, 1) := by decide +kernel
theorem dX6_isLetter_7 : decode cX6_isLetter 7 = .ok (.bipush 122, 2) := by decide +kernel
theorem dX6_isLetter_9 : decode cX6_isLetter 9 = .ok (.if_icmp .gt 7, 3) := by decide +kernel
theorem dX6_isLetter_12 : decode cX6_isLetter 12 = .ok (.iconst 1, 1) := by decide +kernel
theorem dX6_isLetter_13 : decode cX6_isLetter 13 = .ok (.goto 4, 3) := by decide +kernel
theorem dX6_isLetter_16 : decode cX6_isLetter 16 = .ok (.iconst 0, 1) := by decide +kernel
theorem dX6_isLetter_17 : decode cX6_isLetter 17 = .ok (.ireturn, 1) := by decide +kernel
theorem dX6_isDigit_0 : decode cX6_isDigit 0 = .ok (.iload_n 0, 1) := by decide +kernel
theorem dX6_isDigit_1 : decode cX6_isDigit 1 = .ok (.bipush 48, 2) := by decide +kernel
theorem dX6_isDigit_3 : decode cX6_isDigit 3 = .ok (.if_icmp .lt 13, 3) := by decide +kernel
theorem dX6_isDigit_6 : decode cX6_isDigit 6 = .ok (.iload_n 0, 1) := by decide +kernel
theorem dX6_isDigit_7 : decode cX6_isDigit 7 = .ok (.bipush 57, 2) := by decide +kernel
theorem dX6_isDigit_9 : decode cX6_isDigit 9 = .ok (.if_icmp .gt 7, 3) := by decide +kernel
theorem dX6_isDigit_12 : decode cX6_isDigit 12 = .ok (.iconst 1, 1) := by decide +kernel
theorem dX6_isDigit_13 : decode cX6_isDigit 13 = .ok (.goto 4, 3) := by decide +kernel
theorem dX6_isDigit_16 : decode cX6_isDigit 16 = .ok (.iconst 0, 1) := by decide +kernel
theorem dX6_isDigit_17 : decode cX6_isDigit 17 = .ok (.ireturn, 1) := by decide +kernel
theorem dX6_readWord_0 : decode cX6_readWord 0 = .ok (.aload_n 0, 1) := by decide +kernel
theorem dX6_readWord_1 : decode cX6_readWord 1 = .ok (.getfield 42, 3) := by decide +kernel
theorem dX6_readWord_4 : decode cX6_readWord 4 = .ok (.istore_n 1, 1) := by decide +kernel
theorem dX6_readWord_5 : decode cX6_readWord 5 = .ok (.iconst 0, 1) := by decide +kernel
theorem dX6_readWord_6 : decode cX6_readWord 6 = .ok (.istore_n 2, 1) := by decide +kernel
theorem dX6_readWord_7 : decode cX6_readWord 7 = .ok (.iload_n 2, 1) := by decide +kernel
theorem dX6_readWord_8 : decode cX6_readWord 8 = .ok (.sipush 400, 3) := by decide +kernel
theorem dX6_readWord_11 : decode cX6_readWord 11 = .ok (.if_icmp .ge 22, 3) := by decide +kernel
theorem dX6_readWord_14 : decode cX6_readWord 14 = .ok (.aload_n 0, 1) := by decide +kernel
theorem dX6_readWord_15 : decode cX6_readWord 15 = .ok (.iload_n 1, 1) := by decide +kernel
theorem dX6_readWord_16 : decode cX6_readWord 16 = .ok (.iload_n 2, 1) := by decide +kernel
theorem dX6_readWord_17 : decode cX6_readWord 17 = .ok (.iadd, 1) := by decide +kernel
theorem dX6_readWord_18 : decode cX6_readWord 18 = .ok (.invokevirtual 80, 3) := by decide +kernel
theorem dX6_readWord_21 : decode cX6_readWord 21 = .ok (.invokestatic 88, 3) := by decide +kernel
theorem dX6_readWord_24 : decode cX6_readWord 24 = .ok (.ifCond .eq 9, 3) := by decide +kernel
theorem dX6_readWord_27 : decode cX6_readWord 27 = .ok (.iinc 2 1, 3) := by decide +kernel
theorem dX6_readWord_30 : decode cX6_readWord 30 = .ok (.goto (-23), 3) := by decide +kernel
theorem dX6_readWord_33 : decode cX6_readWord 33 = .ok (.aload_n 0, 1) := by decide +kernel
theorem dX6_readWord_34 : decode cX6_readWord 34 = .ok (.iload_n 1, 1) := by decide +kernel
theorem dX6_readWord_35 : decode cX6_readWord 35 = .ok (.iload_n 2, 1) := by decide +kernel
theorem dX6_readWord_36 : decode cX6_readWord 36 = .ok (.iadd, 1) := by decide +kernel
theorem dX6_readWord_37 : decode cX6_readWord 37 = .ok (.putfield 42, 3) := by decide +kernel
theorem dX6_readWord_40 : decode cX6_readWord 40 = .ok (.iload_n 2, 1) := by decide +kernel
theorem dX6_readWord_41 : decode cX6_readWord 41 = .ok (.bipush 8, 2) := by decide +kernel
theorem dX6_readWord_43 : decode cX6_readWord 43 = .ok (.if_icmp .le 10, 3) := by decide +kernel
theorem dX6_readWord_46 : decode cX6_readWord 46 = .ok (.aload_n 0, 1) := by decide +kernel
theorem dX6_readWord_47 : decode cX6_readWord 47 = .ok (.iconst 1, 1) := by decide +kernel
theorem dX6_readWord_48 : decode cX6_readWord 48 = .ok (.iload_n 1, 1) := by decide +kernel
theorem dX6_readWord_49 : decode cX6_readWord 49 = .ok (.invokevirtual 121, 3) := by decide +kernel
theorem dX6_readWord_52 : decode cX6_readWord 52 = .ok (.return_, 1) := by decide +kernel
theorem dX6_readWord_53 : decode cX6_readWord 53 = .ok (.aload_n 0, 1) := by decide +kernel
theorem dX6_readWord_54 : decode cX6_readWord 54 = .ok (.aload_n 0, 1) := by decide +kernel
theorem dX6_readWord_55 : decode cX6_readWord 55 = .ok (.getfield 42, 3) := by decide +kernel
theorem dX6_readWord_58 : decode cX6_readWord 58 = .ok (.invokevirtual 80, 3) := by decide +kernel
theorem dX6_readWord_61 : decode cX6_readWord 61 = .ok (.istore_n 3, 1) := by decide +kernel
theorem dX6_readWord_62 : decode cX6_readWord 62 = .ok (.iload_n 3, 1) := by decide +kernel
theorem dX6_readWord_63 : decode cX6_readWord 63 = .ok (.invokestatic 95, 3) := by decide +kernel
theorem dX6_readWord_66 : decode cX6_readWord 66 = .ok (.ifCond .ne 15, 3) := by decide +kernel
theorem dX6_readWord_69 : decode cX6_readWord 69 = .ok (.aload_n 0, 1) := by decide +kernel
theorem dX6_readWord_70 : decode cX6_readWord 70 = .ok (.aload_n 0, 1) := by decide +kernel
theorem dX6_readWord_71 : decode cX6_readWord 71 = .ok (.iload_n 1, 1) := by decide +kernel
theorem dX6_readWord_72 : decode cX6_readWord 72 = .ok (.iload_n 2, 1) := by decide +kernel
theorem dX6_readWord_73 : decode cX6_readWord 73 = .ok (.invokevirtual 141, 3) := by decide +kernel
theorem dX6_readWord_76 : decode cX6_readWord 76 = .ok (.iload_n 1, 1) := by decide +kernel
theorem dX6_readWord_77 : decode cX6_readWord 77 = .ok (.invokevirtual 144, 3) := by decide +kernel
theorem dX6_readWord_80 : decode cX6_readWord 80 = .ok (.return_, 1) := by decide +kernel
theorem dX6_readWord_81 : decode cX6_readWord 81 = .ok (.aload_n 0, 1) := by decide +kernel
theorem dX6_readWord_82 : decode cX6_readWord 82 = .ok (.dup, 1) := by decide +kernel
theorem dX6_readWord_83 : decode cX6_readWord 83 = .ok (.getfield 42, 3) := by decide +kernel
theorem dX6_readWord_86 : decode cX6_readWord 86 = .ok (.iconst 1, 1) := by decide +kernel
theorem dX6_readWord_87 : decode cX6_readWord 87 = .ok (.iadd, 1) := by decide +kernel
theorem dX6_readWord_88 : decode cX6_readWord 88 = .ok (.putfield 42, 3) := by decide +kernel
theorem dX6_readWord_91 : decode cX6_readWord 91 = .ok (.iload_n 2, 1) := by decide +kernel
theorem dX6_readWord_92 : decode cX6_readWord 92 = .ok (.iconst 1, 1) := by decide +kernel
theorem dX6_readWord_93 : decode cX6_readWord 93 = .ok (.if_icmp .ne 17, 3) := by decide +kernel
theorem dX6_readWord_96 : decode cX6_readWord 96 = .ok (.aload_n 0, 1) := by decide +kernel
theorem dX6_readWord_97 : decode cX6_readWord 97 = .ok (.iload_n 1, 1) := by decide +kernel
theorem dX6_readWord_98 : decode cX6_readWord 98 = .ok (.invokevirtual 80, 3) := by decide +kernel
theorem dX6_readWord_101 : decode cX6_readWord 101 = .ok (.bipush 107, 2) := by decide +kernel
theorem dX6_readWord_103 : decode cX6_readWord 103 = .ok (.if_icmp .ne 7, 3) := by decide +kernel
theorem dX6_readWord_106 : decode cX6_readWord 106 = .ok (.iconst 1, 1) := by decide +kernel
theorem dX6_readWord_107 : decode cX6_readWord 107 = .ok (.goto 4, 3) := by decide +kernel
theorem dX6_readWord_110 : decode cX6_readWord 110 = .ok (.iconst 0, 1) := by decide +kernel
theorem dX6_readWord_111 : decode cX6_readWord 111 = .ok (.istore 4, 2) := by decide +kernel
theorem dX6_readWord_113 : decode cX6_readWord 113 = .ok (.aload_n 0, 1) := by decide +kernel
theorem dX6_readWord_114 : decode cX6_readWord 114 = .ok (.iload 4, 2) := by decide +kernel
theorem dX6_readWord_116 : decode cX6_readWord 116 = .ok (.ifCond .eq 10, 3) := by decide +kernel
theorem dX6_readWord_119 : decode cX6_readWord 119 = .ok (.iload_n 3, 1) := by decide +kernel
theorem dX6_readWord_120 : decode cX6_readWord 120 = .ok (.bipush 48, 2) := by decide +kernel
theorem dX6_readWord_122 : decode cX6_readWord 122 = .ok (.isub, 1) := by decide +kernel
theorem dX6_readWord_123 : decode cX6_readWord 123 = .ok (.goto 4, 3) := by decide +kernel
theorem dX6_readWord_126 : decode cX6_readWord 126 = .ok (.iconst (-1), 1) := by decide +kernel
theorem dX6_readWord_127 : decode cX6_readWord 127 = .ok (.iload_n 1, 1) := by decide +kernel
theorem dX6_readWord_128 : decode cX6_readWord 128 = .ok (.invokevirtual 144, 3) := by decide +kernel
theorem dX6_readWord_131 : decode cX6_readWord 131 = .ok (.return_, 1) := by decide +kernel
theorem dX6_readWhole_0 : decode cX6_readWhole 0 = .ok (.aload_n 0, 1) := by decide +kernel
theorem dX6_readWhole_1 : decode cX6_readWhole 1 = .ok (.getfield 42, 3) := by decide +kernel
theorem dX6_readWhole_4 : decode cX6_readWhole 4 = .ok (.istore_n 1, 1) := by decide +kernel
theorem dX6_readWhole_5 : decode cX6_readWhole 5 = .ok (.iconst 0, 1) := by decide +kernel
theorem dX6_readWhole_6 : decode cX6_readWhole 6 = .ok (.istore_n 2, 1) := by decide +kernel
theorem dX6_readWhole_7 : decode cX6_readWhole 7 = .ok (.iconst 0, 1) := by decide +kernel
theorem dX6_readWhole_8 : decode cX6_readWhole 8 = .ok (.istore_n 3, 1) := by decide +kernel
theorem dX6_readWhole_9 : decode cX6_readWhole 9 = .ok (.iload_n 2, 1) := by decide +kernel
theorem dX6_readWhole_10 : decode cX6_readWhole 10 = .ok (.sipush 400, 3) := by decide +kernel
theorem dX6_readWhole_13 : decode cX6_readWhole 13 = .ok (.if_icmp .ge 47, 3) := by decide +kernel
theorem dX6_readWhole_16 : decode cX6_readWhole 16 = .ok (.aload_n 0, 1) := by decide +kernel
theorem dX6_readWhole_17 : decode cX6_readWhole 17 = .ok (.iload_n 1, 1) := by decide +kernel
theorem dX6_readWhole_18 : decode cX6_readWhole 18 = .ok (.iload_n 2, 1) := by decide +kernel
theorem dX6_readWhole_19 : decode cX6_readWhole 19 = .ok (.iadd, 1) := by decide +kernel
theorem dX6_readWhole_20 : decode cX6_readWhole 20 = .ok (.invokevirtual 80, 3) := by decide +kernel
theorem dX6_readWhole_23 : decode cX6_readWhole 23 = .ok (.invokestatic 95, 3) := by decide +kernel
theorem dX6_readWhole_26 : decode cX6_readWhole 26 = .ok (.ifCond .eq 34, 3) := by decide +kernel
theorem dX6_readWhole_29 : decode cX6_readWhole 29 = .ok (.iload_n 2, 1) := by decide +kernel
theorem dX6_readWhole_30 : decode cX6_readWhole 30 = .ok (.iconst 4, 1) := by decide +kernel
theorem dX6_readWhole_31 : decode cX6_readWhole 31 = .ok (.if_icmp .ge 21, 3) := by decide +kernel
theorem dX6_readWhole_34 : decode cX6_readWhole 34 = .ok (.iload_n 3, 1) := by decide +kernel
theorem dX6_readWhole_35 : decode cX6_readWhole 35 = .ok (.bipush 10, 2) := by decide +kernel
theorem dX6_readWhole_37 : decode cX6_readWhole 37 = .ok (.imul, 1) := by decide +kernel
theorem dX6_readWhole_38 : decode cX6_readWhole 38 = .ok (.aload_n 0, 1) := by decide +kernel
theorem dX6_readWhole_39 : decode cX6_readWhole 39 = .ok (.iload_n 1, 1) := by decide +kernel
theorem dX6_readWhole_40 : decode cX6_readWhole 40 = .ok (.iload_n 2, 1) := by decide +kernel
theorem dX6_readWhole_41 : decode cX6_readWhole 41 = .ok (.iadd, 1) := by decide +kernel
theorem dX6_readWhole_42 : decode cX6_readWhole 42 = .ok (.invokevirtual 80, 3) := by decide +kernel
theorem dX6_readWhole_45 : decode cX6_readWhole 45 = .ok (.iadd, 1) := by decide +kernel
theorem dX6_readWhole_46 : decode cX6_readWhole 46 = .ok (.bipush 48, 2) := by decide +kernel
theorem dX6_readWhole_48 : decode cX6_readWhole 48 = .ok (.isub, 1) := by decide +kernel
theorem dX6_readWhole_49 : decode cX6_readWhole 49 = .ok (.goto 4, 3) := by decide +kernel
theorem dX6_readWhole_52 : decode cX6_readWhole 52 = .ok (.iload_n 3, 1) := by decide +kernel
theorem dX6_readWhole_53 : decode cX6_readWhole 53 = .ok (.istore_n 3, 1) := by decide +kernel
theorem dX6_readWhole_54 : decode cX6_readWhole 54 = .ok (.iinc 2 1, 3) := by decide +kernel
theorem dX6_readWhole_57 : decode cX6_readWhole 57 = .ok (.goto (-48), 3) := by decide +kernel
theorem dX6_readWhole_60 : decode cX6_readWhole 60 = .ok (.aload_n 0, 1) := by decide +kernel
theorem dX6_readWhole_61 : decode cX6_readWhole 61 = .ok (.iload_n 1, 1) := by decide +kernel
theorem dX6_readWhole_62 : decode cX6_readWhole 62 = .ok (.iload_n 2, 1) := by decide +kernel
theorem dX6_readWhole_63 : decode cX6_readWhole 63 = .ok (.iadd, 1) := by decide +kernel
theorem dX6_readWhole_64 : decode cX6_readWhole 64 = .ok (.putfield 42, 3) := by decide +kernel
theorem dX6_readWhole_67 : decode cX6_readWhole 67 = .ok (.iload_n 2, 1) := by decide +kernel
theorem dX6_readWhole_68 : decode cX6_readWhole 68 = .ok (.iconst 4, 1) := by decide +kernel
theorem dX6_readWhole_69 : decode cX6_readWhole 69 = .ok (.if_icmp .gt 10, 3) := by decide +kernel
theorem dX6_readWhole_72 : decode cX6_readWhole 72 = .ok (.aload_n 0, 1) := by decide +kernel
theorem dX6_readWhole_73 : decode cX6_readWhole 73 = .ok (.invokevirtual 147, 3) := by decide +kernel
theorem dX6_readWhole_76 : decode cX6_readWhole 76 = .ok (.ifCond .ne 12, 3) := by decide +kernel
theorem dX6_readWhole_79 : decode cX6_readWhole 79 = .ok (.aload_n 0, 1) := by decide +kernel
theorem dX6_readWhole_80 : decode cX6_readWhole 80 = .ok (.iconst 1, 1) := by decide +kernel
theorem dX6_readWhole_81 : decode cX6_readWhole 81 = .ok (.iload_n 1, 1) := by decide +kernel
theorem dX6_readWhole_82 : decode cX6_readWhole 82 = .ok (.invokevirtual 121, 3) := by decide +kernel
theorem dX6_readWhole_85 : decode cX6_readWhole 85 = .ok (.goto 10, 3) := by decide +kernel
theorem dX6_readWhole_88 : decode cX6_readWhole 88 = .ok (.aload_n 0, 1) := by decide +kernel
theorem dX6_readWhole_89 : decode cX6_readWhole 89 = .ok (.iconst 1, 1) := by decide +kernel
theorem dX6_readWhole_90 : decode cX6_readWhole 90 = .ok (.iload_n 3, 1) := by decide +kernel
theorem dX6_readWhole_91 : decode cX6_readWhole 91 = .ok (.iload_n 1, 1) := by decide +kernel
theorem dX6_readWhole_92 : decode cX6_readWhole 92 = .ok (.invokevirtual 151, 3) := by decide +kernel
theorem dX6_readWhole_95 : decode cX6_readWhole 95 = .ok (.return_, 1) := by decide +kernel
theorem dX6_wordAt_0 : decode cX6_wordAt 0 = .ok (.iload_n 2, 1) := by decide +kernel
theorem dX6_wordAt_1 : decode cX6_wordAt 1 = .ok (.tableswitch 250 2 7 #[39, 71, 77, 124, 186, 233], 39) := by decide +kernel
theorem dX6_wordAt_40 : decode cX6_wordAt 40 = .ok (.aload_n 0, 1) := by decide +kernel
theorem dX6_wordAt_41 : decode cX6_wordAt 41 = .ok (.iload_n 1, 1) := by decide +kernel
theorem dX6_wordAt_42 : decode cX6_wordAt 42 = .ok (.ldc 155, 2) := by decide +kernel
theorem dX6_wordAt_44 : decode cX6_wordAt 44 = .ok (.invokevirtual 157, 3) := by decide +kernel
theorem dX6_wordAt_47 : decode cX6_wordAt 47 = .ok (.ifCond .eq 8, 3) := by decide +kernel
theorem dX6_wordAt_50 : decode cX6_wordAt 50 = .ok (.bipush 21, 2) := by decide +kernel
theorem dX6_wordAt_52 : decode cX6_wordAt 52 = .ok (.goto 19, 3) := by decide +kernel
theorem dX6_wordAt_55 : decode cX6_wordAt 55 = .ok (.aload_n 0, 1) := by decide +kernel
theorem dX6_wordAt_56 : decode cX6_wordAt 56 = .ok (.iload_n 1, 1) := by decide +kernel
theorem dX6_wordAt_57 : decode cX6_wordAt 57 = .ok (.ldc 161, 2) := by decide +kernel
theorem dX6_wordAt_59 : decode cX6_wordAt 59 = .ok (.invokevirtual 157, 3) := by decide +kernel
theorem dX6_wordAt_62 : decode cX6_wordAt 62 = .ok (.ifCond .eq 8, 3) := by decide +kernel
theorem dX6_wordAt_65 : decode cX6_wordAt 65 = .ok (.bipush 23, 2) := by decide +kernel
theorem dX6_wordAt_67 : decode cX6_wordAt 67 = .ok (.goto 4, 3) := by decide +kernel
theorem dX6_wordAt_70 : decode cX6_wordAt 70 = .ok (.iconst (-1), 1) := by decide +kernel
theorem dX6_wordAt_71 : decode cX6_wordAt 71 = .ok (.ireturn, 1) := by decide +kernel
theorem dX6_wordAt_72 : decode cX6_wordAt 72 = .ok (.aload_n 0, 1) := by decide +kernel
theorem dX6_wordAt_73 : decode cX6_wordAt 73 = .ok (.iload_n 1, 1) := by decide +kernel
theorem dX6_wordAt_74 : decode cX6_wordAt 74 = .ok (.invokevirtual 163, 3) := by decide +kernel
theorem dX6_wordAt_77 : decode cX6_wordAt 77 = .ok (.ireturn, 1) := by decide +kernel
theorem dX6_wordAt_78 : decode cX6_wordAt 78 = .ok (.aload_n 0, 1) := by decide +kernel
theorem dX6_wordAt_79 : decode cX6_wordAt 79 = .ok (.iload_n 1, 1) := by decide +kernel
theorem dX6_wordAt_80 : decode cX6_wordAt 80 = .ok (.ldc 166, 2) := by decide +kernel
theorem dX6_wordAt_82 : decode cX6_wordAt 82 = .ok (.invokevirtual 157, 3) := by decide +kernel
theorem dX6_wordAt_85 : decode cX6_wordAt 85 = .ok (.ifCond .eq 8, 3) := by decide +kernel
theorem dX6_wordAt_88 : decode cX6_wordAt 88 = .ok (.bipush 27, 2) := by decide +kernel
theorem dX6_wordAt_90 : decode cX6_wordAt 90 = .ok (.goto 34, 3) := by decide +kernel
theorem dX6_wordAt_93 : decode cX6_wordAt 93 = .ok (.aload_n 0, 1) := by decide +kernel
theorem dX6_wordAt_94 : decode cX6_wordAt 94 = .ok (.iload_n 1, 1) := by decide +kernel
theorem dX6_wordAt_95 : decode cX6_wordAt 95 = .ok (.ldc 168, 2) := by decide +kernel
theorem dX6_wordAt_97 : decode cX6_wordAt 97 = .ok (.invokevirtual 157, 3) := by decide +kernel
theorem dX6_wordAt_100 : decode cX6_wordAt 100 = .ok (.ifCond .eq 8, 3) := by decide +kernel
theorem dX6_wordAt_103 : decode cX6_wordAt 103 = .ok (.bipush 11, 2) := by decide +kernel
theorem dX6_wordAt_105 : decode cX6_wordAt 105 = .ok (.goto 19, 3) := by decide +kernel
theorem dX6_wordAt_108 : decode cX6_wordAt 108 = .ok (.aload_n 0, 1) := by decide +kernel
theorem dX6_wordAt_109 : decode cX6_wordAt 109 = .ok (.iload_n 1, 1) := by decide +kernel
theorem dX6_wordAt_110 : decode cX6_wordAt 110 = .ok (.ldc 170, 2) := by decide +kernel
theorem dX6_wordAt_112 : decode cX6_wordAt 112 = .ok (.invokevirtual 157, 3) := by decide +kernel
theorem dX6_wordAt_115 : decode cX6_wordAt 115 = .ok (.ifCond .eq 8, 3) := by decide +kernel
theorem dX6_wordAt_118 : decode cX6_wordAt 118 = .ok (.bipush 12, 2) := by decide +kernel
theorem dX6_wordAt_120 : decode cX6_wordAt 120 = .ok (.goto 4, 3) := by decide +kernel
theorem dX6_wordAt_123 : decode cX6_wordAt 123 = .ok (.iconst (-1), 1) := by decide +kernel
theorem dX6_wordAt_124 : decode cX6_wordAt 124 = .ok (.ireturn, 1) := by decide +kernel
theorem dX6_wordAt_125 : decode cX6_wordAt 125 = .ok (.aload_n 0, 1) := by decide +kernel
theorem dX6_wordAt_126 : decode cX6_wordAt 126 = .ok (.iload_n 1, 1) := by decide +kernel
theorem dX6_wordAt_127 : decode cX6_wordAt 127 = .ok (.ldc 172, 2) := by decide +kernel
theorem dX6_wordAt_129 : decode cX6_wordAt 129 = .ok (.invokevirtual 157, 3) := by decide +kernel
theorem dX6_wordAt_132 : decode cX6_wordAt 132 = .ok (.ifCond .eq 8, 3) := by decide +kernel
theorem dX6_wordAt_135 : decode cX6_wordAt 135 = .ok (.bipush 26, 2) := by decide +kernel
theorem dX6_wordAt_137 : decode cX6_wordAt 137 = .ok (.goto 49, 3) := by decide +kernel
theorem dX6_wordAt_140 : decode cX6_wordAt 140 = .ok (.aload_n 0, 1) := by decide +kernel
theorem dX6_wordAt_141 : decode cX6_wordAt 141 = .ok (.iload_n 1, 1) := by decide +kernel
theorem dX6_wordAt_142 : decode cX6_wordAt 142 = .ok (.ldc 174, 2) := by decide +kernel
theorem dX6_wordAt_144 : decode cX6_wordAt 144 = .ok (.invokevirtual 157, 3) := by decide +kernel
theorem dX6_wordAt_147 : decode cX6_wordAt 147 = .ok (.ifCond .eq 8, 3) := by decide +kernel
theorem dX6_wordAt_150 : decode cX6_wordAt 150 = .ok (.bipush 13, 2) := by decide +kernel
theorem dX6_wordAt_152 : decode cX6_wordAt 152 = .ok (.goto 34, 3) := by decide +kernel
theorem dX6_wordAt_155 : decode cX6_wordAt 155 = .ok (.aload_n 0, 1) := by decide +kernel
theorem dX6_wordAt_156 : decode cX6_wordAt 156 = .ok (.iload_n 1, 1) := by decide +kernel
theorem dX6_wordAt_157 : decode cX6_wordAt 157 = .ok (.ldc 176, 2) := by decide +kernel
theorem dX6_wordAt_159 : decode cX6_wordAt 159 = .ok (.invokevirtual 157, 3) := by decide +kernel
theorem dX6_wordAt_162 : decode cX6_wordAt 162 = .ok (.ifCond .eq 8, 3) := by decide +kernel
theorem dX6_wordAt_165 : decode cX6_wordAt 165 = .ok (.bipush 18, 2) := by decide +kernel
theorem dX6_wordAt_167 : decode cX6_wordAt 167 = .ok (.goto 19, 3) := by decide +kernel
theorem dX6_wordAt_170 : decode cX6_wordAt 170 = .ok (.aload_n 0, 1) := by decide +kernel
theorem dX6_wordAt_171 : decode cX6_wordAt 171 = .ok (.iload_n 1, 1) := by decide +kernel
theorem dX6_wordAt_172 : decode cX6_wordAt 172 = .ok (.ldc 178, 2) := by decide +kernel
theorem dX6_wordAt_174 : decode cX6_wordAt 174 = .ok (.invokevirtual 157, 3) := by decide +kernel
theorem dX6_wordAt_177 : decode cX6_wordAt 177 = .ok (.ifCond .eq 8, 3) := by decide +kernel
theorem dX6_wordAt_180 : decode cX6_wordAt 180 = .ok (.bipush 20, 2) := by decide +kernel
theorem dX6_wordAt_182 : decode cX6_wordAt 182 = .ok (.goto 4, 3) := by decide +kernel
theorem dX6_wordAt_185 : decode cX6_wordAt 185 = .ok (.iconst (-1), 1) := by decide +kernel
theorem dX6_wordAt_186 : decode cX6_wordAt 186 = .ok (.ireturn, 1) := by decide +kernel
theorem dX6_wordAt_187 : decode cX6_wordAt 187 = .ok (.aload_n 0, 1) := by decide +kernel
theorem dX6_wordAt_188 : decode cX6_wordAt 188 = .ok (.iload_n 1, 1) := by decide +kernel
theorem dX6_wordAt_189 : decode cX6_wordAt 189 = .ok (.ldc 180, 2) := by decide +kernel
theorem dX6_wordAt_191 : decode cX6_wordAt 191 = .ok (.invokevirtual 157, 3) := by decide +kernel
theorem dX6_wordAt_194 : decode cX6_wordAt 194 = .ok (.ifCond .eq 8, 3) := by decide +kernel
theorem dX6_wordAt_197 : decode cX6_wordAt 197 = .ok (.bipush 15, 2) := by decide +kernel
theorem dX6_wordAt_199 : decode cX6_wordAt 199 = .ok (.goto 34, 3) := by decide +kernel
theorem dX6_wordAt_202 : decode cX6_wordAt 202 = .ok (.aload_n 0, 1) := by decide +kernel
theorem dX6_wordAt_203 : decode cX6_wordAt 203 = .ok (.iload_n 1, 1) := by decide +kernel
theorem dX6_wordAt_204 : decode cX6_wordAt 204 = .ok (.ldc 182, 2) := by decide +kernel
theorem dX6_wordAt_206 : decode cX6_wordAt 206 = .ok (.invokevirtual 157, 3) := by decide +kernel
theorem dX6_wordAt_209 : decode cX6_wordAt 209 = .ok (.ifCond .eq 8, 3) := by decide +kernel
theorem dX6_wordAt_212 : decode cX6_wordAt 212 = .ok (.bipush 16, 2) := by decide +kernel
theorem dX6_wordAt_214 : decode cX6_wordAt 214 = .ok (.goto 19, 3) := by decide +kernel
theorem dX6_wordAt_217 : decode cX6_wordAt 217 = .ok (.aload_n 0, 1) := by decide +kernel
theorem dX6_wordAt_218 : decode cX6_wordAt 218 = .ok (.iload_n 1, 1) := by decide +kernel
theorem dX6_wordAt_219 : decode cX6_wordAt 219 = .ok (.ldc 184, 2) := by decide +kernel
theorem dX6_wordAt_221 : decode cX6_wordAt 221 = .ok (.invokevirtual 157, 3) := by decide +kernel
theorem dX6_wordAt_224 : decode cX6_wordAt 224 = .ok (.ifCond .eq 8, 3) := by decide +kernel
theorem dX6_wordAt_227 : decode cX6_wordAt 227 = .ok (.bipush 17, 2) := by decide +kernel
theorem dX6_wordAt_229 : decode cX6_wordAt 229 = .ok (.goto 4, 3) := by decide +kernel
theorem dX6_wordAt_232 : decode cX6_wordAt 232 = .ok (.iconst (-1), 1) := by decide +kernel
theorem dX6_wordAt_233 : decode cX6_wordAt 233 = .ok (.ireturn, 1) := by decide +kernel
theorem dX6_wordAt_234 : decode cX6_wordAt 234 = .ok (.aload_n 0, 1) := by decide +kernel
theorem dX6_wordAt_235 : decode cX6_wordAt 235 = .ok (.iload_n 1, 1) := by decide +kernel
theorem dX6_wordAt_236 : decode cX6_wordAt 236 = .ok (.ldc 186, 2) := by decide +kernel
theorem dX6_wordAt_238 : decode cX6_wordAt 238 = .ok (.invokevirtual 157, 3) := by decide +kernel
theorem dX6_wordAt_241 : decode cX6_wordAt 241 = .ok (.ifCond .eq 8, 3) := by decide +kernel
theorem dX6_wordAt_244 : decode cX6_wordAt 244 = .ok (.bipush 19, 2) := by decide +kernel
theorem dX6_wordAt_246 : decode cX6_wordAt 246 = .ok (.goto 4, 3) := by decide +kernel
theorem dX6_wordAt_249 : decode cX6_wordAt 249 = .ok (.iconst (-1), 1) := by decide +kernel
theorem dX6_wordAt_250 : decode cX6_wordAt 250 = .ok (.ireturn, 1) := by decide +kernel
theorem dX6_wordAt_251 : decode cX6_wordAt 251 = .ok (.iconst (-1), 1) := by decide +kernel
theorem dX6_wordAt_252 : decode cX6_wordAt 252 = .ok (.ireturn, 1) := by decide +kernel
theorem dX6_shortWordAt_0 : decode cX6_shortWordAt 0 = .ok (.aload_n 0, 1) := by decide +kernel
theorem dX6_shortWordAt_1 : decode cX6_shortWordAt 1 = .ok (.iload_n 1, 1) := by decide +kernel
theorem dX6_shortWordAt_2 : decode cX6_shortWordAt 2 = .ok (.ldc 188, 2) := by decide +kernel
theorem dX6_shortWordAt_4 : decode cX6_shortWordAt 4 = .ok (.invokevirtual 157, 3) := by decide +kernel
theorem dX6_shortWordAt_7 : decode cX6_shortWordAt 7 = .ok (.ifCond .eq 6, 3) := by decide +kernel
theorem dX6_shortWordAt_10 : decode cX6_shortWordAt 10 = .ok (.bipush 22, 2) := by decide +kernel
theorem dX6_shortWordAt_12 : decode cX6_shortWordAt 12 = .ok (.ireturn, 1) := by decide +kernel
theorem dX6_shortWordAt_13 : decode cX6_shortWordAt 13 = .ok (.aload_n 0, 1) := by decide +kernel
theorem dX6_shortWordAt_14 : decode cX6_shortWordAt 14 = .ok (.iload_n 1, 1) := by decide +kernel
theorem dX6_shortWordAt_15 : decode cX6_shortWordAt 15 = .ok (.ldc 190, 2) := by decide +kernel
theorem dX6_shortWordAt_17 : decode cX6_shortWordAt 17 = .ok (.invokevirtual 157, 3) := by decide +kernel
theorem dX6_shortWordAt_20 : decode cX6_shortWordAt 20 = .ok (.ifCond .eq 6, 3) := by decide +kernel
theorem dX6_shortWordAt_23 : decode cX6_shortWordAt 23 = .ok (.bipush 24, 2) := by decide +kernel
theorem dX6_shortWordAt_25 : decode cX6_shortWordAt 25 = .ok (.ireturn, 1) := by decide +kernel
theorem dX6_shortWordAt_26 : decode cX6_shortWordAt 26 = .ok (.aload_n 0, 1) := by decide +kernel
theorem dX6_shortWordAt_27 : decode cX6_shortWordAt 27 = .ok (.iload_n 1, 1) := by decide +kernel
theorem dX6_shortWordAt_28 : decode cX6_shortWordAt 28 = .ok (.ldc 192, 2) := by decide +kernel
theorem dX6_shortWordAt_30 : decode cX6_shortWordAt 30 = .ok (.invokevirtual 157, 3) := by decide +kernel
theorem dX6_shortWordAt_33 : decode cX6_shortWordAt 33 = .ok (.ifCond .eq 6, 3) := by decide +kernel
theorem dX6_shortWordAt_36 : decode cX6_shortWordAt 36 = .ok (.bipush 25, 2) := by decide +kernel
theorem dX6_shortWordAt_38 : decode cX6_shortWordAt 38 = .ok (.ireturn, 1) := by decide +kernel
theorem dX6_shortWordAt_39 : decode cX6_shortWordAt 39 = .ok (.aload_n 0, 1) := by decide +kernel
theorem dX6_shortWordAt_40 : decode cX6_shortWordAt 40 = .ok (.iload_n 1, 1) := by decide +kernel
theorem dX6_shortWordAt_41 : decode cX6_shortWordAt 41 = .ok (.ldc 194, 2) := by decide +kernel
theorem dX6_shortWordAt_43 : decode cX6_shortWordAt 43 = .ok (.invokevirtual 157, 3) := by decide +kernel
theorem dX6_shortWordAt_46 : decode cX6_shortWordAt 46 = .ok (.ifCond .eq 8, 3) := by decide +kernel
theorem dX6_shortWordAt_49 : decode cX6_shortWordAt 49 = .ok (.bipush 10, 2) := by decide +kernel
theorem dX6_shortWordAt_51 : decode cX6_shortWordAt 51 = .ok (.goto 19, 3) := by decide +kernel
theorem dX6_shortWordAt_54 : decode cX6_shortWordAt 54 = .ok (.aload_n 0, 1) := by decide +kernel
theorem dX6_shortWordAt_55 : decode cX6_shortWordAt 55 = .ok (.iload_n 1, 1) := by decide +kernel
theorem dX6_shortWordAt_56 : decode cX6_shortWordAt 56 = .ok (.ldc 196, 2) := by decide +kernel
theorem dX6_shortWordAt_58 : decode cX6_shortWordAt 58 = .ok (.invokevirtual 157, 3) := by decide +kernel
theorem dX6_shortWordAt_61 : decode cX6_shortWordAt 61 = .ok (.ifCond .eq 8, 3) := by decide +kernel
theorem dX6_shortWordAt_64 : decode cX6_shortWordAt 64 = .ok (.bipush 14, 2) := by decide +kernel
theorem dX6_shortWordAt_66 : decode cX6_shortWordAt 66 = .ok (.goto 4, 3) := by decide +kernel
theorem dX6_shortWordAt_69 : decode cX6_shortWordAt 69 = .ok (.iconst (-1), 1) := by decide +kernel
theorem dX6_shortWordAt_70 : decode cX6_shortWordAt 70 = .ok (.ireturn, 1) := by decide +kernel
theorem dX6_spells_0 : decode cX6_spells 0 = .ok (.iconst 0, 1) := by decide +kernel
theorem dX6_spells_1 : decode cX6_spells 1 = .ok (.istore_n 3, 1) := by decide +kernel
theorem dX6_spells_2 : decode cX6_spells 2 = .ok (.iload_n 3, 1) := by decide +kernel
theorem dX6_spells_3 : decode cX6_spells 3 = .ok (.aload_n 2, 1) := by decide +kernel
theorem dX6_spells_4 : decode cX6_spells 4 = .ok (.invokevirtual 198, 3) := by decide +kernel
theorem dX6_spells_7 : decode cX6_spells 7 = .ok (.if_icmp .ge 26, 3) := by decide +kernel
theorem dX6_spells_10 : decode cX6_spells 10 = .ok (.aload_n 0, 1) := by decide +kernel
theorem dX6_spells_11 : decode cX6_spells 11 = .ok (.iload_n 1, 1) := by decide +kernel
theorem dX6_spells_12 : decode cX6_spells 12 = .ok (.iload_n 3, 1) := by decide +kernel
theorem dX6_spells_13 : decode cX6_spells 13 = .ok (.iadd, 1) := by decide +kernel
theorem dX6_spells_14 : decode cX6_spells 14 = .ok (.invokevirtual 80, 3) := by decide +kernel
theorem dX6_spells_17 : decode cX6_spells 17 = .ok (.aload_n 2, 1) := by decide +kernel
theorem dX6_spells_18 : decode cX6_spells 18 = .ok (.iload_n 3, 1) := by decide +kernel
theorem dX6_spells_19 : decode cX6_spells 19 = .ok (.invokevirtual 204, 3) := by decide +kernel
theorem dX6_spells_22 : decode cX6_spells 22 = .ok (.if_icmp .eq 5, 3) := by decide +kernel
theorem dX6_spells_25 : decode cX6_spells 25 = .ok (.iconst 0, 1) := by decide +kernel
theorem dX6_spells_26 : decode cX6_spells 26 = .ok (.ireturn, 1) := by decide +kernel
theorem dX6_spells_27 : decode cX6_spells 27 = .ok (.iinc 3 1, 3) := by decide +kernel
theorem dX6_spells_30 : decode cX6_spells 30 = .ok (.goto (-28), 3) := by decide +kernel
theorem dX6_spells_33 : decode cX6_spells 33 = .ok (.iconst 1, 1) := by decide +kernel
theorem dX6_spells_34 : decode cX6_spells 34 = .ok (.ireturn, 1) := by decide +kernel
theorem dX6_takeWord_0 : decode cX6_takeWord 0 = .ok (.aload_n 0, 1) := by decide +kernel
theorem dX6_takeWord_1 : decode cX6_takeWord 1 = .ok (.getfield 45, 3) := by decide +kernel
theorem dX6_takeWord_4 : decode cX6_takeWord 4 = .ok (.iconst 3, 1) := by decide +kernel
theorem dX6_takeWord_5 : decode cX6_takeWord 5 = .ok (.if_icmp .eq 11, 3) := by decide +kernel
theorem dX6_takeWord_8 : decode cX6_takeWord 8 = .ok (.aload_n 0, 1) := by decide +kernel
theorem dX6_takeWord_9 : decode cX6_takeWord 9 = .ok (.getfield 45, 3) := by decide +kernel
theorem dX6_takeWord_12 : decode cX6_takeWord 12 = .ok (.iconst 4, 1) := by decide +kernel
theorem dX6_takeWord_13 : decode cX6_takeWord 13 = .ok (.if_icmp .ne 12, 3) := by decide +kernel
theorem dX6_takeWord_16 : decode cX6_takeWord 16 = .ok (.aload_n 0, 1) := by decide +kernel
theorem dX6_takeWord_17 : decode cX6_takeWord 17 = .ok (.iload_n 1, 1) := by decide +kernel
theorem dX6_takeWord_18 : decode cX6_takeWord 18 = .ok (.iload_n 2, 1) := by decide +kernel
theorem dX6_takeWord_19 : decode cX6_takeWord 19 = .ok (.invokevirtual 208, 3) := by decide +kernel
theorem dX6_takeWord_22 : decode cX6_takeWord 22 = .ok (.goto 158, 3) := by decide +kernel
theorem dX6_takeWord_25 : decode cX6_takeWord 25 = .ok (.iload_n 1, 1) := by decide +kernel
theorem dX6_takeWord_26 : decode cX6_takeWord 26 = .ok (.bipush 22, 2) := by decide +kernel
theorem dX6_takeWord_28 : decode cX6_takeWord 28 = .ok (.if_icmp .eq 9, 3) := by decide +kernel
theorem dX6_takeWord_31 : decode cX6_takeWord 31 = .ok (.iload_n 1, 1) := by decide +kernel
theorem dX6_takeWord_32 : decode cX6_takeWord 32 = .ok (.bipush 23, 2) := by decide +kernel
theorem dX6_takeWord_34 : decode cX6_takeWord 34 = .ok (.if_icmp .ne 22, 3) := by decide +kernel
theorem dX6_takeWord_37 : decode cX6_takeWord 37 = .ok (.aload_n 0, 1) := by decide +kernel
theorem dX6_takeWord_38 : decode cX6_takeWord 38 = .ok (.iload_n 1, 1) := by decide +kernel
theorem dX6_takeWord_39 : decode cX6_takeWord 39 = .ok (.bipush 22, 2) := by decide +kernel
theorem dX6_takeWord_41 : decode cX6_takeWord 41 = .ok (.if_icmp .ne 7, 3) := by decide +kernel
theorem dX6_takeWord_44 : decode cX6_takeWord 44 = .ok (.iconst 1, 1) := by decide +kernel
theorem dX6_takeWord_45 : decode cX6_takeWord 45 = .ok (.goto 4, 3) := by decide +kernel
theorem dX6_takeWord_48 : decode cX6_takeWord 48 = .ok (.iconst 2, 1) := by decide +kernel
theorem dX6_takeWord_49 : decode cX6_takeWord 49 = .ok (.iload_n 2, 1) := by decide +kernel
theorem dX6_takeWord_50 : decode cX6_takeWord 50 = .ok (.invokevirtual 211, 3) := by decide +kernel
theorem dX6_takeWord_53 : decode cX6_takeWord 53 = .ok (.goto 127, 3) := by decide +kernel
theorem dX6_takeWord_56 : decode cX6_takeWord 56 = .ok (.iload_n 1, 1) := by decide +kernel
theorem dX6_takeWord_57 : decode cX6_takeWord 57 = .ok (.bipush 21, 2) := by decide +kernel
theorem dX6_takeWord_59 : decode cX6_takeWord 59 = .ok (.if_icmp .ne 18, 3) := by decide +kernel
theorem dX6_takeWord_62 : decode cX6_takeWord 62 = .ok (.aload_n 0, 1) := by decide +kernel
theorem dX6_takeWord_63 : decode cX6_takeWord 63 = .ok (.getfield 45, 3) := by decide +kernel
theorem dX6_takeWord_66 : decode cX6_takeWord 66 = .ok (.iconst 1, 1) := by decide +kernel
theorem dX6_takeWord_67 : decode cX6_takeWord 67 = .ok (.if_icmp .ne 10, 3) := by decide +kernel
theorem dX6_takeWord_70 : decode cX6_takeWord 70 = .ok (.aload_n 0, 1) := by decide +kernel
theorem dX6_takeWord_71 : decode cX6_takeWord 71 = .ok (.invokevirtual 214, 3) := by decide +kernel
theorem dX6_takeWord_74 : decode cX6_takeWord 74 = .ok (.goto 106, 3) := by decide +kernel
theorem dX6_takeWord_77 : decode cX6_takeWord 77 = .ok (.iload_n 1, 1) := by decide +kernel
theorem dX6_takeWord_78 : decode cX6_takeWord 78 = .ok (.bipush 24, 2) := by decide +kernel
theorem dX6_takeWord_80 : decode cX6_takeWord 80 = .ok (.if_icmp .lt 32, 3) := by decide +kernel
theorem dX6_takeWord_83 : decode cX6_takeWord 83 = .ok (.aload_n 0, 1) := by decide +kernel
theorem dX6_takeWord_84 : decode cX6_takeWord 84 = .ok (.getfield 45, 3) := by decide +kernel
theorem dX6_takeWord_87 : decode cX6_takeWord 87 = .ok (.iconst 2, 1) := by decide +kernel
theorem dX6_takeWord_88 : decode cX6_takeWord 88 = .ok (.if_icmp .ne 24, 3) := by decide +kernel
theorem dX6_takeWord_91 : decode cX6_takeWord 91 = .ok (.iload_n 1, 1) := by decide +kernel
theorem dX6_takeWord_92 : decode cX6_takeWord 92 = .ok (.bipush 24, 2) := by decide +kernel
theorem dX6_takeWord_94 : decode cX6_takeWord 94 = .ok (.if_icmp .eq 10, 3) := by decide +kernel
theorem dX6_takeWord_97 : decode cX6_takeWord 97 = .ok (.aload_n 0, 1) := by decide +kernel
theorem dX6_takeWord_98 : decode cX6_takeWord 98 = .ok (.getfield 35, 3) := by decide +kernel
theorem dX6_takeWord_101 : decode cX6_takeWord 101 = .ok (.ifCond .ne 11, 3) := by decide +kernel
theorem dX6_takeWord_104 : decode cX6_takeWord 104 = .ok (.aload_n 0, 1) := by decide +kernel
theorem dX6_takeWord_105 : decode cX6_takeWord 105 = .ok (.iload_n 1, 1) := by decide +kernel
theorem dX6_takeWord_106 : decode cX6_takeWord 106 = .ok (.invokevirtual 217, 3) := by decide +kernel
theorem dX6_takeWord_109 : decode cX6_takeWord 109 = .ok (.goto 71, 3) := by decide +kernel
theorem dX6_takeWord_112 : decode cX6_takeWord 112 = .ok (.iload_n 1, 1) := by decide +kernel
theorem dX6_takeWord_113 : decode cX6_takeWord 113 = .ok (.bipush 21, 2) := by decide +kernel
theorem dX6_takeWord_115 : decode cX6_takeWord 115 = .ok (.if_icmp .ge 10, 3) := by decide +kernel
theorem dX6_takeWord_118 : decode cX6_takeWord 118 = .ok (.aload_n 0, 1) := by decide +kernel
theorem dX6_takeWord_119 : decode cX6_takeWord 119 = .ok (.invokevirtual 147, 3) := by decide +kernel
theorem dX6_takeWord_122 : decode cX6_takeWord 122 = .ok (.ifCond .ne 12, 3) := by decide +kernel
theorem dX6_takeWord_125 : decode cX6_takeWord 125 = .ok (.aload_n 0, 1) := by decide +kernel
theorem dX6_takeWord_126 : decode cX6_takeWord 126 = .ok (.iconst 1, 1) := by decide +kernel
theorem dX6_takeWord_127 : decode cX6_takeWord 127 = .ok (.iload_n 2, 1) := by decide +kernel
theorem dX6_takeWord_128 : decode cX6_takeWord 128 = .ok (.invokevirtual 121, 3) := by decide +kernel
theorem dX6_takeWord_131 : decode cX6_takeWord 131 = .ok (.goto 49, 3) := by decide +kernel
theorem dX6_takeWord_134 : decode cX6_takeWord 134 = .ok (.aload_n 0, 1) := by decide +kernel
theorem dX6_takeWord_135 : decode cX6_takeWord 135 = .ok (.iload_n 1, 1) := by decide +kernel
theorem dX6_takeWord_136 : decode cX6_takeWord 136 = .ok (.invokevirtual 220, 3) := by decide +kernel
theorem dX6_takeWord_139 : decode cX6_takeWord 139 = .ok (.ifCond .ne 12, 3) := by decide +kernel
theorem dX6_takeWord_142 : decode cX6_takeWord 142 = .ok (.aload_n 0, 1) := by decide +kernel
theorem dX6_takeWord_143 : decode cX6_takeWord 143 = .ok (.iconst 2, 1) := by decide +kernel
theorem dX6_takeWord_144 : decode cX6_takeWord 144 = .ok (.iload_n 2, 1) := by decide +kernel
theorem dX6_takeWord_145 : decode cX6_takeWord 145 = .ok (.invokevirtual 121, 3) := by decide +kernel
theorem dX6_takeWord_148 : decode cX6_takeWord 148 = .ok (.goto 32, 3) := by decide +kernel
theorem dX6_takeWord_151 : decode cX6_takeWord 151 = .ok (.aload_n 0, 1) := by decide +kernel
theorem dX6_takeWord_152 : decode cX6_takeWord 152 = .ok (.dup, 1) := by decide +kernel
theorem dX6_takeWord_153 : decode cX6_takeWord 153 = .ok (.getfield 69, 3) := by decide +kernel
theorem dX6_takeWord_156 : decode cX6_takeWord 156 = .ok (.iload_n 1, 1) := by decide +kernel
theorem dX6_takeWord_157 : decode cX6_takeWord 157 = .ok (.bipush 10, 2) := by decide +kernel
theorem dX6_takeWord_159 : decode cX6_takeWord 159 = .ok (.if_icmp .ge 9, 3) := by decide +kernel
theorem dX6_takeWord_162 : decode cX6_takeWord 162 = .ok (.iconst 1, 1) := by decide +kernel
theorem dX6_takeWord_163 : decode cX6_takeWord 163 = .ok (.iload_n 1, 1) := by decide +kernel
theorem dX6_takeWord_164 : decode cX6_takeWord 164 = .ok (.ishl, 1) := by decide +kernel
theorem dX6_takeWord_165 : decode cX6_takeWord 165 = .ok (.goto 4, 3) := by decide +kernel
theorem dX6_takeWord_168 : decode cX6_takeWord 168 = .ok (.iconst 0, 1) := by decide +kernel
theorem dX6_takeWord_169 : decode cX6_takeWord 169 = .ok (.ior, 1) := by decide +kernel
theorem dX6_takeWord_170 : decode cX6_takeWord 170 = .ok (.putfield 69, 3) := by decide +kernel
theorem dX6_takeWord_173 : decode cX6_takeWord 173 = .ok (.aload_n 0, 1) := by decide +kernel
theorem dX6_takeWord_174 : decode cX6_takeWord 174 = .ok (.iconst 2, 1) := by decide +kernel
theorem dX6_takeWord_175 : decode cX6_takeWord 175 = .ok (.iload_n 1, 1) := by decide +kernel
theorem dX6_takeWord_176 : decode cX6_takeWord 176 = .ok (.iload_n 2, 1) := by decide +kernel
theorem dX6_takeWord_177 : decode cX6_takeWord 177 = .ok (.invokevirtual 151, 3) := by decide +kernel
theorem dX6_takeWord_180 : decode cX6_takeWord 180 = .ok (.return_, 1) := by decide +kernel
theorem dX6_isName_0 : decode cX6_isName 0 = .ok (.aload_n 0, 1) := by decide +kernel
theorem dX6_isName_1 : decode cX6_isName 1 = .ok (.getfield 35, 3) := by decide +kernel
theorem dX6_isName_4 : decode cX6_isName 4 = .ok (.ifCond .eq 28, 3) := by decide +kernel
theorem dX6_isName_7 : decode cX6_isName 7 = .ok (.iload_n 1, 1) := by decide +kernel
theorem dX6_isName_8 : decode cX6_isName 8 = .ok (.bipush 10, 2) := by decide +kernel
theorem dX6_isName_10 : decode cX6_isName 10 = .ok (.if_icmp .eq 14, 3) := by decide +kernel
theorem dX6_isName_13 : decode cX6_isName 13 = .ok (.iload_n 1, 1) := by decide +kernel
theorem dX6_isName_14 : decode cX6_isName 14 = .ok (.bipush 13, 2) := by decide +kernel
theorem dX6_isName_16 : decode cX6_isName 16 = .ok (.bipush 20, 2) := by decide +kernel
theorem dX6_isName_18 : decode cX6_isName 18 = .ok (.invokestatic 72, 3) := by decide +kernel
theorem dX6_isName_21 : decode cX6_isName 21 = .ok (.ifCond .eq 7, 3) := by decide +kernel
theorem dX6_isName_24 : decode cX6_isName 24 = .ok (.iconst 1, 1) := by decide +kernel
theorem dX6_isName_25 : decode cX6_isName 25 = .ok (.goto 14, 3) := by decide +kernel
theorem dX6_isName_28 : decode cX6_isName 28 = .ok (.iconst 0, 1) := by decide +kernel
theorem dX6_isName_29 : decode cX6_isName 29 = .ok (.goto 10, 3) := by decide +kernel
theorem dX6_isName_32 : decode cX6_isName 32 = .ok (.iload_n 1, 1) := by decide +kernel
theorem dX6_isName_33 : decode cX6_isName 33 = .ok (.iconst 0, 1) := by decide +kernel
theorem dX6_isName_34 : decode cX6_isName 34 = .ok (.bipush 13, 2) := by decide +kernel
theorem dX6_isName_36 : decode cX6_isName 36 = .ok (.invokestatic 72, 3) := by decide +kernel
theorem dX6_isName_39 : decode cX6_isName 39 = .ok (.ireturn, 1) := by decide +kernel
theorem dX6_termMayCome_0 : decode cX6_termMayCome 0 = .ok (.aload_n 0, 1) := by decide +kernel
theorem dX6_termMayCome_1 : decode cX6_termMayCome 1 = .ok (.getfield 45, 3) := by decide +kernel
theorem dX6_termMayCome_4 : decode cX6_termMayCome 4 = .ok (.iconst 1, 1) := by decide +kernel
theorem dX6_termMayCome_5 : decode cX6_termMayCome 5 = .ok (.if_icmp .eq 24, 3) := by decide +kernel
theorem dX6_termMayCome_8 : decode cX6_termMayCome 8 = .ok (.aload_n 0, 1) := by decide +kernel
theorem dX6_termMayCome_9 : decode cX6_termMayCome 9 = .ok (.getfield 45, 3) := by decide +kernel
theorem dX6_termMayCome_12 : decode cX6_termMayCome 12 = .ok (.iconst 2, 1) := by decide +kernel
theorem dX6_termMayCome_13 : decode cX6_termMayCome 13 = .ok (.if_icmp .eq 16, 3) := by decide +kernel
theorem dX6_termMayCome_16 : decode cX6_termMayCome 16 = .ok (.aload_n 0, 1) := by decide +kernel
theorem dX6_termMayCome_17 : decode cX6_termMayCome 17 = .ok (.getfield 45, 3) := by decide +kernel
theorem dX6_termMayCome_20 : decode cX6_termMayCome 20 = .ok (.iconst 5, 1) := by decide +kernel
theorem dX6_termMayCome_21 : decode cX6_termMayCome 21 = .ok (.bipush 7, 2) := by decide +kernel
theorem dX6_termMayCome_23 : decode cX6_termMayCome 23 = .ok (.invokestatic 72, 3) := by decide +kernel
theorem dX6_termMayCome_26 : decode cX6_termMayCome 26 = .ok (.ifCond .eq 7, 3) := by decide +kernel
theorem dX6_termMayCome_29 : decode cX6_termMayCome 29 = .ok (.iconst 1, 1) := by decide +kernel
theorem dX6_termMayCome_30 : decode cX6_termMayCome 30 = .ok (.goto 4, 3) := by decide +kernel
theorem dX6_termMayCome_33 : decode cX6_termMayCome 33 = .ok (.iconst 0, 1) := by decide +kernel
theorem dX6_termMayCome_34 : decode cX6_termMayCome 34 = .ok (.ireturn, 1) := by decide +kernel
theorem dX6_openIf_0 : decode cX6_openIf 0 = .ok (.aload_n 0, 1) := by decide +kernel
theorem dX6_openIf_1 : decode cX6_openIf 1 = .ok (.getfield 57, 3) := by decide +kernel
theorem dX6_openIf_4 : decode cX6_openIf 4 = .ok (.iconst 5, 1) := by decide +kernel
theorem dX6_openIf_5 : decode cX6_openIf 5 = .ok (.if_icmp .lt 13, 3) := by decide +kernel
theorem dX6_openIf_8 : decode cX6_openIf 8 = .ok (.aload_n 0, 1) := by decide +kernel
theorem dX6_openIf_9 : decode cX6_openIf 9 = .ok (.iconst 3, 1) := by decide +kernel
theorem dX6_openIf_10 : decode cX6_openIf 10 = .ok (.aload_n 0, 1) := by decide +kernel
theorem dX6_openIf_11 : decode cX6_openIf 11 = .ok (.getfield 54, 3) := by decide +kernel
theorem dX6_openIf_14 : decode cX6_openIf 14 = .ok (.invokevirtual 121, 3) := by decide +kernel
theorem dX6_openIf_17 : decode cX6_openIf 17 = .ok (.return_, 1) := by decide +kernel
theorem dX6_openIf_18 : decode cX6_openIf 18 = .ok (.aload_n 0, 1) := by decide +kernel
theorem dX6_openIf_19 : decode cX6_openIf 19 = .ok (.bipush 11, 2) := by decide +kernel
theorem dX6_openIf_21 : decode cX6_openIf 21 = .ok (.iconst 0, 1) := by decide +kernel
theorem dX6_openIf_22 : decode cX6_openIf 22 = .ok (.invokevirtual 134, 3) := by decide +kernel
theorem dX6_openIf_25 : decode cX6_openIf 25 = .ok (.pop, 1) := by decide +kernel
theorem dX6_openIf_26 : decode cX6_openIf 26 = .ok (.aload_n 0, 1) := by decide +kernel
theorem dX6_openIf_27 : decode cX6_openIf 27 = .ok (.iconst 0, 1) := by decide +kernel
theorem dX6_openIf_28 : decode cX6_openIf 28 = .ok (.putfield 48, 3) := by decide +kernel
theorem dX6_openIf_31 : decode cX6_openIf 31 = .ok (.aload_n 0, 1) := by decide +kernel
theorem dX6_openIf_32 : decode cX6_openIf 32 = .ok (.iconst 2, 1) := by decide +kernel
theorem dX6_openIf_33 : decode cX6_openIf 33 = .ok (.putfield 45, 3) := by decide +kernel
theorem dX6_openIf_36 : decode cX6_openIf 36 = .ok (.return_, 1) := by decide +kernel
theorem dX6_takeQuestion_0 : decode cX6_takeQuestion 0 = .ok (.iload_n 1, 1) := by decide +kernel
theorem dX6_takeQuestion_1 : decode cX6_takeQuestion 1 = .ok (.bipush 24, 2) := by decide +kernel
theorem dX6_takeQuestion_3 : decode cX6_takeQuestion 3 = .ok (.if_icmp .ne 14, 3) := by decide +kernel
theorem dX6_takeQuestion_6 : decode cX6_takeQuestion 6 = .ok (.aload_n 0, 1) := by decide +kernel
theorem dX6_takeQuestion_7 : decode cX6_takeQuestion 7 = .ok (.bipush 7, 2) := by decide +kernel
theorem dX6_takeQuestion_9 : decode cX6_takeQuestion 9 = .ok (.iconst 0, 1) := by decide +kernel
theorem dX6_takeQuestion_10 : decode cX6_takeQuestion 10 = .ok (.invokevirtual 134, 3) := by decide +kernel
theorem dX6_takeQuestion_13 : decode cX6_takeQuestion 13 = .ok (.pop, 1) := by decide +kernel
theorem dX6_takeQuestion_14 : decode cX6_takeQuestion 14 = .ok (.goto 41, 3) := by decide +kernel
theorem dX6_takeQuestion_17 : decode cX6_takeQuestion 17 = .ok (.iload_n 1, 1) := by decide +kernel
theorem dX6_takeQuestion_18 : decode cX6_takeQuestion 18 = .ok (.bipush 27, 2) := by decide +kernel
theorem dX6_takeQuestion_20 : decode cX6_takeQuestion 20 = .ok (.if_icmp .ne 20, 3) := by decide +kernel
theorem dX6_takeQuestion_23 : decode cX6_takeQuestion 23 = .ok (.aload_n 0, 1) := by decide +kernel
theorem dX6_takeQuestion_24 : decode cX6_takeQuestion 24 = .ok (.bipush 10, 2) := by decide +kernel
theorem dX6_takeQuestion_26 : decode cX6_takeQuestion 26 = .ok (.iconst 0, 1) := by decide +kernel
theorem dX6_takeQuestion_27 : decode cX6_takeQuestion 27 = .ok (.invokevirtual 134, 3) := by decide +kernel
theorem dX6_takeQuestion_30 : decode cX6_takeQuestion 30 = .ok (.pop, 1) := by decide +kernel
theorem dX6_takeQuestion_31 : decode cX6_takeQuestion 31 = .ok (.aload_n 0, 1) := by decide +kernel
theorem dX6_takeQuestion_32 : decode cX6_takeQuestion 32 = .ok (.bipush 11, 2) := by decide +kernel
theorem dX6_takeQuestion_34 : decode cX6_takeQuestion 34 = .ok (.putfield 45, 3) := by decide +kernel
theorem dX6_takeQuestion_37 : decode cX6_takeQuestion 37 = .ok (.goto 18, 3) := by decide +kernel
theorem dX6_takeQuestion_40 : decode cX6_takeQuestion 40 = .ok (.aload_n 0, 1) := by decide +kernel
theorem dX6_takeQuestion_41 : decode cX6_takeQuestion 41 = .ok (.iload_n 1, 1) := by decide +kernel
theorem dX6_takeQuestion_42 : decode cX6_takeQuestion 42 = .ok (.bipush 25, 2) := by decide +kernel
theorem dX6_takeQuestion_44 : decode cX6_takeQuestion 44 = .ok (.if_icmp .ne 7, 3) := by decide +kernel
theorem dX6_takeQuestion_47 : decode cX6_takeQuestion 47 = .ok (.iconst 3, 1) := by decide +kernel
theorem dX6_takeQuestion_48 : decode cX6_takeQuestion 48 = .ok (.goto 4, 3) := by decide +kernel
theorem dX6_takeQuestion_51 : decode cX6_takeQuestion 51 = .ok (.iconst 4, 1) := by decide +kernel
theorem dX6_takeQuestion_52 : decode cX6_takeQuestion 52 = .ok (.putfield 45, 3) := by decide +kernel
theorem dX6_takeQuestion_55 : decode cX6_takeQuestion 55 = .ok (.return_, 1) := by decide +kernel
theorem dX6_takeFact_0 : decode cX6_takeFact 0 = .ok (.iload_n 1, 1) := by decide +kernel
theorem dX6_takeFact_1 : decode cX6_takeFact 1 = .ok (.invokestatic 223, 3) := by decide +kernel
theorem dX6_takeFact_4 : decode cX6_takeFact 4 = .ok (.ifCond .ne 10, 3) := by decide +kernel
theorem dX6_takeFact_7 : decode cX6_takeFact 7 = .ok (.aload_n 0, 1) := by decide +kernel
theorem dX6_takeFact_8 : decode cX6_takeFact 8 = .ok (.iconst 1, 1) := by decide +kernel
theorem dX6_takeFact_9 : decode cX6_takeFact 9 = .ok (.iload_n 2, 1) := by decide +kernel
theorem dX6_takeFact_10 : decode cX6_takeFact 10 = .ok (.invokevirtual 121, 3) := by decide +kernel
theorem dX6_takeFact_13 : decode cX6_takeFact 13 = .ok (.return_, 1) := by decide +kernel
theorem dX6_takeFact_14 : decode cX6_takeFact 14 = .ok (.aload_n 0, 1) := by decide +kernel
theorem dX6_takeFact_15 : decode cX6_takeFact 15 = .ok (.dup, 1) := by decide +kernel
theorem dX6_takeFact_16 : decode cX6_takeFact 16 = .ok (.getfield 69, 3) := by decide +kernel
theorem dX6_takeFact_19 : decode cX6_takeFact 19 = .ok (.iconst 1, 1) := by decide +kernel
theorem dX6_takeFact_20 : decode cX6_takeFact 20 = .ok (.iload_n 1, 1) := by decide +kernel
theorem dX6_takeFact_21 : decode cX6_takeFact 21 = .ok (.ishl, 1) := by decide +kernel
theorem dX6_takeFact_22 : decode cX6_takeFact 22 = .ok (.ior, 1) := by decide +kernel
theorem dX6_takeFact_23 : decode cX6_takeFact 23 = .ok (.putfield 69, 3) := by decide +kernel
theorem dX6_takeFact_26 : decode cX6_takeFact 26 = .ok (.aload_n 0, 1) := by decide +kernel
theorem dX6_takeFact_27 : decode cX6_takeFact 27 = .ok (.aload_n 0, 1) := by decide +kernel
theorem dX6_takeFact_28 : decode cX6_takeFact 28 = .ok (.getfield 45, 3) := by decide +kernel
theorem dX6_takeFact_31 : decode cX6_takeFact 31 = .ok (.iconst 3, 1) := by decide +kernel
theorem dX6_takeFact_32 : decode cX6_takeFact 32 = .ok (.if_icmp .ne 8, 3) := by decide +kernel
theorem dX6_takeFact_35 : decode cX6_takeFact 35 = .ok (.bipush 8, 2) := by decide +kernel
theorem dX6_takeFact_37 : decode cX6_takeFact 37 = .ok (.goto 5, 3) := by decide +kernel
theorem dX6_takeFact_40 : decode cX6_takeFact 40 = .ok (.bipush 9, 2) := by decide +kernel
theorem dX6_takeFact_42 : decode cX6_takeFact 42 = .ok (.iload_n 1, 1) := by decide +kernel
theorem dX6_takeFact_43 : decode cX6_takeFact 43 = .ok (.invokevirtual 134, 3) := by decide +kernel
theorem dX6_takeFact_46 : decode cX6_takeFact 46 = .ok (.pop, 1) := by decide +kernel
theorem dX6_takeFact_47 : decode cX6_takeFact 47 = .ok (.aload_n 0, 1) := by decide +kernel
theorem dX6_takeFact_48 : decode cX6_takeFact 48 = .ok (.bipush 11, 2) := by decide +kernel
theorem dX6_takeFact_50 : decode cX6_takeFact 50 = .ok (.putfield 45, 3) := by decide +kernel
theorem dX6_takeFact_53 : decode cX6_takeFact 53 = .ok (.return_, 1) := by decide +kernel
theorem dX6_takeTerm_0 : decode cX6_takeTerm 0 = .ok (.aload_n 0, 1) := by decide +kernel
theorem dX6_takeTerm_1 : decode cX6_takeTerm 1 = .ok (.dup, 1) := by decide +kernel
theorem dX6_takeTerm_2 : decode cX6_takeTerm 2 = .ok (.getfield 66, 3) := by decide +kernel
theorem dX6_takeTerm_5 : decode cX6_takeTerm 5 = .ok (.iconst 1, 1) := by decide +kernel
theorem dX6_takeTerm_6 : decode cX6_takeTerm 6 = .ok (.iadd, 1) := by decide +kernel
theorem dX6_takeTerm_7 : decode cX6_takeTerm 7 = .ok (.putfield 66, 3) := by decide +kernel
theorem dX6_takeTerm_10 : decode cX6_takeTerm 10 = .ok (.aload_n 0, 1) := by decide +kernel
theorem dX6_takeTerm_11 : decode cX6_takeTerm 11 = .ok (.getfield 66, 3) := by decide +kernel
theorem dX6_takeTerm_14 : decode cX6_takeTerm 14 = .ok (.bipush 30, 2) := by decide +kernel
theorem dX6_takeTerm_16 : decode cX6_takeTerm 16 = .ok (.if_icmp .le 10, 3) := by decide +kernel
theorem dX6_takeTerm_19 : decode cX6_takeTerm 19 = .ok (.aload_n 0, 1) := by decide +kernel
theorem dX6_takeTerm_20 : decode cX6_takeTerm 20 = .ok (.iconst 3, 1) := by decide +kernel
theorem dX6_takeTerm_21 : decode cX6_takeTerm 21 = .ok (.iload_n 3, 1) := by decide +kernel
theorem dX6_takeTerm_22 : decode cX6_takeTerm 22 = .ok (.invokevirtual 121, 3) := by decide +kernel
theorem dX6_takeTerm_25 : decode cX6_takeTerm 25 = .ok (.return_, 1) := by decide +kernel
theorem dX6_takeTerm_26 : decode cX6_takeTerm 26 = .ok (.aload_n 0, 1) := by decide +kernel
theorem dX6_takeTerm_27 : decode cX6_takeTerm 27 = .ok (.iload_n 1, 1) := by decide +kernel
theorem dX6_takeTerm_28 : decode cX6_takeTerm 28 = .ok (.iload_n 2, 1) := by decide +kernel
theorem dX6_takeTerm_29 : decode cX6_takeTerm 29 = .ok (.invokevirtual 134, 3) := by decide +kernel
theorem dX6_takeTerm_32 : decode cX6_takeTerm 32 = .ok (.pop, 1) := by decide +kernel
theorem dX6_takeTerm_33 : decode cX6_takeTerm 33 = .ok (.aload_n 0, 1) := by decide +kernel
theorem dX6_takeTerm_34 : decode cX6_takeTerm 34 = .ok (.getfield 45, 3) := by decide +kernel
theorem dX6_takeTerm_37 : decode cX6_takeTerm 37 = .ok (.iconst 1, 1) := by decide +kernel
theorem dX6_takeTerm_38 : decode cX6_takeTerm 38 = .ok (.if_icmp .eq 11, 3) := by decide +kernel
theorem dX6_takeTerm_41 : decode cX6_takeTerm 41 = .ok (.aload_n 0, 1) := by decide +kernel
theorem dX6_takeTerm_42 : decode cX6_takeTerm 42 = .ok (.getfield 45, 3) := by decide +kernel
theorem dX6_takeTerm_45 : decode cX6_takeTerm 45 = .ok (.iconst 5, 1) := by decide +kernel
theorem dX6_takeTerm_46 : decode cX6_takeTerm 46 = .ok (.if_icmp .ne 12, 3) := by decide +kernel
theorem dX6_takeTerm_49 : decode cX6_takeTerm 49 = .ok (.aload_n 0, 1) := by decide +kernel
theorem dX6_takeTerm_50 : decode cX6_takeTerm 50 = .ok (.bipush 8, 2) := by decide +kernel
theorem dX6_takeTerm_52 : decode cX6_takeTerm 52 = .ok (.putfield 45, 3) := by decide +kernel
theorem dX6_takeTerm_55 : decode cX6_takeTerm 55 = .ok (.goto 23, 3) := by decide +kernel
theorem dX6_takeTerm_58 : decode cX6_takeTerm 58 = .ok (.aload_n 0, 1) := by decide +kernel
theorem dX6_takeTerm_59 : decode cX6_takeTerm 59 = .ok (.aload_n 0, 1) := by decide +kernel
theorem dX6_takeTerm_60 : decode cX6_takeTerm 60 = .ok (.getfield 45, 3) := by decide +kernel
theorem dX6_takeTerm_63 : decode cX6_takeTerm 63 = .ok (.bipush 7, 2) := by decide +kernel
theorem dX6_takeTerm_65 : decode cX6_takeTerm 65 = .ok (.if_icmp .ne 8, 3) := by decide +kernel
theorem dX6_takeTerm_68 : decode cX6_takeTerm 68 = .ok (.bipush 10, 2) := by decide +kernel
theorem dX6_takeTerm_70 : decode cX6_takeTerm 70 = .ok (.goto 5, 3) := by decide +kernel
theorem dX6_takeTerm_73 : decode cX6_takeTerm 73 = .ok (.bipush 9, 2) := by decide +kernel
theorem dX6_takeTerm_75 : decode cX6_takeTerm 75 = .ok (.putfield 45, 3) := by decide +kernel
theorem dX6_takeTerm_78 : decode cX6_takeTerm 78 = .ok (.return_, 1) := by decide +kernel
theorem dX6_takeJoin_0 : decode cX6_takeJoin 0 = .ok (.aload_n 0, 1) := by decide +kernel
theorem dX6_takeJoin_1 : decode cX6_takeJoin 1 = .ok (.invokevirtual 118, 3) := by decide +kernel
theorem dX6_takeJoin_4 : decode cX6_takeJoin 4 = .ok (.aload_n 0, 1) := by decide +kernel
theorem dX6_takeJoin_5 : decode cX6_takeJoin 5 = .ok (.getfield 45, 3) := by decide +kernel
theorem dX6_takeJoin_8 : decode cX6_takeJoin 8 = .ok (.bipush 11, 2) := by decide +kernel
theorem dX6_takeJoin_10 : decode cX6_takeJoin 10 = .ok (.if_icmp .ne 18, 3) := by decide +kernel
theorem dX6_takeJoin_13 : decode cX6_takeJoin 13 = .ok (.aload_n 0, 1) := by decide +kernel
theorem dX6_takeJoin_14 : decode cX6_takeJoin 14 = .ok (.getfield 48, 3) := by decide +kernel
theorem dX6_takeJoin_17 : decode cX6_takeJoin 17 = .ok (.ifCond .eq 18, 3) := by decide +kernel
theorem dX6_takeJoin_20 : decode cX6_takeJoin 20 = .ok (.aload_n 0, 1) := by decide +kernel
theorem dX6_takeJoin_21 : decode cX6_takeJoin 21 = .ok (.getfield 48, 3) := by decide +kernel
theorem dX6_takeJoin_24 : decode cX6_takeJoin 24 = .ok (.iload_n 1, 1) := by decide +kernel
theorem dX6_takeJoin_25 : decode cX6_takeJoin 25 = .ok (.if_icmp .eq 10, 3) := by decide +kernel
theorem dX6_takeJoin_28 : decode cX6_takeJoin 28 = .ok (.aload_n 0, 1) := by decide +kernel
theorem dX6_takeJoin_29 : decode cX6_takeJoin 29 = .ok (.iconst 1, 1) := by decide +kernel
theorem dX6_takeJoin_30 : decode cX6_takeJoin 30 = .ok (.iload_n 2, 1) := by decide +kernel
theorem dX6_takeJoin_31 : decode cX6_takeJoin 31 = .ok (.invokevirtual 121, 3) := by decide +kernel
theorem dX6_takeJoin_34 : decode cX6_takeJoin 34 = .ok (.return_, 1) := by decide +kernel
theorem dX6_takeJoin_35 : decode cX6_takeJoin 35 = .ok (.aload_n 0, 1) := by decide +kernel
theorem dX6_takeJoin_36 : decode cX6_takeJoin 36 = .ok (.iload_n 1, 1) := by decide +kernel
theorem dX6_takeJoin_37 : decode cX6_takeJoin 37 = .ok (.putfield 48, 3) := by decide +kernel
theorem dX6_takeJoin_40 : decode cX6_takeJoin 40 = .ok (.aload_n 0, 1) := by decide +kernel
theorem dX6_takeJoin_41 : decode cX6_takeJoin 41 = .ok (.bipush 12, 2) := by decide +kernel
theorem dX6_takeJoin_43 : decode cX6_takeJoin 43 = .ok (.iload_n 1, 1) := by decide +kernel
theorem dX6_takeJoin_44 : decode cX6_takeJoin 44 = .ok (.invokevirtual 134, 3) := by decide +kernel
theorem dX6_takeJoin_47 : decode cX6_takeJoin 47 = .ok (.pop, 1) := by decide +kernel
theorem dX6_takeJoin_48 : decode cX6_takeJoin 48 = .ok (.aload_n 0, 1) := by decide +kernel
theorem dX6_takeJoin_49 : decode cX6_takeJoin 49 = .ok (.iconst 2, 1) := by decide +kernel
theorem dX6_takeJoin_50 : decode cX6_takeJoin 50 = .ok (.putfield 45, 3) := by decide +kernel
theorem dX6_takeJoin_53 : decode cX6_takeJoin 53 = .ok (.return_, 1) := by decide +kernel
theorem dX6_closeComparison_0 : decode cX6_closeComparison 0 = .ok (.aload_n 0, 1) := by decide +kernel
theorem dX6_closeComparison_1 : decode cX6_closeComparison 1 = .ok (.getfield 45, 3) := by decide +kernel
theorem dX6_closeComparison_4 : decode cX6_closeComparison 4 = .ok (.bipush 10, 2) := by decide +kernel
theorem dX6_closeComparison_6 : decode cX6_closeComparison 6 = .ok (.if_icmp .ne 17, 3) := by decide +kernel
theorem dX6_closeComparison_9 : decode cX6_closeComparison 9 = .ok (.aload_n 0, 1) := by decide +kernel
theorem dX6_closeComparison_10 : decode cX6_closeComparison 10 = .ok (.bipush 6, 2) := by decide +kernel
theorem dX6_closeComparison_12 : decode cX6_closeComparison 12 = .ok (.iconst 0, 1) := by decide +kernel
theorem dX6_closeComparison_13 : decode cX6_closeComparison 13 = .ok (.invokevirtual 134, 3) := by decide +kernel
theorem dX6_closeComparison_16 : decode cX6_closeComparison 16 = .ok (.pop, 1) := by decide +kernel
theorem dX6_closeComparison_17 : decode cX6_closeComparison 17 = .ok (.aload_n 0, 1) := by decide +kernel
theorem dX6_closeComparison_18 : decode cX6_closeComparison 18 = .ok (.bipush 11, 2) := by decide +kernel
theorem dX6_closeComparison_20 : decode cX6_closeComparison 20 = .ok (.putfield 45, 3) := by decide +kernel
theorem dX6_closeComparison_23 : decode cX6_closeComparison 23 = .ok (.return_, 1) := by decide +kernel
theorem dX6_readSign_0 : decode cX6_readSign 0 = .ok (.iload_n 1, 1) := by decide +kernel
theorem dX6_readSign_1 : decode cX6_readSign 1 = .ok (.lookupswitch 108 #[(32, 75), (43, 78), (45, 78), (58, 101), (60, 86), (61, 86), (62, 86), (125, 94)], 75) := by decide +kernel
theorem dX6_readSign_76 : decode cX6_readSign 76 = .ok (.goto 42, 3) := by decide +kernel
theorem dX6_readSign_79 : decode cX6_readSign 79 = .ok (.aload_n 0, 1) := by decide +kernel
theorem dX6_readSign_80 : decode cX6_readSign 80 = .ok (.iload_n 1, 1) := by decide +kernel
theorem dX6_readSign_81 : decode cX6_readSign 81 = .ok (.invokevirtual 226, 3) := by decide +kernel
theorem dX6_readSign_84 : decode cX6_readSign 84 = .ok (.goto 34, 3) := by decide +kernel
theorem dX6_readSign_87 : decode cX6_readSign 87 = .ok (.aload_n 0, 1) := by decide +kernel
theorem dX6_readSign_88 : decode cX6_readSign 88 = .ok (.iload_n 1, 1) := by decide +kernel
theorem dX6_readSign_89 : decode cX6_readSign 89 = .ok (.invokevirtual 229, 3) := by decide +kernel
theorem dX6_readSign_92 : decode cX6_readSign 92 = .ok (.goto 26, 3) := by decide +kernel
theorem dX6_readSign_95 : decode cX6_readSign 95 = .ok (.aload_n 0, 1) := by decide +kernel
theorem dX6_readSign_96 : decode cX6_readSign 96 = .ok (.invokevirtual 232, 3) := by decide +kernel
theorem dX6_readSign_99 : decode cX6_readSign 99 = .ok (.goto 19, 3) := by decide +kernel
theorem dX6_readSign_102 : decode cX6_readSign 102 = .ok (.aload_n 0, 1) := by decide +kernel
theorem dX6_readSign_103 : decode cX6_readSign 103 = .ok (.invokevirtual 235, 3) := by decide +kernel
theorem dX6_readSign_106 : decode cX6_readSign 106 = .ok (.goto 12, 3) := by decide +kernel
theorem dX6_readSign_109 : decode cX6_readSign 109 = .ok (.aload_n 0, 1) := by decide +kernel
theorem dX6_readSign_110 : decode cX6_readSign 110 = .ok (.iconst 1, 1) := by decide +kernel
theorem dX6_readSign_111 : decode cX6_readSign 111 = .ok (.aload_n 0, 1) := by decide +kernel
theorem dX6_readSign_112 : decode cX6_readSign 112 = .ok (.getfield 42, 3) := by decide +kernel
theorem dX6_readSign_115 : decode cX6_readSign 115 = .ok (.invokevirtual 121, 3) := by decide +kernel
theorem dX6_readSign_118 : decode cX6_readSign 118 = .ok (.aload_n 0, 1) := by decide +kernel
theorem dX6_readSign_119 : decode cX6_readSign 119 = .ok (.dup, 1) := by decide +kernel
theorem dX6_readSign_120 : decode cX6_readSign 120 = .ok (.getfield 42, 3) := by decide +kernel
theorem dX6_readSign_123 : decode cX6_readSign 123 = .ok (.iconst 1, 1) := by decide +kernel
theorem dX6_readSign_124 : decode cX6_readSign 124 = .ok (.iadd, 1) := by decide +kernel
theorem dX6_readSign_125 : decode cX6_readSign 125 = .ok (.putfield 42, 3) := by decide +kernel
theorem dX6_readSign_128 : decode cX6_readSign 128 = .ok (.return_, 1) := by decide +kernel
theorem dX6_goOnAdding_0 : decode cX6_goOnAdding 0 = .ok (.aload_n 0, 1) := by decide +kernel
theorem dX6_goOnAdding_1 : decode cX6_goOnAdding 1 = .ok (.getfield 45, 3) := by decide +kernel
theorem dX6_goOnAdding_4 : decode cX6_goOnAdding 4 = .ok (.bipush 8, 2) := by decide +kernel
theorem dX6_goOnAdding_6 : decode cX6_goOnAdding 6 = .ok (.bipush 10, 2) := by decide +kernel
theorem dX6_goOnAdding_8 : decode cX6_goOnAdding 8 = .ok (.invokestatic 72, 3) := by decide +kernel
theorem dX6_goOnAdding_11 : decode cX6_goOnAdding 11 = .ok (.ifCond .ne 13, 3) := by decide +kernel
theorem dX6_goOnAdding_14 : decode cX6_goOnAdding 14 = .ok (.aload_n 0, 1) := by decide +kernel
theorem dX6_goOnAdding_15 : decode cX6_goOnAdding 15 = .ok (.iconst 1, 1) := by decide +kernel
theorem dX6_goOnAdding_16 : decode cX6_goOnAdding 16 = .ok (.aload_n 0, 1) := by decide +kernel
theorem dX6_goOnAdding_17 : decode cX6_goOnAdding 17 = .ok (.getfield 42, 3) := by decide +kernel
theorem dX6_goOnAdding_20 : decode cX6_goOnAdding 20 = .ok (.invokevirtual 121, 3) := by decide +kernel
theorem dX6_goOnAdding_23 : decode cX6_goOnAdding 23 = .ok (.return_, 1) := by decide +kernel
theorem dX6_goOnAdding_24 : decode cX6_goOnAdding 24 = .ok (.iload_n 1, 1) := by decide +kernel
theorem dX6_goOnAdding_25 : decode cX6_goOnAdding 25 = .ok (.bipush 45, 2) := by decide +kernel
theorem dX6_goOnAdding_27 : decode cX6_goOnAdding 27 = .ok (.if_icmp .ne 10, 3) := by decide +kernel
theorem dX6_goOnAdding_30 : decode cX6_goOnAdding 30 = .ok (.aload_n 0, 1) := by decide +kernel
theorem dX6_goOnAdding_31 : decode cX6_goOnAdding 31 = .ok (.iconst 3, 1) := by decide +kernel
theorem dX6_goOnAdding_32 : decode cX6_goOnAdding 32 = .ok (.iconst 0, 1) := by decide +kernel
theorem dX6_goOnAdding_33 : decode cX6_goOnAdding 33 = .ok (.invokevirtual 134, 3) := by decide +kernel
theorem dX6_goOnAdding_36 : decode cX6_goOnAdding 36 = .ok (.pop, 1) := by decide +kernel
theorem dX6_goOnAdding_37 : decode cX6_goOnAdding 37 = .ok (.aload_n 0, 1) := by decide +kernel
theorem dX6_goOnAdding_38 : decode cX6_goOnAdding 38 = .ok (.aload_n 0, 1) := by decide +kernel
theorem dX6_goOnAdding_39 : decode cX6_goOnAdding 39 = .ok (.getfield 45, 3) := by decide +kernel
theorem dX6_goOnAdding_42 : decode cX6_goOnAdding 42 = .ok (.bipush 8, 2) := by decide +kernel
theorem dX6_goOnAdding_44 : decode cX6_goOnAdding 44 = .ok (.isub, 1) := by decide +kernel
theorem dX6_goOnAdding_45 : decode cX6_goOnAdding 45 = .ok (.iconst 5, 1) := by decide +kernel
theorem dX6_goOnAdding_46 : decode cX6_goOnAdding 46 = .ok (.iadd, 1) := by decide +kernel
theorem dX6_goOnAdding_47 : decode cX6_goOnAdding 47 = .ok (.putfield 45, 3) := by decide +kernel
theorem dX6_goOnAdding_50 : decode cX6_goOnAdding 50 = .ok (.return_, 1) := by decide +kernel
theorem dX6_relate_0 : decode cX6_relate 0 = .ok (.aload_n 0, 1) := by decide +kernel
theorem dX6_relate_1 : decode cX6_relate 1 = .ok (.getfield 45, 3) := by decide +kernel
theorem dX6_relate_4 : decode cX6_relate 4 = .ok (.bipush 9, 2) := by decide +kernel
theorem dX6_relate_6 : decode cX6_relate 6 = .ok (.if_icmp .eq 13, 3) := by decide +kernel
theorem dX6_relate_9 : decode cX6_relate 9 = .ok (.aload_n 0, 1) := by decide +kernel
theorem dX6_relate_10 : decode cX6_relate 10 = .ok (.iconst 1, 1) := by decide +kernel
theorem dX6_relate_11 : decode cX6_relate 11 = .ok (.aload_n 0, 1) := by decide +kernel
theorem dX6_relate_12 : decode cX6_relate 12 = .ok (.getfield 42, 3) := by decide +kernel
theorem dX6_relate_15 : decode cX6_relate 15 = .ok (.invokevirtual 121, 3) := by decide +kernel
theorem dX6_relate_18 : decode cX6_relate 18 = .ok (.return_, 1) := by decide +kernel
theorem dX6_relate_19 : decode cX6_relate 19 = .ok (.aload_n 0, 1) := by decide +kernel
theorem dX6_relate_20 : decode cX6_relate 20 = .ok (.iconst 5, 1) := by decide +kernel
theorem dX6_relate_21 : decode cX6_relate 21 = .ok (.iload_n 1, 1) := by decide +kernel
theorem dX6_relate_22 : decode cX6_relate 22 = .ok (.invokevirtual 134, 3) := by decide +kernel
theorem dX6_relate_25 : decode cX6_relate 25 = .ok (.pop, 1) := by decide +kernel
theorem dX6_relate_26 : decode cX6_relate 26 = .ok (.aload_n 0, 1) := by decide +kernel
theorem dX6_relate_27 : decode cX6_relate 27 = .ok (.bipush 7, 2) := by decide +kernel
theorem dX6_relate_29 : decode cX6_relate 29 = .ok (.putfield 45, 3) := by decide +kernel
theorem dX6_relate_32 : decode cX6_relate 32 = .ok (.return_, 1) := by decide +kernel
theorem dX6_closeSum_0 : decode cX6_closeSum 0 = .ok (.aload_n 0, 1) := by decide +kernel
theorem dX6_closeSum_1 : decode cX6_closeSum 1 = .ok (.getfield 45, 3) := by decide +kernel
theorem dX6_closeSum_4 : decode cX6_closeSum 4 = .ok (.bipush 8, 2) := by decide +kernel
theorem dX6_closeSum_6 : decode cX6_closeSum 6 = .ok (.if_icmp .eq 13, 3) := by decide +kernel
theorem dX6_closeSum_9 : decode cX6_closeSum 9 = .ok (.aload_n 0, 1) := by decide +kernel
theorem dX6_closeSum_10 : decode cX6_closeSum 10 = .ok (.iconst 1, 1) := by decide +kernel
theorem dX6_closeSum_11 : decode cX6_closeSum 11 = .ok (.aload_n 0, 1) := by decide +kernel
theorem dX6_closeSum_12 : decode cX6_closeSum 12 = .ok (.getfield 42, 3) := by decide +kernel
theorem dX6_closeSum_15 : decode cX6_closeSum 15 = .ok (.invokevirtual 121, 3) := by decide +kernel
theorem dX6_closeSum_18 : decode cX6_closeSum 18 = .ok (.return_, 1) := by decide +kernel
theorem dX6_closeSum_19 : decode cX6_closeSum 19 = .ok (.aload_n 0, 1) := by decide +kernel
theorem dX6_closeSum_20 : decode cX6_closeSum 20 = .ok (.iconst 4, 1) := by decide +kernel
theorem dX6_closeSum_21 : decode cX6_closeSum 21 = .ok (.iconst 0, 1) := by decide +kernel
theorem dX6_closeSum_22 : decode cX6_closeSum 22 = .ok (.invokevirtual 134, 3) := by decide +kernel
theorem dX6_closeSum_25 : decode cX6_closeSum 25 = .ok (.pop, 1) := by decide +kernel
theorem dX6_closeSum_26 : decode cX6_closeSum 26 = .ok (.aload_n 0, 1) := by decide +kernel
theorem dX6_closeSum_27 : decode cX6_closeSum 27 = .ok (.iconst 0, 1) := by decide +kernel
theorem dX6_closeSum_28 : decode cX6_closeSum 28 = .ok (.putfield 45, 3) := by decide +kernel
theorem dX6_closeSum_31 : decode cX6_closeSum 31 = .ok (.return_, 1) := by decide +kernel
theorem dX6_enterIf_0 : decode cX6_enterIf 0 = .ok (.aload_n 0, 1) := by decide +kernel
theorem dX6_enterIf_1 : decode cX6_enterIf 1 = .ok (.invokevirtual 118, 3) := by decide +kernel
theorem dX6_enterIf_4 : decode cX6_enterIf 4 = .ok (.aload_n 0, 1) := by decide +kernel
theorem dX6_enterIf_5 : decode cX6_enterIf 5 = .ok (.getfield 45, 3) := by decide +kernel
theorem dX6_enterIf_8 : decode cX6_enterIf 8 = .ok (.bipush 11, 2) := by decide +kernel
theorem dX6_enterIf_10 : decode cX6_enterIf 10 = .ok (.if_icmp .ne 18, 3) := by decide +kernel
theorem dX6_enterIf_13 : decode cX6_enterIf 13 = .ok (.aload_n 0, 1) := by decide +kernel
theorem dX6_enterIf_14 : decode cX6_enterIf 14 = .ok (.getfield 35, 3) := by decide +kernel
theorem dX6_enterIf_17 : decode cX6_enterIf 17 = .ok (.ifCond .ne 11, 3) := by decide +kernel
theorem dX6_enterIf_20 : decode cX6_enterIf 20 = .ok (.aload_n 0, 1) := by decide +kernel
theorem dX6_enterIf_21 : decode cX6_enterIf 21 = .ok (.getfield 57, 3) := by decide +kernel
theorem dX6_enterIf_24 : decode cX6_enterIf 24 = .ok (.iconst 5, 1) := by decide +kernel
theorem dX6_enterIf_25 : decode cX6_enterIf 25 = .ok (.if_icmp .lt 13, 3) := by decide +kernel
theorem dX6_enterIf_28 : decode cX6_enterIf 28 = .ok (.aload_n 0, 1) := by decide +kernel
theorem dX6_enterIf_29 : decode cX6_enterIf 29 = .ok (.iconst 1, 1) := by decide +kernel
theorem dX6_enterIf_30 : decode cX6_enterIf 30 = .ok (.aload_n 0, 1) := by decide +kernel
theorem dX6_enterIf_31 : decode cX6_enterIf 31 = .ok (.getfield 42, 3) := by decide +kernel
theorem dX6_enterIf_34 : decode cX6_enterIf 34 = .ok (.invokevirtual 121, 3) := by decide +kernel
theorem dX6_enterIf_37 : decode cX6_enterIf 37 = .ok (.return_, 1) := by decide +kernel
theorem dX6_enterIf_38 : decode cX6_enterIf 38 = .ok (.aload_n 0, 1) := by decide +kernel
theorem dX6_enterIf_39 : decode cX6_enterIf 39 = .ok (.getfield 29, 3) := by decide +kernel
theorem dX6_enterIf_42 : decode cX6_enterIf 42 = .ok (.aload_n 0, 1) := by decide +kernel
theorem dX6_enterIf_43 : decode cX6_enterIf 43 = .ok (.getfield 57, 3) := by decide +kernel
theorem dX6_enterIf_46 : decode cX6_enterIf 46 = .ok (.aload_n 0, 1) := by decide +kernel
theorem dX6_enterIf_47 : decode cX6_enterIf 47 = .ok (.bipush 13, 2) := by decide +kernel
theorem dX6_enterIf_49 : decode cX6_enterIf 49 = .ok (.iconst 0, 1) := by decide +kernel
theorem dX6_enterIf_50 : decode cX6_enterIf 50 = .ok (.invokevirtual 134, 3) := by decide +kernel
theorem dX6_enterIf_53 : decode cX6_enterIf 53 = .ok (.iastore, 1) := by decide +kernel
theorem dX6_enterIf_54 : decode cX6_enterIf 54 = .ok (.aload_n 0, 1) := by decide +kernel
theorem dX6_enterIf_55 : decode cX6_enterIf 55 = .ok (.dup, 1) := by decide +kernel
theorem dX6_enterIf_56 : decode cX6_enterIf 56 = .ok (.getfield 57, 3) := by decide +kernel
theorem dX6_enterIf_59 : decode cX6_enterIf 59 = .ok (.iconst 1, 1) := by decide +kernel
theorem dX6_enterIf_60 : decode cX6_enterIf 60 = .ok (.iadd, 1) := by decide +kernel
theorem dX6_enterIf_61 : decode cX6_enterIf 61 = .ok (.putfield 57, 3) := by decide +kernel
theorem dX6_enterIf_64 : decode cX6_enterIf 64 = .ok (.aload_n 0, 1) := by decide +kernel
theorem dX6_enterIf_65 : decode cX6_enterIf 65 = .ok (.iconst 0, 1) := by decide +kernel
theorem dX6_enterIf_66 : decode cX6_enterIf 66 = .ok (.putfield 51, 3) := by decide +kernel
theorem dX6_enterIf_69 : decode cX6_enterIf 69 = .ok (.aload_n 0, 1) := by decide +kernel
theorem dX6_enterIf_70 : decode cX6_enterIf 70 = .ok (.iconst 0, 1) := by decide +kernel
theorem dX6_enterIf_71 : decode cX6_enterIf 71 = .ok (.putfield 45, 3) := by decide +kernel
theorem dX6_enterIf_74 : decode cX6_enterIf 74 = .ok (.return_, 1) := by decide +kernel
