theorem dX7_wipe_12 : decode cX7_wipe 12 = .ok (.iconst 0, 1) := by decide +kernel
theorem dX7_wipe_13 : decode cX7_wipe 13 = .ok (.putfield 69, 3) := by decide +kernel
theorem dX7_wipe_16 : decode cX7_wipe 16 = .ok (.iload_n 1, 1) := by decide +kernel
theorem dX7_wipe_17 : decode cX7_wipe 17 = .ok (.ireturn, 1) := by decide +kernel
theorem dX7_fault_0 : decode cX7_fault 0 = .ok (.aload_n 0, 1) := by decide +kernel
theorem dX7_fault_1 : decode cX7_fault 1 = .ok (.getfield 10, 3) := by decide +kernel
theorem dX7_fault_4 : decode cX7_fault 4 = .ok (.aload_n 0, 1) := by decide +kernel
theorem dX7_fault_5 : decode cX7_fault 5 = .ok (.getfield 19, 3) := by decide +kernel
theorem dX7_fault_8 : decode cX7_fault 8 = .ok (.invokevirtual 73, 3) := by decide +kernel
theorem dX7_fault_11 : decode cX7_fault 11 = .ok (.ireturn, 1) := by decide +kernel
theorem dX7_well_0 : decode cX7_well 0 = .ok (.aload_n 0, 1) := by decide +kernel
theorem dX7_well_1 : decode cX7_well 1 = .ok (.getfield 10, 3) := by decide +kernel
theorem dX7_well_4 : decode cX7_well 4 = .ok (.aload_n 0, 1) := by decide +kernel
theorem dX7_well_5 : decode cX7_well 5 = .ok (.getfield 19, 3) := by decide +kernel
theorem dX7_well_8 : decode cX7_well 8 = .ok (.invokevirtual 73, 3) := by decide +kernel
theorem dX7_well_11 : decode cX7_well 11 = .ok (.bipush (-9), 2) := by decide +kernel
theorem dX7_well_13 : decode cX7_well 13 = .ok (.if_icmp .eq 6, 3) := by decide +kernel
theorem dX7_well_16 : decode cX7_well 16 = .ok (.bipush (-3), 2) := by decide +kernel
theorem dX7_well_18 : decode cX7_well 18 = .ok (.ireturn, 1) := by decide +kernel
theorem dX7_well_19 : decode cX7_well 19 = .ok (.aload_n 0, 1) := by decide +kernel
theorem dX7_well_20 : decode cX7_well 20 = .ok (.getfield 10, 3) := by decide +kernel
theorem dX7_well_23 : decode cX7_well 23 = .ok (.aload_n 0, 1) := by decide +kernel
theorem dX7_well_24 : decode cX7_well 24 = .ok (.getfield 23, 3) := by decide +kernel
theorem dX7_well_27 : decode cX7_well 27 = .ok (.invokevirtual 73, 3) := by decide +kernel
theorem dX7_well_30 : decode cX7_well 30 = .ok (.pop, 1) := by decide +kernel
theorem dX7_well_31 : decode cX7_well 31 = .ok (.aload_n 0, 1) := by decide +kernel
theorem dX7_well_32 : decode cX7_well 32 = .ok (.getfield 31, 3) := by decide +kernel
theorem dX7_well_35 : decode cX7_well 35 = .ok (.invokevirtual 77, 3) := by decide +kernel
theorem dX7_well_38 : decode cX7_well 38 = .ok (.aload_n 0, 1) := by decide +kernel
theorem dX7_well_39 : decode cX7_well 39 = .ok (.getfield 41, 3) := by decide +kernel
theorem dX7_well_42 : decode cX7_well 42 = .ok (.iconst 0, 1) := by decide +kernel
theorem dX7_well_43 : decode cX7_well 43 = .ok (.putfield 80, 3) := by decide +kernel
theorem dX7_well_46 : decode cX7_well 46 = .ok (.aload_n 0, 1) := by decide +kernel
theorem dX7_well_47 : decode cX7_well 47 = .ok (.iconst 0, 1) := by decide +kernel
theorem dX7_well_48 : decode cX7_well 48 = .ok (.putfield 83, 3) := by decide +kernel
theorem dX7_well_51 : decode cX7_well 51 = .ok (.bipush 100, 2) := by decide +kernel
theorem dX7_well_53 : decode cX7_well 53 = .ok (.aload_n 0, 1) := by decide +kernel
theorem dX7_well_54 : decode cX7_well 54 = .ok (.getfield 23, 3) := by decide +kernel
theorem dX7_well_57 : decode cX7_well 57 = .ok (.getfield 86, 3) := by decide +kernel
theorem dX7_well_60 : decode cX7_well 60 = .ok (.imul, 1) := by decide +kernel
theorem dX7_well_61 : decode cX7_well 61 = .ok (.bipush 10, 2) := by decide +kernel
theorem dX7_well_63 : decode cX7_well 63 = .ok (.aload_n 0, 1) := by decide +kernel
theorem dX7_well_64 : decode cX7_well 64 = .ok (.getfield 23, 3) := by decide +kernel
theorem dX7_well_67 : decode cX7_well 67 = .ok (.getfield 89, 3) := by decide +kernel
theorem dX7_well_70 : decode cX7_well 70 = .ok (.imul, 1) := by decide +kernel
theorem dX7_well_71 : decode cX7_well 71 = .ok (.iadd, 1) := by decide +kernel
theorem dX7_well_72 : decode cX7_well 72 = .ok (.aload_n 0, 1) := by decide +kernel
theorem dX7_well_73 : decode cX7_well 73 = .ok (.getfield 23, 3) := by decide +kernel
theorem dX7_well_76 : decode cX7_well 76 = .ok (.getfield 92, 3) := by decide +kernel
theorem dX7_well_79 : decode cX7_well 79 = .ok (.iadd, 1) := by decide +kernel
theorem dX7_well_80 : decode cX7_well 80 = .ok (.ireturn, 1) := by decide +kernel
theorem dX7_about_0 : decode cX7_about 0 = .ok (.iload_n 1, 1) := by decide +kernel
theorem dX7_about_1 : decode cX7_about 1 = .ok (.tableswitch 135 0 9 #[55, 63, 71, 79, 87, 95, 103, 111, 119, 127], 55) := by decide +kernel
theorem dX7_about_56 : decode cX7_about 56 = .ok (.aload_n 0, 1) := by decide +kernel
theorem dX7_about_57 : decode cX7_about 57 = .ok (.getfield 23, 3) := by decide +kernel
theorem dX7_about_60 : decode cX7_about 60 = .ok (.getfield 86, 3) := by decide +kernel
theorem dX7_about_63 : decode cX7_about 63 = .ok (.ireturn, 1) := by decide +kernel
theorem dX7_about_64 : decode cX7_about 64 = .ok (.aload_n 0, 1) := by decide +kernel
theorem dX7_about_65 : decode cX7_about 65 = .ok (.getfield 23, 3) := by decide +kernel
theorem dX7_about_68 : decode cX7_about 68 = .ok (.getfield 89, 3) := by decide +kernel
theorem dX7_about_71 : decode cX7_about 71 = .ok (.ireturn, 1) := by decide +kernel
theorem dX7_about_72 : decode cX7_about 72 = .ok (.aload_n 0, 1) := by decide +kernel
theorem dX7_about_73 : decode cX7_about 73 = .ok (.getfield 23, 3) := by decide +kernel
theorem dX7_about_76 : decode cX7_about 76 = .ok (.getfield 92, 3) := by decide +kernel
theorem dX7_about_79 : decode cX7_about 79 = .ok (.ireturn, 1) := by decide +kernel
theorem dX7_about_80 : decode cX7_about 80 = .ok (.aload_n 0, 1) := by decide +kernel
theorem dX7_about_81 : decode cX7_about 81 = .ok (.getfield 31, 3) := by decide +kernel
theorem dX7_about_84 : decode cX7_about 84 = .ok (.getfield 95, 3) := by decide +kernel
theorem dX7_about_87 : decode cX7_about 87 = .ok (.ireturn, 1) := by decide +kernel
theorem dX7_about_88 : decode cX7_about 88 = .ok (.aload_n 0, 1) := by decide +kernel
theorem dX7_about_89 : decode cX7_about 89 = .ok (.getfield 31, 3) := by decide +kernel
theorem dX7_about_92 : decode cX7_about 92 = .ok (.getfield 98, 3) := by decide +kernel
theorem dX7_about_95 : decode cX7_about 95 = .ok (.ireturn, 1) := by decide +kernel
theorem dX7_about_96 : decode cX7_about 96 = .ok (.aload_n 0, 1) := by decide +kernel
theorem dX7_about_97 : decode cX7_about 97 = .ok (.getfield 31, 3) := by decide +kernel
theorem dX7_about_100 : decode cX7_about 100 = .ok (.getfield 101, 3) := by decide +kernel
theorem dX7_about_103 : decode cX7_about 103 = .ok (.ireturn, 1) := by decide +kernel
theorem dX7_about_104 : decode cX7_about 104 = .ok (.aload_n 0, 1) := by decide +kernel
theorem dX7_about_105 : decode cX7_about 105 = .ok (.getfield 31, 3) := by decide +kernel
theorem dX7_about_108 : decode cX7_about 108 = .ok (.invokevirtual 104, 3) := by decide +kernel
theorem dX7_about_111 : decode cX7_about 111 = .ok (.ireturn, 1) := by decide +kernel
theorem dX7_about_112 : decode cX7_about 112 = .ok (.aload_n 0, 1) := by decide +kernel
theorem dX7_about_113 : decode cX7_about 113 = .ok (.getfield 41, 3) := by decide +kernel
theorem dX7_about_116 : decode cX7_about 116 = .ok (.getfield 80, 3) := by decide +kernel
theorem dX7_about_119 : decode cX7_about 119 = .ok (.ireturn, 1) := by decide +kernel
theorem dX7_about_120 : decode cX7_about 120 = .ok (.aload_n 0, 1) := by decide +kernel
theorem dX7_about_121 : decode cX7_about 121 = .ok (.getfield 57, 3) := by decide +kernel
theorem dX7_about_124 : decode cX7_about 124 = .ok (.getfield 108, 3) := by decide +kernel
theorem dX7_about_127 : decode cX7_about 127 = .ok (.ireturn, 1) := by decide +kernel
theorem dX7_about_128 : decode cX7_about 128 = .ok (.aload_n 0, 1) := by decide +kernel
theorem dX7_about_129 : decode cX7_about 129 = .ok (.getfield 10, 3) := by decide +kernel
theorem dX7_about_132 : decode cX7_about 132 = .ok (.getfield 69, 3) := by decide +kernel
theorem dX7_about_135 : decode cX7_about 135 = .ok (.ireturn, 1) := by decide +kernel
theorem dX7_about_136 : decode cX7_about 136 = .ok (.bipush (-2), 2) := by decide +kernel
theorem dX7_about_138 : decode cX7_about 138 = .ok (.ireturn, 1) := by decide +kernel
theorem dX7_thing_0 : decode cX7_thing 0 = .ok (.iload_n 1, 1) := by decide +kernel
theorem dX7_thing_1 : decode cX7_thing 1 = .ok (.ifCond .lt 14, 3) := by decide +kernel
theorem dX7_thing_4 : decode cX7_thing 4 = .ok (.iload_n 1, 1) := by decide +kernel
theorem dX7_thing_5 : decode cX7_thing 5 = .ok (.aload_n 0, 1) := by decide +kernel
theorem dX7_thing_6 : decode cX7_thing 6 = .ok (.getfield 23, 3) := by decide +kernel
theorem dX7_thing_9 : decode cX7_thing 9 = .ok (.getfield 86, 3) := by decide +kernel
theorem dX7_thing_12 : decode cX7_thing 12 = .ok (.if_icmp .lt 5, 3) := by decide +kernel
theorem dX7_thing_15 : decode cX7_thing 15 = .ok (.iconst (-1), 1) := by decide +kernel
theorem dX7_thing_16 : decode cX7_thing 16 = .ok (.ireturn, 1) := by decide +kernel
theorem dX7_thing_17 : decode cX7_thing 17 = .ok (.iload_n 2, 1) := by decide +kernel
theorem dX7_thing_18 : decode cX7_thing 18 = .ok (.tableswitch 83 0 4 #[34, 44, 54, 64, 74], 34) := by decide +kernel
theorem dX7_thing_52 : decode cX7_thing 52 = .ok (.aload_n 0, 1) := by decide +kernel
theorem dX7_thing_53 : decode cX7_thing 53 = .ok (.getfield 23, 3) := by decide +kernel
theorem dX7_thing_56 : decode cX7_thing 56 = .ok (.getfield 109, 3) := by decide +kernel
theorem dX7_thing_59 : decode cX7_thing 59 = .ok (.iload_n 1, 1) := by decide +kernel
theorem dX7_thing_60 : decode cX7_thing 60 = .ok (.iaload, 1) := by decide +kernel
theorem dX7_thing_61 : decode cX7_thing 61 = .ok (.ireturn, 1) := by decide +kernel
theorem dX7_thing_62 : decode cX7_thing 62 = .ok (.aload_n 0, 1) := by decide +kernel
theorem dX7_thing_63 : decode cX7_thing 63 = .ok (.getfield 23, 3) := by decide +kernel
theorem dX7_thing_66 : decode cX7_thing 66 = .ok (.getfield 113, 3) := by decide +kernel
theorem dX7_thing_69 : decode cX7_thing 69 = .ok (.iload_n 1, 1) := by decide +kernel
theorem dX7_thing_70 : decode cX7_thing 70 = .ok (.iaload, 1) := by decide +kernel
theorem dX7_thing_71 : decode cX7_thing 71 = .ok (.ireturn, 1) := by decide +kernel
theorem dX7_thing_72 : decode cX7_thing 72 = .ok (.aload_n 0, 1) := by decide +kernel
theorem dX7_thing_73 : decode cX7_thing 73 = .ok (.getfield 23, 3) := by decide +kernel
theorem dX7_thing_76 : decode cX7_thing 76 = .ok (.getfield 116, 3) := by decide +kernel
theorem dX7_thing_79 : decode cX7_thing 79 = .ok (.iload_n 1, 1) := by decide +kernel
theorem dX7_thing_80 : decode cX7_thing 80 = .ok (.iaload, 1) := by decide +kernel
theorem dX7_thing_81 : decode cX7_thing 81 = .ok (.ireturn, 1) := by decide +kernel
theorem dX7_thing_82 : decode cX7_thing 82 = .ok (.aload_n 0, 1) := by decide +kernel
theorem dX7_thing_83 : decode cX7_thing 83 = .ok (.getfield 31, 3) := by decide +kernel
theorem dX7_thing_86 : decode cX7_thing 86 = .ok (.getfield 119, 3) := by decide +kernel
theorem dX7_thing_89 : decode cX7_thing 89 = .ok (.iload_n 1, 1) := by decide +kernel
theorem dX7_thing_90 : decode cX7_thing 90 = .ok (.iaload, 1) := by decide +kernel
theorem dX7_thing_91 : decode cX7_thing 91 = .ok (.ireturn, 1) := by decide +kernel
theorem dX7_thing_92 : decode cX7_thing 92 = .ok (.aload_n 0, 1) := by decide +kernel
theorem dX7_thing_93 : decode cX7_thing 93 = .ok (.getfield 31, 3) := by decide +kernel
theorem dX7_thing_96 : decode cX7_thing 96 = .ok (.iload_n 1, 1) := by decide +kernel
theorem dX7_thing_97 : decode cX7_thing 97 = .ok (.invokevirtual 122, 3) := by decide +kernel
theorem dX7_thing_100 : decode cX7_thing 100 = .ok (.ireturn, 1) := by decide +kernel
theorem dX7_thing_101 : decode cX7_thing 101 = .ok (.bipush (-2), 2) := by decide +kernel
theorem dX7_thing_103 : decode cX7_thing 103 = .ok (.ireturn, 1) := by decide +kernel
theorem dX7_question_0 : decode cX7_question 0 = .ok (.iload_n 1, 1) := by decide +kernel
theorem dX7_question_1 : decode cX7_question 1 = .ok (.ifCond .lt 14, 3) := by decide +kernel
theorem dX7_question_4 : decode cX7_question 4 = .ok (.iload_n 1, 1) := by decide +kernel
theorem dX7_question_5 : decode cX7_question 5 = .ok (.aload_n 0, 1) := by decide +kernel
theorem dX7_question_6 : decode cX7_question 6 = .ok (.getfield 23, 3) := by decide +kernel
theorem dX7_question_9 : decode cX7_question 9 = .ok (.getfield 89, 3) := by decide +kernel
theorem dX7_question_12 : decode cX7_question 12 = .ok (.if_icmp .lt 5, 3) := by decide +kernel
theorem dX7_question_15 : decode cX7_question 15 = .ok (.iconst (-1), 1) := by decide +kernel
theorem dX7_question_16 : decode cX7_question 16 = .ok (.ireturn, 1) := by decide +kernel
theorem dX7_question_17 : decode cX7_question 17 = .ok (.iload_n 2, 1) := by decide +kernel
theorem dX7_question_18 : decode cX7_question 18 = .ok (.tableswitch 85 0 3 #[30, 40, 50, 60], 30) := by decide +kernel
theorem dX7_question_48 : decode cX7_question 48 = .ok (.aload_n 0, 1) := by decide +kernel
theorem dX7_question_49 : decode cX7_question 49 = .ok (.getfield 23, 3) := by decide +kernel
theorem dX7_question_52 : decode cX7_question 52 = .ok (.getfield 126, 3) := by decide +kernel
theorem dX7_question_55 : decode cX7_question 55 = .ok (.iload_n 1, 1) := by decide +kernel
theorem dX7_question_56 : decode cX7_question 56 = .ok (.iaload, 1) := by decide +kernel
theorem dX7_question_57 : decode cX7_question 57 = .ok (.ireturn, 1) := by decide +kernel
theorem dX7_question_58 : decode cX7_question 58 = .ok (.aload_n 0, 1) := by decide +kernel
theorem dX7_question_59 : decode cX7_question 59 = .ok (.getfield 23, 3) := by decide +kernel
theorem dX7_question_62 : decode cX7_question 62 = .ok (.getfield 129, 3) := by decide +kernel
theorem dX7_question_65 : decode cX7_question 65 = .ok (.iload_n 1, 1) := by decide +kernel
theorem dX7_question_66 : decode cX7_question 66 = .ok (.iaload, 1) := by decide +kernel
theorem dX7_question_67 : decode cX7_question 67 = .ok (.ireturn, 1) := by decide +kernel
theorem dX7_question_68 : decode cX7_question 68 = .ok (.aload_n 0, 1) := by decide +kernel
theorem dX7_question_69 : decode cX7_question 69 = .ok (.getfield 23, 3) := by decide +kernel
theorem dX7_question_72 : decode cX7_question 72 = .ok (.getfield 132, 3) := by decide +kernel
theorem dX7_question_75 : decode cX7_question 75 = .ok (.iload_n 1, 1) := by decide +kernel
theorem dX7_question_76 : decode cX7_question 76 = .ok (.iaload, 1) := by decide +kernel
theorem dX7_question_77 : decode cX7_question 77 = .ok (.ireturn, 1) := by decide +kernel
theorem dX7_question_78 : decode cX7_question 78 = .ok (.aload_n 0, 1) := by decide +kernel
theorem dX7_question_79 : decode cX7_question 79 = .ok (.getfield 31, 3) := by decide +kernel
theorem dX7_question_82 : decode cX7_question 82 = .ok (.iload_n 1, 1) := by decide +kernel
theorem dX7_question_83 : decode cX7_question 83 = .ok (.invokevirtual 135, 3) := by decide +kernel
theorem dX7_question_86 : decode cX7_question 86 = .ok (.ifCond .eq 14, 3) := by decide +kernel
theorem dX7_question_89 : decode cX7_question 89 = .ok (.aload_n 0, 1) := by decide +kernel
theorem dX7_question_90 : decode cX7_question 90 = .ok (.getfield 23, 3) := by decide +kernel
theorem dX7_question_93 : decode cX7_question 93 = .ok (.iload_n 1, 1) := by decide +kernel
theorem dX7_question_94 : decode cX7_question 94 = .ok (.invokevirtual 138, 3) := by decide +kernel
theorem dX7_question_97 : decode cX7_question 97 = .ok (.goto 5, 3) := by decide +kernel
theorem dX7_question_100 : decode cX7_question 100 = .ok (.bipush (-9), 2) := by decide +kernel
theorem dX7_question_102 : decode cX7_question 102 = .ok (.ireturn, 1) := by decide +kernel
theorem dX7_question_103 : decode cX7_question 103 = .ok (.bipush (-2), 2) := by decide +kernel
theorem dX7_question_105 : decode cX7_question 105 = .ok (.ireturn, 1) := by decide +kernel
theorem dX7_deed_0 : decode cX7_deed 0 = .ok (.iload_n 1, 1) := by decide +kernel
theorem dX7_deed_1 : decode cX7_deed 1 = .ok (.ifCond .lt 14, 3) := by decide +kernel
theorem dX7_deed_4 : decode cX7_deed 4 = .ok (.iload_n 1, 1) := by decide +kernel
theorem dX7_deed_5 : decode cX7_deed 5 = .ok (.aload_n 0, 1) := by decide +kernel
theorem dX7_deed_6 : decode cX7_deed 6 = .ok (.getfield 23, 3) := by decide +kernel
theorem dX7_deed_9 : decode cX7_deed 9 = .ok (.getfield 92, 3) := by decide +kernel
theorem dX7_deed_12 : decode cX7_deed 12 = .ok (.if_icmp .lt 5, 3) := by decide +kernel
theorem dX7_deed_15 : decode cX7_deed 15 = .ok (.iconst (-1), 1) := by decide +kernel
theorem dX7_deed_16 : decode cX7_deed 16 = .ok (.ireturn, 1) := by decide +kernel
theorem dX7_deed_17 : decode cX7_deed 17 = .ok (.iload_n 2, 1) := by decide +kernel
theorem dX7_deed_18 : decode cX7_deed 18 = .ok (.tableswitch 105 0 5 #[38, 48, 58, 68, 78, 88], 38) := by decide +kernel
theorem dX7_deed_56 : decode cX7_deed 56 = .ok (.aload_n 0, 1) := by decide +kernel
theorem dX7_deed_57 : decode cX7_deed 57 = .ok (.getfield 23, 3) := by decide +kernel
theorem dX7_deed_60 : decode cX7_deed 60 = .ok (.getfield 141, 3) := by decide +kernel
theorem dX7_deed_63 : decode cX7_deed 63 = .ok (.iload_n 1, 1) := by decide +kernel
theorem dX7_deed_64 : decode cX7_deed 64 = .ok (.iaload, 1) := by decide +kernel
theorem dX7_deed_65 : decode cX7_deed 65 = .ok (.ireturn, 1) := by decide +kernel
theorem dX7_deed_66 : decode cX7_deed 66 = .ok (.aload_n 0, 1) := by decide +kernel
theorem dX7_deed_67 : decode cX7_deed 67 = .ok (.getfield 23, 3) := by decide +kernel
theorem dX7_deed_70 : decode cX7_deed 70 = .ok (.getfield 144, 3) := by decide +kernel
theorem dX7_deed_73 : decode cX7_deed 73 = .ok (.iload_n 1, 1) := by decide +kernel
theorem dX7_deed_74 : decode cX7_deed 74 = .ok (.iaload, 1) := by decide +kernel
theorem dX7_deed_75 : decode cX7_deed 75 = .ok (.ireturn, 1) := by decide +kernel
theorem dX7_deed_76 : decode cX7_deed 76 = .ok (.aload_n 0, 1) := by decide +kernel
theorem dX7_deed_77 : decode cX7_deed 77 = .ok (.getfield 23, 3) := by decide +kernel
theorem dX7_deed_80 : decode cX7_deed 80 = .ok (.getfield 147, 3) := by decide +kernel
theorem dX7_deed_83 : decode cX7_deed 83 = .ok (.iload_n 1, 1) := by decide +kernel
theorem dX7_deed_84 : decode cX7_deed 84 = .ok (.iaload, 1) := by decide +kernel
theorem dX7_deed_85 : decode cX7_deed 85 = .ok (.ireturn, 1) := by decide +kernel
theorem dX7_deed_86 : decode cX7_deed 86 = .ok (.aload_n 0, 1) := by decide +kernel
theorem dX7_deed_87 : decode cX7_deed 87 = .ok (.getfield 23, 3) := by decide +kernel
theorem dX7_deed_90 : decode cX7_deed 90 = .ok (.getfield 150, 3) := by decide +kernel
theorem dX7_deed_93 : decode cX7_deed 93 = .ok (.iload_n 1, 1) := by decide +kernel
theorem dX7_deed_94 : decode cX7_deed 94 = .ok (.iaload, 1) := by decide +kernel
theorem dX7_deed_95 : decode cX7_deed 95 = .ok (.ireturn, 1) := by decide +kernel
theorem dX7_deed_96 : decode cX7_deed 96 = .ok (.aload_n 0, 1) := by decide +kernel
theorem dX7_deed_97 : decode cX7_deed 97 = .ok (.getfield 23, 3) := by decide +kernel
theorem dX7_deed_100 : decode cX7_deed 100 = .ok (.getfield 153, 3) := by decide +kernel
theorem dX7_deed_103 : decode cX7_deed 103 = .ok (.iload_n 1, 1) := by decide +kernel
theorem dX7_deed_104 : decode cX7_deed 104 = .ok (.iaload, 1) := by decide +kernel
theorem dX7_deed_105 : decode cX7_deed 105 = .ok (.ireturn, 1) := by decide +kernel
theorem dX7_deed_106 : decode cX7_deed 106 = .ok (.aload_n 0, 1) := by decide +kernel
theorem dX7_deed_107 : decode cX7_deed 107 = .ok (.getfield 31, 3) := by decide +kernel
theorem dX7_deed_110 : decode cX7_deed 110 = .ok (.iload_n 1, 1) := by decide +kernel
theorem dX7_deed_111 : decode cX7_deed 111 = .ok (.invokevirtual 156, 3) := by decide +kernel
theorem dX7_deed_114 : decode cX7_deed 114 = .ok (.ifCond .eq 7, 3) := by decide +kernel
theorem dX7_deed_117 : decode cX7_deed 117 = .ok (.iconst 1, 1) := by decide +kernel
theorem dX7_deed_118 : decode cX7_deed 118 = .ok (.goto 4, 3) := by decide +kernel
theorem dX7_deed_121 : decode cX7_deed 121 = .ok (.iconst 0, 1) := by decide +kernel
theorem dX7_deed_122 : decode cX7_deed 122 = .ok (.ireturn, 1) := by decide +kernel
theorem dX7_deed_123 : decode cX7_deed 123 = .ok (.bipush (-2), 2) := by decide +kernel
theorem dX7_deed_125 : decode cX7_deed 125 = .ok (.ireturn, 1) := by decide +kernel
theorem dX7_drink_0 : decode cX7_drink 0 = .ok (.aload_n 0, 1) := by decide +kernel
theorem dX7_drink_1 : decode cX7_drink 1 = .ok (.getfield 31, 3) := by decide +kernel
theorem dX7_drink_4 : decode cX7_drink 4 = .ok (.iload_n 1, 1) := by decide +kernel
theorem dX7_drink_5 : decode cX7_drink 5 = .ok (.invokevirtual 159, 3) := by decide +kernel
theorem dX7_drink_8 : decode cX7_drink 8 = .ok (.istore_n 2, 1) := by decide +kernel
theorem dX7_drink_9 : decode cX7_drink 9 = .ok (.iload_n 2, 1) := by decide +kernel
theorem dX7_drink_10 : decode cX7_drink 10 = .ok (.ifCond .eq 5, 3) := by decide +kernel
theorem dX7_drink_13 : decode cX7_drink 13 = .ok (.iload_n 2, 1) := by decide +kernel
theorem dX7_drink_14 : decode cX7_drink 14 = .ok (.ireturn, 1) := by decide +kernel
theorem dX7_drink_15 : decode cX7_drink 15 = .ok (.aload_n 0, 1) := by decide +kernel
theorem dX7_drink_16 : decode cX7_drink 16 = .ok (.getfield 41, 3) := by decide +kernel
theorem dX7_drink_19 : decode cX7_drink 19 = .ok (.aload_n 0, 1) := by decide +kernel
theorem dX7_drink_20 : decode cX7_drink 20 = .ok (.getfield 31, 3) := by decide +kernel
theorem dX7_drink_23 : decode cX7_drink 23 = .ok (.invokevirtual 162, 3) := by decide +kernel
theorem dX7_drink_26 : decode cX7_drink 26 = .ok (.aload_n 0, 1) := by decide +kernel
theorem dX7_drink_27 : decode cX7_drink 27 = .ok (.getfield 31, 3) := by decide +kernel
theorem dX7_drink_30 : decode cX7_drink 30 = .ok (.iload_n 1, 1) := by decide +kernel
theorem dX7_drink_31 : decode cX7_drink 31 = .ok (.invokevirtual 166, 3) := by decide +kernel
theorem dX7_drink_34 : decode cX7_drink 34 = .ok (.aload_n 0, 1) := by decide +kernel
theorem dX7_drink_35 : decode cX7_drink 35 = .ok (.getfield 23, 3) := by decide +kernel
theorem dX7_drink_38 : decode cX7_drink 38 = .ok (.iload_n 1, 1) := by decide +kernel
theorem dX7_drink_39 : decode cX7_drink 39 = .ok (.invokevirtual 138, 3) := by decide +kernel
theorem dX7_drink_42 : decode cX7_drink 42 = .ok (.ireturn, 1) := by decide +kernel
theorem dX7_act_0 : decode cX7_act 0 = .ok (.aload_n 0, 1) := by decide +kernel
theorem dX7_act_1 : decode cX7_act 1 = .ok (.getfield 31, 3) := by decide +kernel
theorem dX7_act_4 : decode cX7_act 4 = .ok (.iload_n 1, 1) := by decide +kernel
theorem dX7_act_5 : decode cX7_act 5 = .ok (.invokevirtual 170, 3) := by decide +kernel
theorem dX7_act_8 : decode cX7_act 8 = .ok (.istore_n 2, 1) := by decide +kernel
theorem dX7_act_9 : decode cX7_act 9 = .ok (.iload_n 2, 1) := by decide +kernel
theorem dX7_act_10 : decode cX7_act 10 = .ok (.ifCond .eq 5, 3) := by decide +kernel
theorem dX7_act_13 : decode cX7_act 13 = .ok (.iload_n 2, 1) := by decide +kernel
theorem dX7_act_14 : decode cX7_act 14 = .ok (.ireturn, 1) := by decide +kernel
theorem dX7_act_15 : decode cX7_act 15 = .ok (.aload_n 0, 1) := by decide +kernel
theorem dX7_act_16 : decode cX7_act 16 = .ok (.getfield 41, 3) := by decide +kernel
theorem dX7_act_19 : decode cX7_act 19 = .ok (.aload_n 0, 1) := by decide +kernel
theorem dX7_act_20 : decode cX7_act 20 = .ok (.getfield 31, 3) := by decide +kernel
theorem dX7_act_23 : decode cX7_act 23 = .ok (.invokevirtual 162, 3) := by decide +kernel
theorem dX7_act_26 : decode cX7_act 26 = .ok (.aload_n 0, 1) := by decide +kernel
theorem dX7_act_27 : decode cX7_act 27 = .ok (.getfield 31, 3) := by decide +kernel
theorem dX7_act_30 : decode cX7_act 30 = .ok (.iload_n 1, 1) := by decide +kernel
theorem dX7_act_31 : decode cX7_act 31 = .ok (.invokevirtual 173, 3) := by decide +kernel
theorem dX7_act_34 : decode cX7_act 34 = .ok (.aload_n 0, 1) := by decide +kernel
theorem dX7_act_35 : decode cX7_act 35 = .ok (.getfield 31, 3) := by decide +kernel
theorem dX7_act_38 : decode cX7_act 38 = .ok (.invokevirtual 104, 3) := by decide +kernel
theorem dX7_act_41 : decode cX7_act 41 = .ok (.ireturn, 1) := by decide +kernel
theorem dX7_day_0 : decode cX7_day 0 = .ok (.aload_n 0, 1) := by decide +kernel
theorem dX7_day_1 : decode cX7_day 1 = .ok (.getfield 41, 3) := by decide +kernel
theorem dX7_day_4 : decode cX7_day 4 = .ok (.aload_n 0, 1) := by decide +kernel
theorem dX7_day_5 : decode cX7_day 5 = .ok (.getfield 31, 3) := by decide +kernel
theorem dX7_day_8 : decode cX7_day 8 = .ok (.invokevirtual 162, 3) := by decide +kernel
theorem dX7_day_11 : decode cX7_day 11 = .ok (.aload_n 0, 1) := by decide +kernel
theorem dX7_day_12 : decode cX7_day 12 = .ok (.getfield 31, 3) := by decide +kernel
theorem dX7_day_15 : decode cX7_day 15 = .ok (.invokevirtual 176, 3) := by decide +kernel
theorem dX7_day_18 : decode cX7_day 18 = .ok (.ireturn, 1) := by decide +kernel
theorem dX7_undo_0 : decode cX7_undo 0 = .ok (.aload_n 0, 1) := by decide +kernel
theorem dX7_undo_1 : decode cX7_undo 1 = .ok (.getfield 41, 3) := by decide +kernel
theorem dX7_undo_4 : decode cX7_undo 4 = .ok (.getfield 80, 3) := by decide +kernel
theorem dX7_undo_7 : decode cX7_undo 7 = .ok (.ifCond .ne 6, 3) := by decide +kernel
theorem dX7_undo_10 : decode cX7_undo 10 = .ok (.bipush (-3), 2) := by decide +kernel
theorem dX7_undo_12 : decode cX7_undo 12 = .ok (.ireturn, 1) := by decide +kernel
theorem dX7_undo_13 : decode cX7_undo 13 = .ok (.aload_n 0, 1) := by decide +kernel
theorem dX7_undo_14 : decode cX7_undo 14 = .ok (.getfield 41, 3) := by decide +kernel
theorem dX7_undo_17 : decode cX7_undo 17 = .ok (.aload_n 0, 1) := by decide +kernel
theorem dX7_undo_18 : decode cX7_undo 18 = .ok (.getfield 31, 3) := by decide +kernel
theorem dX7_undo_21 : decode cX7_undo 21 = .ok (.invokevirtual 179, 3) := by decide +kernel
theorem dX7_undo_24 : decode cX7_undo 24 = .ok (.aload_n 0, 1) := by decide +kernel
theorem dX7_undo_25 : decode cX7_undo 25 = .ok (.getfield 41, 3) := by decide +kernel
theorem dX7_undo_28 : decode cX7_undo 28 = .ok (.getfield 80, 3) := by decide +kernel
theorem dX7_undo_31 : decode cX7_undo 31 = .ok (.ireturn, 1) := by decide +kernel
theorem dX7_can_0 : decode cX7_can 0 = .ok (.iload_n 1, 1) := by decide +kernel
theorem dX7_can_1 : decode cX7_can 1 = .ok (.lookupswitch 43 #[(0, 27), (1, 35)], 27) := by decide +kernel
theorem dX7_can_28 : decode cX7_can 28 = .ok (.aload_n 0, 1) := by decide +kernel
theorem dX7_can_29 : decode cX7_can 29 = .ok (.getfield 31, 3) := by decide +kernel
theorem dX7_can_32 : decode cX7_can 32 = .ok (.invokevirtual 182, 3) := by decide +kernel
theorem dX7_can_35 : decode cX7_can 35 = .ok (.ireturn, 1) := by decide +kernel
theorem dX7_can_36 : decode cX7_can 36 = .ok (.aload_n 0, 1) := by decide +kernel
theorem dX7_can_37 : decode cX7_can 37 = .ok (.getfield 31, 3) := by decide +kernel
theorem dX7_can_40 : decode cX7_can 40 = .ok (.invokevirtual 185, 3) := by decide +kernel
theorem dX7_can_43 : decode cX7_can 43 = .ok (.ireturn, 1) := by decide +kernel
theorem dX7_can_44 : decode cX7_can 44 = .ok (.bipush (-2), 2) := by decide +kernel
theorem dX7_can_46 : decode cX7_can 46 = .ok (.ireturn, 1) := by decide +kernel
theorem dX7_mean_0 : decode cX7_mean 0 = .ok (.aload_n 0, 1) := by decide +kernel
theorem dX7_mean_1 : decode cX7_mean 1 = .ok (.iconst 1, 1) := by decide +kernel
theorem dX7_mean_2 : decode cX7_mean 2 = .ok (.iload_n 1, 1) := by decide +kernel
theorem dX7_mean_3 : decode cX7_mean 3 = .ok (.invokevirtual 188, 3) := by decide +kernel
theorem dX7_mean_6 : decode cX7_mean 6 = .ok (.ireturn, 1) := by decide +kernel
theorem dX7_worst_0 : decode cX7_worst 0 = .ok (.aload_n 0, 1) := by decide +kernel
theorem dX7_worst_1 : decode cX7_worst 1 = .ok (.iconst 0, 1) := by decide +kernel
theorem dX7_worst_2 : decode cX7_worst 2 = .ok (.iload_n 1, 1) := by decide +kernel
theorem dX7_worst_3 : decode cX7_worst 3 = .ok (.invokevirtual 188, 3) := by decide +kernel
theorem dX7_worst_6 : decode cX7_worst 6 = .ok (.ireturn, 1) := by decide +kernel
theorem dX7_greatest_0 : decode cX7_greatest 0 = .ok (.iload_n 2, 1) := by decide +kernel
theorem dX7_greatest_1 : decode cX7_greatest 1 = .ok (.ifCond .lt 8, 3) := by decide +kernel
theorem dX7_greatest_4 : decode cX7_greatest 4 = .ok (.iload_n 2, 1) := by decide +kernel
theorem dX7_greatest_5 : decode cX7_greatest 5 = .ok (.iconst 1, 1) := by decide +kernel
theorem dX7_greatest_6 : decode cX7_greatest 6 = .ok (.if_icmp .le 6, 3) := by decide +kernel
theorem dX7_greatest_9 : decode cX7_greatest 9 = .ok (.bipush (-2), 2) := by decide +kernel
theorem dX7_greatest_11 : decode cX7_greatest 11 = .ok (.ireturn, 1) := by decide +kernel
theorem dX7_greatest_12 : decode cX7_greatest 12 = .ok (.aload_n 0, 1) := by decide +kernel
theorem dX7_greatest_13 : decode cX7_greatest 13 = .ok (.getfield 50, 3) := by decide +kernel
theorem dX7_greatest_16 : decode cX7_greatest 16 = .ok (.iload_n 1, 1) := by decide +kernel
theorem dX7_greatest_17 : decode cX7_greatest 17 = .ok (.iconst 0, 1) := by decide +kernel
theorem dX7_greatest_18 : decode cX7_greatest 18 = .ok (.invokevirtual 192, 3) := by decide +kernel
theorem dX7_greatest_21 : decode cX7_greatest 21 = .ok (.istore_n 3, 1) := by decide +kernel
theorem dX7_greatest_22 : decode cX7_greatest 22 = .ok (.iload_n 2, 1) := by decide +kernel
theorem dX7_greatest_23 : decode cX7_greatest 23 = .ok (.ifCond .ne 7, 3) := by decide +kernel
theorem dX7_greatest_26 : decode cX7_greatest 26 = .ok (.iload_n 3, 1) := by decide +kernel
theorem dX7_greatest_27 : decode cX7_greatest 27 = .ok (.goto 10, 3) := by decide +kernel
theorem dX7_greatest_30 : decode cX7_greatest 30 = .ok (.aload_n 0, 1) := by decide +kernel
theorem dX7_greatest_31 : decode cX7_greatest 31 = .ok (.getfield 50, 3) := by decide +kernel
theorem dX7_greatest_34 : decode cX7_greatest 34 = .ok (.invokevirtual 195, 3) := by decide +kernel
theorem dX7_greatest_37 : decode cX7_greatest 37 = .ok (.ireturn, 1) := by decide +kernel
theorem dX7_regret_0 : decode cX7_regret 0 = .ok (.aload_n 0, 1) := by decide +kernel
theorem dX7_regret_1 : decode cX7_regret 1 = .ok (.getfield 31, 3) := by decide +kernel
theorem dX7_regret_4 : decode cX7_regret 4 = .ok (.iload_n 1, 1) := by decide +kernel
theorem dX7_regret_5 : decode cX7_regret 5 = .ok (.invokevirtual 159, 3) := by decide +kernel
theorem dX7_regret_8 : decode cX7_regret 8 = .ok (.istore_n 2, 1) := by decide +kernel
theorem dX7_regret_9 : decode cX7_regret 9 = .ok (.iload_n 2, 1) := by decide +kernel
theorem dX7_regret_10 : decode cX7_regret 10 = .ok (.ifCond .eq 5, 3) := by decide +kernel
theorem dX7_regret_13 : decode cX7_regret 13 = .ok (.iload_n 2, 1) := by decide +kernel
theorem dX7_regret_14 : decode cX7_regret 14 = .ok (.ireturn, 1) := by decide +kernel
theorem dX7_regret_15 : decode cX7_regret 15 = .ok (.aload_n 0, 1) := by decide +kernel
theorem dX7_regret_16 : decode cX7_regret 16 = .ok (.getfield 50, 3) := by decide +kernel
theorem dX7_regret_19 : decode cX7_regret 19 = .ok (.iconst 0, 1) := by decide +kernel
theorem dX7_regret_20 : decode cX7_regret 20 = .ok (.iconst 0, 1) := by decide +kernel
theorem dX7_regret_21 : decode cX7_regret 21 = .ok (.invokevirtual 192, 3) := by decide +kernel
theorem dX7_regret_24 : decode cX7_regret 24 = .ok (.pop, 1) := by decide +kernel
theorem dX7_regret_25 : decode cX7_regret 25 = .ok (.aload_n 0, 1) := by decide +kernel
theorem dX7_regret_26 : decode cX7_regret 26 = .ok (.getfield 50, 3) := by decide +kernel
theorem dX7_regret_29 : decode cX7_regret 29 = .ok (.iload_n 1, 1) := by decide +kernel
theorem dX7_regret_30 : decode cX7_regret 30 = .ok (.invokevirtual 198, 3) := by decide +kernel
theorem dX7_regret_33 : decode cX7_regret 33 = .ok (.istore_n 3, 1) := by decide +kernel
theorem dX7_regret_34 : decode cX7_regret 34 = .ok (.aload_n 0, 1) := by decide +kernel
theorem dX7_regret_35 : decode cX7_regret 35 = .ok (.getfield 50, 3) := by decide +kernel
theorem dX7_regret_38 : decode cX7_regret 38 = .ok (.iconst 0, 1) := by decide +kernel
theorem dX7_regret_39 : decode cX7_regret 39 = .ok (.iconst 1, 1) := by decide +kernel
theorem dX7_regret_40 : decode cX7_regret 40 = .ok (.iload_n 1, 1) := by decide +kernel
theorem dX7_regret_41 : decode cX7_regret 41 = .ok (.ishl, 1) := by decide +kernel
theorem dX7_regret_42 : decode cX7_regret 42 = .ok (.invokevirtual 192, 3) := by decide +kernel
theorem dX7_regret_45 : decode cX7_regret 45 = .ok (.istore 4, 2) := by decide +kernel
theorem dX7_regret_47 : decode cX7_regret 47 = .ok (.iconst 0, 1) := by decide +kernel
theorem dX7_regret_48 : decode cX7_regret 48 = .ok (.iload 4, 2) := by decide +kernel
theorem dX7_regret_50 : decode cX7_regret 50 = .ok (.iload_n 3, 1) := by decide +kernel
theorem dX7_regret_51 : decode cX7_regret 51 = .ok (.isub, 1) := by decide +kernel
theorem dX7_regret_52 : decode cX7_regret 52 = .ok (.invokestatic 201, 3) := by decide +kernel
theorem dX7_regret_55 : decode cX7_regret 55 = .ok (.ireturn, 1) := by decide +kernel
theorem dX7_never_0 : decode cX7_never 0 = .ok (.aload_n 0, 1) := by decide +kernel
theorem dX7_never_1 : decode cX7_never 1 = .ok (.getfield 50, 3) := by decide +kernel
theorem dX7_never_4 : decode cX7_never 4 = .ok (.invokevirtual 207, 3) := by decide +kernel
theorem dX7_never_7 : decode cX7_never 7 = .ok (.ireturn, 1) := by decide +kernel
theorem dX7_shortFor_0 : decode cX7_shortFor 0 = .ok (.iload_n 1, 1) := by decide +kernel
theorem dX7_shortFor_1 : decode cX7_shortFor 1 = .ok (.ifCond .lt 16, 3) := by decide +kernel
theorem dX7_shortFor_4 : decode cX7_shortFor 4 = .ok (.iload_n 1, 1) := by decide +kernel
theorem dX7_shortFor_5 : decode cX7_shortFor 5 = .ok (.iconst 1, 1) := by decide +kernel
theorem dX7_shortFor_6 : decode cX7_shortFor 6 = .ok (.aload_n 0, 1) := by decide +kernel
theorem dX7_shortFor_7 : decode cX7_shortFor 7 = .ok (.getfield 23, 3) := by decide +kernel
theorem dX7_shortFor_10 : decode cX7_shortFor 10 = .ok (.getfield 92, 3) := by decide +kernel
theorem dX7_shortFor_13 : decode cX7_shortFor 13 = .ok (.ishl, 1) := by decide +kernel
theorem dX7_shortFor_14 : decode cX7_shortFor 14 = .ok (.if_icmp .lt 6, 3) := by decide +kernel
theorem dX7_shortFor_17 : decode cX7_shortFor 17 = .ok (.bipush (-2), 2) := by decide +kernel
theorem dX7_shortFor_19 : decode cX7_shortFor 19 = .ok (.ireturn, 1) := by decide +kernel
theorem dX7_shortFor_20 : decode cX7_shortFor 20 = .ok (.aload_n 0, 1) := by decide +kernel
theorem dX7_shortFor_21 : decode cX7_shortFor 21 = .ok (.getfield 31, 3) := by decide +kernel
theorem dX7_shortFor_24 : decode cX7_shortFor 24 = .ok (.iload_n 1, 1) := by decide +kernel
theorem dX7_shortFor_25 : decode cX7_shortFor 25 = .ok (.invokevirtual 210, 3) := by decide +kernel
theorem dX7_shortFor_28 : decode cX7_shortFor 28 = .ok (.ireturn, 1) := by decide +kernel
theorem dX7_partners_0 : decode cX7_partners 0 = .ok (.iload_n 1, 1) := by decide +kernel
theorem dX7_partners_1 : decode cX7_partners 1 = .ok (.iconst 1, 1) := by decide +kernel
theorem dX7_partners_2 : decode cX7_partners 2 = .ok (.if_icmp .lt 34, 3) := by decide +kernel
theorem dX7_partners_5 : decode cX7_partners 5 = .ok (.iload_n 1, 1) := by decide +kernel
theorem dX7_partners_6 : decode cX7_partners 6 = .ok (.bipush 9, 2) := by decide +kernel
theorem dX7_partners_8 : decode cX7_partners 8 = .ok (.if_icmp .gt 28, 3) := by decide +kernel
theorem dX7_partners_11 : decode cX7_partners 11 = .ok (.iload_n 2, 1) := by decide +kernel
theorem dX7_partners_12 : decode cX7_partners 12 = .ok (.invokestatic 213, 3) := by decide +kernel
theorem dX7_partners_15 : decode cX7_partners 15 = .ok (.ifCond .eq 21, 3) := by decide +kernel
theorem dX7_partners_18 : decode cX7_partners 18 = .ok (.iload_n 3, 1) := by decide +kernel
theorem dX7_partners_19 : decode cX7_partners 19 = .ok (.invokestatic 213, 3) := by decide +kernel
theorem dX7_partners_22 : decode cX7_partners 22 = .ok (.ifCond .eq 14, 3) := by decide +kernel
theorem dX7_partners_25 : decode cX7_partners 25 = .ok (.iload 4, 2) := by decide +kernel
theorem dX7_partners_27 : decode cX7_partners 27 = .ok (.ifCond .lt 9, 3) := by decide +kernel
theorem dX7_partners_30 : decode cX7_partners 30 = .ok (.iload 4, 2) := by decide +kernel
theorem dX7_partners_32 : decode cX7_partners 32 = .ok (.iconst 1, 1) := by decide +kernel
theorem dX7_partners_33 : decode cX7_partners 33 = .ok (.if_icmp .le 6, 3) := by decide +kernel
theorem dX7_partners_36 : decode cX7_partners 36 = .ok (.bipush (-2), 2) := by decide +kernel
theorem dX7_partners_38 : decode cX7_partners 38 = .ok (.ireturn, 1) := by decide +kernel
theorem dX7_partners_39 : decode cX7_partners 39 = .ok (.iload 4, 2) := by decide +kernel
theorem dX7_partners_41 : decode cX7_partners 41 = .ok (.ifCond .ne 12, 3) := by decide +kernel
theorem dX7_partners_44 : decode cX7_partners 44 = .ok (.iload_n 1, 1) := by decide +kernel
theorem dX7_partners_45 : decode cX7_partners 45 = .ok (.iload_n 2, 1) := by decide +kernel
theorem dX7_partners_46 : decode cX7_partners 46 = .ok (.iload_n 3, 1) := by decide +kernel
theorem dX7_partners_47 : decode cX7_partners 47 = .ok (.invokestatic 216, 3) := by decide +kernel
theorem dX7_partners_50 : decode cX7_partners 50 = .ok (.goto 9, 3) := by decide +kernel
theorem dX7_partners_53 : decode cX7_partners 53 = .ok (.iload_n 1, 1) := by decide +kernel
theorem dX7_partners_54 : decode cX7_partners 54 = .ok (.iload_n 2, 1) := by decide +kernel
theorem dX7_partners_55 : decode cX7_partners 55 = .ok (.iload_n 3, 1) := by decide +kernel
theorem dX7_partners_56 : decode cX7_partners 56 = .ok (.invokestatic 222, 3) := by decide +kernel
theorem dX7_partners_59 : decode cX7_partners 59 = .ok (.ireturn, 1) := by decide +kernel
theorem dX7_keeper_0 : decode cX7_keeper 0 = .ok (.iload_n 1, 1) := by decide +kernel
theorem dX7_keeper_1 : decode cX7_keeper 1 = .ok (.iconst 1, 1) := by decide +kernel
theorem dX7_keeper_2 : decode cX7_keeper 2 = .ok (.if_icmp .lt 31, 3) := by decide +kernel
theorem dX7_keeper_5 : decode cX7_keeper 5 = .ok (.iload_n 1, 1) := by decide +kernel
theorem dX7_keeper_6 : decode cX7_keeper 6 = .ok (.bipush 6, 2) := by decide +kernel
theorem dX7_keeper_8 : decode cX7_keeper 8 = .ok (.if_icmp .gt 25, 3) := by decide +kernel
theorem dX7_keeper_11 : decode cX7_keeper 11 = .ok (.iload_n 2, 1) := by decide +kernel
theorem dX7_keeper_12 : decode cX7_keeper 12 = .ok (.ifCond .lt 21, 3) := by decide +kernel
theorem dX7_keeper_15 : decode cX7_keeper 15 = .ok (.iload_n 2, 1) := by decide +kernel
theorem dX7_keeper_16 : decode cX7_keeper 16 = .ok (.getstatic 225, 3) := by decide +kernel
theorem dX7_keeper_19 : decode cX7_keeper 19 = .ok (.iload_n 1, 1) := by decide +kernel
theorem dX7_keeper_20 : decode cX7_keeper 20 = .ok (.iaload, 1) := by decide +kernel
theorem dX7_keeper_21 : decode cX7_keeper 21 = .ok (.if_icmp .ge 12, 3) := by decide +kernel
theorem dX7_keeper_24 : decode cX7_keeper 24 = .ok (.iload_n 3, 1) := by decide +kernel
theorem dX7_keeper_25 : decode cX7_keeper 25 = .ok (.ifCond .lt 8, 3) := by decide +kernel
theorem dX7_keeper_28 : decode cX7_keeper 28 = .ok (.iload_n 3, 1) := by decide +kernel
theorem dX7_keeper_29 : decode cX7_keeper 29 = .ok (.iconst 1, 1) := by decide +kernel
theorem dX7_keeper_30 : decode cX7_keeper 30 = .ok (.if_icmp .le 6, 3) := by decide +kernel
theorem dX7_keeper_33 : decode cX7_keeper 33 = .ok (.bipush (-2), 2) := by decide +kernel
theorem dX7_keeper_35 : decode cX7_keeper 35 = .ok (.ireturn, 1) := by decide +kernel
theorem dX7_keeper_36 : decode cX7_keeper 36 = .ok (.iload_n 1, 1) := by decide +kernel
theorem dX7_keeper_37 : decode cX7_keeper 37 = .ok (.iload_n 2, 1) := by decide +kernel
theorem dX7_keeper_38 : decode cX7_keeper 38 = .ok (.invokestatic 228, 3) := by decide +kernel
theorem dX7_keeper_41 : decode cX7_keeper 41 = .ok (.istore 4, 2) := by decide +kernel
theorem dX7_keeper_43 : decode cX7_keeper 43 = .ok (.iload_n 3, 1) := by decide +kernel
theorem dX7_keeper_44 : decode cX7_keeper 44 = .ok (.ifCond .ne 8, 3) := by decide +kernel
theorem dX7_keeper_47 : decode cX7_keeper 47 = .ok (.iload 4, 2) := by decide +kernel
theorem dX7_keeper_49 : decode cX7_keeper 49 = .ok (.goto 10, 3) := by decide +kernel
theorem dX7_keeper_52 : decode cX7_keeper 52 = .ok (.iload 4, 2) := by decide +kernel
theorem dX7_keeper_54 : decode cX7_keeper 54 = .ok (.iload_n 1, 1) := by decide +kernel
theorem dX7_keeper_55 : decode cX7_keeper 55 = .ok (.iload_n 2, 1) := by decide +kernel
theorem dX7_keeper_56 : decode cX7_keeper 56 = .ok (.invokestatic 231, 3) := by decide +kernel
theorem dX7_keeper_59 : decode cX7_keeper 59 = .ok (.ireturn, 1) := by decide +kernel
theorem dX7_byTurns_0 : decode cX7_byTurns 0 = .ok (.iload_n 1, 1) := by decide +kernel
theorem dX7_byTurns_1 : decode cX7_byTurns 1 = .ok (.invokestatic 213, 3) := by decide +kernel
theorem dX7_byTurns_4 : decode cX7_byTurns 4 = .ok (.ifCond .eq 14, 3) := by decide +kernel
theorem dX7_byTurns_7 : decode cX7_byTurns 7 = .ok (.iload_n 2, 1) := by decide +kernel
theorem dX7_byTurns_8 : decode cX7_byTurns 8 = .ok (.iconst 1, 1) := by decide +kernel
theorem dX7_byTurns_9 : decode cX7_byTurns 9 = .ok (.if_icmp .lt 9, 3) := by decide +kernel
theorem dX7_byTurns_12 : decode cX7_byTurns 12 = .ok (.iload_n 2, 1) := by decide +kernel
theorem dX7_byTurns_13 : decode cX7_byTurns 13 = .ok (.bipush 6, 2) := by decide +kernel
theorem dX7_byTurns_15 : decode cX7_byTurns 15 = .ok (.if_icmp .le 6, 3) := by decide +kernel
theorem dX7_byTurns_18 : decode cX7_byTurns 18 = .ok (.bipush (-2), 2) := by decide +kernel
theorem dX7_byTurns_20 : decode cX7_byTurns 20 = .ok (.ireturn, 1) := by decide +kernel
theorem dX7_byTurns_21 : decode cX7_byTurns 21 = .ok (.iload_n 1, 1) := by decide +kernel
theorem dX7_byTurns_22 : decode cX7_byTurns 22 = .ok (.iload_n 2, 1) := by decide +kernel
theorem dX7_byTurns_23 : decode cX7_byTurns 23 = .ok (.invokestatic 234, 3) := by decide +kernel
theorem dX7_byTurns_26 : decode cX7_byTurns 26 = .ok (.ireturn, 1) := by decide +kernel
theorem dX7_isFigure_0 : decode cX7_isFigure 0 = .ok (.iload_n 0, 1) := by decide +kernel
theorem dX7_isFigure_1 : decode cX7_isFigure 1 = .ok (.ifCond .lt 13, 3) := by decide +kernel
theorem dX7_isFigure_4 : decode cX7_isFigure 4 = .ok (.iload_n 0, 1) := by decide +kernel
theorem dX7_isFigure_5 : decode cX7_isFigure 5 = .ok (.bipush 9, 2) := by decide +kernel
theorem dX7_isFigure_7 : decode cX7_isFigure 7 = .ok (.if_icmp .gt 7, 3) := by decide +kernel
theorem dX7_isFigure_10 : decode cX7_isFigure 10 = .ok (.iconst 1, 1) := by decide +kernel
theorem dX7_isFigure_11 : decode cX7_isFigure 11 = .ok (.goto 4, 3) := by decide +kernel
theorem dX7_isFigure_14 : decode cX7_isFigure 14 = .ok (.iconst 0, 1) := by decide +kernel
theorem dX7_isFigure_15 : decode cX7_isFigure 15 = .ok (.ireturn, 1) := by decide +kernel
theorem dX7_see_0 : decode cX7_see 0 = .ok (.iload_n 1, 1) := by decide +kernel
theorem dX7_see_1 : decode cX7_see 1 = .ok (.ifCond .lt 14, 3) := by decide +kernel
theorem dX7_see_4 : decode cX7_see 4 = .ok (.iload_n 1, 1) := by decide +kernel
theorem dX7_see_5 : decode cX7_see 5 = .ok (.aload_n 0, 1) := by decide +kernel
theorem dX7_see_6 : decode cX7_see 6 = .ok (.getfield 23, 3) := by decide +kernel
theorem dX7_see_9 : decode cX7_see 9 = .ok (.getfield 92, 3) := by decide +kernel
theorem dX7_see_12 : decode cX7_see 12 = .ok (.if_icmp .lt 5, 3) := by decide +kernel
theorem dX7_see_15 : decode cX7_see 15 = .ok (.iconst (-1), 1) := by decide +kernel
theorem dX7_see_16 : decode cX7_see 16 = .ok (.ireturn, 1) := by decide +kernel
theorem dX7_see_17 : decode cX7_see 17 = .ok (.aload_n 0, 1) := by decide +kernel
theorem dX7_see_18 : decode cX7_see 18 = .ok (.getfield 57, 3) := by decide +kernel
theorem dX7_see_21 : decode cX7_see 21 = .ok (.iload_n 1, 1) := by decide +kernel
theorem dX7_see_22 : decode cX7_see 22 = .ok (.iload_n 2, 1) := by decide +kernel
theorem dX7_see_23 : decode cX7_see 23 = .ok (.invokevirtual 237, 3) := by decide +kernel
theorem dX7_see_26 : decode cX7_see 26 = .ok (.ifCond .eq 13, 3) := by decide +kernel
theorem dX7_see_29 : decode cX7_see 29 = .ok (.aload_n 0, 1) := by decide +kernel
theorem dX7_see_30 : decode cX7_see 30 = .ok (.getfield 57, 3) := by decide +kernel
theorem dX7_see_33 : decode cX7_see 33 = .ok (.getfield 108, 3) := by decide +kernel
theorem dX7_see_36 : decode cX7_see 36 = .ok (.goto 5, 3) := by decide +kernel
theorem dX7_see_39 : decode cX7_see 39 = .ok (.bipush (-4), 2) := by decide +kernel
theorem dX7_see_41 : decode cX7_see 41 = .ok (.ireturn, 1) := by decide +kernel
theorem dX7_unsee_0 : decode cX7_unsee 0 = .ok (.aload_n 0, 1) := by decide +kernel
theorem dX7_unsee_1 : decode cX7_unsee 1 = .ok (.getfield 57, 3) := by decide +kernel
theorem dX7_unsee_4 : decode cX7_unsee 4 = .ok (.getfield 108, 3) := by decide +kernel
theorem dX7_unsee_7 : decode cX7_unsee 7 = .ok (.istore_n 1, 1) := by decide +kernel
theorem dX7_unsee_8 : decode cX7_unsee 8 = .ok (.aload_n 0, 1) := by decide +kernel
theorem dX7_unsee_9 : decode cX7_unsee 9 = .ok (.getfield 57, 3) := by decide +kernel
theorem dX7_unsee_12 : decode cX7_unsee 12 = .ok (.iconst 0, 1) := by decide +kernel
theorem dX7_unsee_13 : decode cX7_unsee 13 = .ok (.putfield 108, 3) := by decide +kernel
theorem dX7_unsee_16 : decode cX7_unsee 16 = .ok (.iload_n 1, 1) := by decide +kernel
theorem dX7_unsee_17 : decode cX7_unsee 17 = .ok (.ireturn, 1) := by decide +kernel
theorem dX7_knew_0 : decode cX7_knew 0 = .ok (.iload_n 1, 1) := by decide +kernel
theorem dX7_knew_1 : decode cX7_knew 1 = .ok (.tableswitch 51 0 2 #[27, 35, 43], 27) := by decide +kernel
theorem dX7_knew_28 : decode cX7_knew 28 = .ok (.aload_n 0, 1) := by decide +kernel
theorem dX7_knew_29 : decode cX7_knew 29 = .ok (.getfield 57, 3) := by decide +kernel
theorem dX7_knew_32 : decode cX7_knew 32 = .ok (.invokevirtual 241, 3) := by decide +kernel
theorem dX7_knew_35 : decode cX7_knew 35 = .ok (.ireturn, 1) := by decide +kernel
theorem dX7_knew_36 : decode cX7_knew 36 = .ok (.aload_n 0, 1) := by decide +kernel
theorem dX7_knew_37 : decode cX7_knew 37 = .ok (.getfield 57, 3) := by decide +kernel
theorem dX7_knew_40 : decode cX7_knew 40 = .ok (.invokevirtual 244, 3) := by decide +kernel
theorem dX7_knew_43 : decode cX7_knew 43 = .ok (.ireturn, 1) := by decide +kernel
theorem dX7_knew_44 : decode cX7_knew 44 = .ok (.aload_n 0, 1) := by decide +kernel
theorem dX7_knew_45 : decode cX7_knew 45 = .ok (.getfield 57, 3) := by decide +kernel
theorem dX7_knew_48 : decode cX7_knew 48 = .ok (.invokevirtual 247, 3) := by decide +kernel
theorem dX7_knew_51 : decode cX7_knew 51 = .ok (.ireturn, 1) := by decide +kernel
theorem dX7_knew_52 : decode cX7_knew 52 = .ok (.bipush (-2), 2) := by decide +kernel
theorem dX7_knew_54 : decode cX7_knew 54 = .ok (.ireturn, 1) := by decide +kernel
theorem dX7_seed_0 : decode cX7_seed 0 = .ok (.aload_n 0, 1) := by decide +kernel
theorem dX7_seed_1 : decode cX7_seed 1 = .ok (.getfield 250, 3) := by decide +kernel
theorem dX7_seed_4 : decode cX7_seed 4 = .ok (.lstore_n 3, 1) := by decide +kernel
theorem dX7_seed_5 : decode cX7_seed 5 = .ok (.aload_n 0, 1) := by decide +kernel
theorem dX7_seed_6 : decode cX7_seed 6 = .ok (.lload_n 1, 1) := by decide +kernel
theorem dX7_seed_7 : decode cX7_seed 7 = .ok (.putfield 250, 3) := by decide +kernel
theorem dX7_seed_10 : decode cX7_seed 10 = .ok (.lload_n 3, 1) := by decide +kernel
theorem dX7_seed_11 : decode cX7_seed 11 = .ok (.lreturn, 1) := by decide +kernel
theorem dX7_drinkers_0 : decode cX7_drinkers 0 = .ok (.iload_n 1, 1) := by decide +kernel
theorem dX7_drinkers_1 : decode cX7_drinkers 1 = .ok (.iconst 1, 1) := by decide +kernel
theorem dX7_drinkers_2 : decode cX7_drinkers 2 = .ok (.if_icmp .lt 9, 3) := by decide +kernel
theorem dX7_drinkers_5 : decode cX7_drinkers 5 = .ok (.iload_n 1, 1) := by decide +kernel
theorem dX7_drinkers_6 : decode cX7_drinkers 6 = .ok (.bipush 30, 2) := by decide +kernel
theorem dX7_drinkers_8 : decode cX7_drinkers 8 = .ok (.if_icmp .le 6, 3) := by decide +kernel
theorem dX7_drinkers_11 : decode cX7_drinkers 11 = .ok (.bipush (-2), 2) := by decide +kernel
theorem dX7_drinkers_13 : decode cX7_drinkers 13 = .ok (.ireturn, 1) := by decide +kernel
theorem dX7_drinkers_14 : decode cX7_drinkers 14 = .ok (.aload_n 0, 1) := by decide +kernel
theorem dX7_drinkers_15 : decode cX7_drinkers 15 = .ok (.getfield 35, 3) := by decide +kernel
theorem dX7_drinkers_18 : decode cX7_drinkers 18 = .ok (.aload_n 0, 1) := by decide +kernel
theorem dX7_drinkers_19 : decode cX7_drinkers 19 = .ok (.getfield 31, 3) := by decide +kernel
theorem dX7_drinkers_22 : decode cX7_drinkers 22 = .ok (.invokevirtual 254, 3) := by decide +kernel
theorem dX7_drinkers_25 : decode cX7_drinkers 25 = .ok (.iconst 0, 1) := by decide +kernel
theorem dX7_drinkers_26 : decode cX7_drinkers 26 = .ok (.istore_n 2, 1) := by decide +kernel
theorem dX7_drinkers_27 : decode cX7_drinkers 27 = .ok (.iload_n 2, 1) := by decide +kernel
theorem dX7_drinkers_28 : decode cX7_drinkers 28 = .ok (.iload_n 1, 1) := by decide +kernel
theorem dX7_drinkers_29 : decode cX7_drinkers 29 = .ok (.if_icmp .ge 51, 3) := by decide +kernel
theorem dX7_drinkers_32 : decode cX7_drinkers 32 = .ok (.aload_n 0, 1) := by decide +kernel
theorem dX7_drinkers_33 : decode cX7_drinkers 33 = .ok (.aload_n 0, 1) := by decide +kernel
theorem dX7_drinkers_34 : decode cX7_drinkers 34 = .ok (.getfield 250, 3) := by decide +kernel
theorem dX7_drinkers_37 : decode cX7_drinkers 37 = .ok (.ldc2_w 257, 3) := by decide +kernel
theorem dX7_drinkers_40 : decode cX7_drinkers 40 = .ok (.lmul, 1) := by decide +kernel
theorem dX7_drinkers_41 : decode cX7_drinkers 41 = .ok (.ldc2_w 259, 3) := by decide +kernel
theorem dX7_drinkers_44 : decode cX7_drinkers 44 = .ok (.ladd, 1) := by decide +kernel
theorem dX7_drinkers_45 : decode cX7_drinkers 45 = .ok (.putfield 250, 3) := by decide +kernel
theorem dX7_drinkers_48 : decode cX7_drinkers 48 = .ok (.aload_n 0, 1) := by decide +kernel
theorem dX7_drinkers_49 : decode cX7_drinkers 49 = .ok (.getfield 35, 3) := by decide +kernel
theorem dX7_drinkers_52 : decode cX7_drinkers 52 = .ok (.aload_n 0, 1) := by decide +kernel
theorem dX7_drinkers_53 : decode cX7_drinkers 53 = .ok (.getfield 250, 3) := by decide +kernel
theorem dX7_drinkers_56 : decode cX7_drinkers 56 = .ok (.bipush 33, 2) := by decide +kernel
theorem dX7_drinkers_58 : decode cX7_drinkers 58 = .ok (.lushr, 1) := by decide +kernel
theorem dX7_drinkers_59 : decode cX7_drinkers 59 = .ok (.l2i, 1) := by decide +kernel
theorem dX7_drinkers_60 : decode cX7_drinkers 60 = .ok (.bipush 7, 2) := by decide +kernel
theorem dX7_drinkers_62 : decode cX7_drinkers 62 = .ok (.iand, 1) := by decide +kernel
theorem dX7_drinkers_63 : decode cX7_drinkers 63 = .ok (.invokevirtual 261, 3) := by decide +kernel
theorem dX7_drinkers_66 : decode cX7_drinkers 66 = .ok (.aload_n 0, 1) := by decide +kernel
theorem dX7_drinkers_67 : decode cX7_drinkers 67 = .ok (.getfield 35, 3) := by decide +kernel
theorem dX7_drinkers_70 : decode cX7_drinkers 70 = .ok (.invokevirtual 176, 3) := by decide +kernel
theorem dX7_drinkers_73 : decode cX7_drinkers 73 = .ok (.pop, 1) := by decide +kernel
theorem dX7_drinkers_74 : decode cX7_drinkers 74 = .ok (.iinc 2 1, 3) := by decide +kernel
theorem dX7_drinkers_77 : decode cX7_drinkers 77 = .ok (.goto (-50), 3) := by decide +kernel
theorem dX7_drinkers_80 : decode cX7_drinkers 80 = .ok (.aload_n 0, 1) := by decide +kernel
theorem dX7_drinkers_81 : decode cX7_drinkers 81 = .ok (.getfield 35, 3) := by decide +kernel
theorem dX7_drinkers_84 : decode cX7_drinkers 84 = .ok (.invokevirtual 104, 3) := by decide +kernel
theorem dX7_drinkers_87 : decode cX7_drinkers 87 = .ok (.ireturn, 1) := by decide +kernel
theorem dX7_keep_0 : decode cX7_keep 0 = .ok (.iload_n 1, 1) := by decide +kernel
theorem dX7_keep_1 : decode cX7_keep 1 = .ok (.ifCond .lt 8, 3) := by decide +kernel
theorem dX7_keep_4 : decode cX7_keep 4 = .ok (.iload_n 1, 1) := by decide +kernel
theorem dX7_keep_5 : decode cX7_keep 5 = .ok (.iconst 2, 1) := by decide +kernel
theorem dX7_keep_6 : decode cX7_keep 6 = .ok (.if_icmp .lt 5, 3) := by decide +kernel
theorem dX7_keep_9 : decode cX7_keep 9 = .ok (.iconst (-1), 1) := by decide +kernel
theorem dX7_keep_10 : decode cX7_keep 10 = .ok (.ireturn, 1) := by decide +kernel
theorem dX7_keep_11 : decode cX7_keep 11 = .ok (.aload_n 0, 1) := by decide +kernel
theorem dX7_keep_12 : decode cX7_keep 12 = .ok (.getfield 61, 3) := by decide +kernel
theorem dX7_keep_15 : decode cX7_keep 15 = .ok (.iload_n 1, 1) := by decide +kernel
theorem dX7_keep_16 : decode cX7_keep 16 = .ok (.aaload, 1) := by decide +kernel
theorem dX7_keep_17 : decode cX7_keep 17 = .ok (.aload_n 0, 1) := by decide +kernel
theorem dX7_keep_18 : decode cX7_keep 18 = .ok (.getfield 31, 3) := by decide +kernel
theorem dX7_keep_21 : decode cX7_keep 21 = .ok (.invokevirtual 254, 3) := by decide +kernel
theorem dX7_keep_24 : decode cX7_keep 24 = .ok (.aload_n 0, 1) := by decide +kernel
theorem dX7_keep_25 : decode cX7_keep 25 = .ok (.dup, 1) := by decide +kernel
theorem dX7_keep_26 : decode cX7_keep 26 = .ok (.getfield 83, 3) := by decide +kernel
theorem dX7_keep_29 : decode cX7_keep 29 = .ok (.iconst 1, 1) := by decide +kernel
theorem dX7_keep_30 : decode cX7_keep 30 = .ok (.iload_n 1, 1) := by decide +kernel
theorem dX7_keep_31 : decode cX7_keep 31 = .ok (.ishl, 1) := by decide +kernel
theorem dX7_keep_32 : decode cX7_keep 32 = .ok (.ior, 1) := by decide +kernel
theorem dX7_keep_33 : decode cX7_keep 33 = .ok (.putfield 83, 3) := by decide +kernel
theorem dX7_keep_36 : decode cX7_keep 36 = .ok (.aload_n 0, 1) := by decide +kernel
theorem dX7_keep_37 : decode cX7_keep 37 = .ok (.getfield 31, 3) := by decide +kernel
theorem dX7_keep_40 : decode cX7_keep 40 = .ok (.invokevirtual 104, 3) := by decide +kernel
theorem dX7_keep_43 : decode cX7_keep 43 = .ok (.ireturn, 1) := by decide +kernel
theorem dX7_again_0 : decode cX7_again 0 = .ok (.iload_n 1, 1) := by decide +kernel
theorem dX7_again_1 : decode cX7_again 1 = .ok (.ifCond .lt 8, 3) := by decide +kernel
theorem dX7_again_4 : decode cX7_again 4 = .ok (.iload_n 1, 1) := by decide +kernel
theorem dX7_again_5 : decode cX7_again 5 = .ok (.iconst 2, 1) := by decide +kernel
theorem dX7_again_6 : decode cX7_again 6 = .ok (.if_icmp .lt 5, 3) := by decide +kernel
theorem dX7_again_9 : decode cX7_again 9 = .ok (.iconst (-1), 1) := by decide +kernel
theorem dX7_again_10 : decode cX7_again 10 = .ok (.ireturn, 1) := by decide +kernel
theorem dX7_again_11 : decode cX7_again 11 = .ok (.aload_n 0, 1) := by decide +kernel
theorem dX7_again_12 : decode cX7_again 12 = .ok (.getfield 83, 3) := by decide +kernel
theorem dX7_again_15 : decode cX7_again 15 = .ok (.iload_n 1, 1) := by decide +kernel
theorem dX7_again_16 : decode cX7_again 16 = .ok (.ishr, 1) := by decide +kernel
theorem dX7_again_17 : decode cX7_again 17 = .ok (.iconst 1, 1) := by decide +kernel
theorem dX7_again_18 : decode cX7_again 18 = .ok (.iand, 1) := by decide +kernel
theorem dX7_again_19 : decode cX7_again 19 = .ok (.ifCond .ne 6, 3) := by decide +kernel
theorem dX7_again_22 : decode cX7_again 22 = .ok (.bipush (-3), 2) := by decide +kernel
theorem dX7_again_24 : decode cX7_again 24 = .ok (.ireturn, 1) := by decide +kernel
theorem dX7_again_25 : decode cX7_again 25 = .ok (.aload_n 0, 1) := by decide +kernel
theorem dX7_again_26 : decode cX7_again 26 = .ok (.getfield 31, 3) := by decide +kernel
theorem dX7_again_29 : decode cX7_again 29 = .ok (.aload_n 0, 1) := by decide +kernel
theorem dX7_again_30 : decode cX7_again 30 = .ok (.getfield 61, 3) := by decide +kernel
theorem dX7_again_33 : decode cX7_again 33 = .ok (.iload_n 1, 1) := by decide +kernel
theorem dX7_again_34 : decode cX7_again 34 = .ok (.aaload, 1) := by decide +kernel
theorem dX7_again_35 : decode cX7_again 35 = .ok (.invokevirtual 254, 3) := by decide +kernel
theorem dX7_again_38 : decode cX7_again 38 = .ok (.aload_n 0, 1) := by decide +kernel
theorem dX7_again_39 : decode cX7_again 39 = .ok (.getfield 41, 3) := by decide +kernel
theorem dX7_again_42 : decode cX7_again 42 = .ok (.iconst 0, 1) := by decide +kernel
theorem dX7_again_43 : decode cX7_again 43 = .ok (.putfield 80, 3) := by decide +kernel
theorem dX7_again_46 : decode cX7_again 46 = .ok (.aload_n 0, 1) := by decide +kernel
theorem dX7_again_47 : decode cX7_again 47 = .ok (.getfield 31, 3) := by decide +kernel
theorem dX7_again_50 : decode cX7_again 50 = .ok (.invokevirtual 104, 3) := by decide +kernel
theorem dX7_again_53 : decode cX7_again 53 = .ok (.ireturn, 1) := by decide +kernel
theorem dX8_init_0 : decode cX8_init 0 = .ok (.aload_n 0, 1) := by decide +kernel
theorem dX8_init_1 : decode cX8_init 1 = .ok (.invokespecial 1, 3) := by decide +kernel
theorem dX8_init_4 : decode cX8_init 4 = .ok (.aload_n 0, 1) := by decide +kernel
theorem dX8_init_5 : decode cX8_init 5 = .ok (.bipush 64, 2) := by decide +kernel
theorem dX8_init_7 : decode cX8_init 7 = .ok (.newarray .int, 2) := by decide +kernel
theorem dX8_init_9 : decode cX8_init 9 = .ok (.putfield 7, 3) := by decide +kernel
theorem dX8_init_12 : decode cX8_init 12 = .ok (.aload_n 0, 1) := by decide +kernel
theorem dX8_init_13 : decode cX8_init 13 = .ok (.bipush 12, 2) := by decide +kernel
theorem dX8_init_15 : decode cX8_init 15 = .ok (.newarray .int, 2) := by decide +kernel
theorem dX8_init_17 : decode cX8_init 17 = .ok (.putfield 13, 3) := by decide +kernel
theorem dX8_init_20 : decode cX8_init 20 = .ok (.aload_n 0, 1) := by decide +kernel
theorem dX8_init_21 : decode cX8_init 21 = .ok (.bipush 16, 2) := by decide +kernel
theorem dX8_init_23 : decode cX8_init 23 = .ok (.newarray .int, 2) := by decide +kernel
theorem dX8_init_25 : decode cX8_init 25 = .ok (.putfield 16, 3) := by decide +kernel
theorem dX8_init_28 : decode cX8_init 28 = .ok (.aload_n 0, 1) := by decide +kernel
theorem dX8_init_29 : decode cX8_init 29 = .ok (.bipush 20, 2) := by decide +kernel
theorem dX8_init_31 : decode cX8_init 31 = .ok (.newarray .int, 2) := by decide +kernel
theorem dX8_init_33 : decode cX8_init 33 = .ok (.putfield 19, 3) := by decide +kernel
theorem dX8_init_36 : decode cX8_init 36 = .ok (.aload_n 0, 1) := by decide +kernel
theorem dX8_init_37 : decode cX8_init 37 = .ok (.bipush 12, 2) := by decide +kernel
theorem dX8_init_39 : decode cX8_init 39 = .ok (.newarray .int, 2) := by decide +kernel
theorem dX8_init_41 : decode cX8_init 41 = .ok (.putfield 22, 3) := by decide +kernel
theorem dX8_init_44 : decode cX8_init 44 = .ok (.aload_n 0, 1) := by decide +kernel
theorem dX8_init_45 : decode cX8_init 45 = .ok (.bipush 16, 2) := by decide +kernel
theorem dX8_init_47 : decode cX8_init 47 = .ok (.newarray .int, 2) := by decide +kernel
theorem dX8_init_49 : decode cX8_init 49 = .ok (.putfield 25, 3) := by decide +kernel
theorem dX8_init_52 : decode cX8_init 52 = .ok (.aload_n 0, 1) := by decide +kernel
theorem dX8_init_53 : decode cX8_init 53 = .ok (.bipush 20, 2) := by decide +kernel
theorem dX8_init_55 : decode cX8_init 55 = .ok (.newarray .int, 2) := by decide +kernel
theorem dX8_init_57 : decode cX8_init 57 = .ok (.putfield 28, 3) := by decide +kernel
theorem dX8_init_60 : decode cX8_init 60 = .ok (.aload_n 0, 1) := by decide +kernel
theorem dX8_init_61 : decode cX8_init 61 = .ok (.bipush 16, 2) := by decide +kernel
theorem dX8_init_63 : decode cX8_init 63 = .ok (.newarray .int, 2) := by decide +kernel
theorem dX8_init_65 : decode cX8_init 65 = .ok (.putfield 31, 3) := by decide +kernel
theorem dX8_init_68 : decode cX8_init 68 = .ok (.aload_n 0, 1) := by decide +kernel
theorem dX8_init_69 : decode cX8_init 69 = .ok (.bipush 16, 2) := by decide +kernel
theorem dX8_init_71 : decode cX8_init 71 = .ok (.newarray .int, 2) := by decide +kernel
theorem dX8_init_73 : decode cX8_init 73 = .ok (.putfield 34, 3) := by decide +kernel
theorem dX8_init_76 : decode cX8_init 76 = .ok (.aload_n 0, 1) := by decide +kernel
theorem dX8_init_77 : decode cX8_init 77 = .ok (.sipush 224, 3) := by decide +kernel
theorem dX8_init_80 : decode cX8_init 80 = .ok (.newarray .int, 2) := by decide +kernel
theorem dX8_init_82 : decode cX8_init 82 = .ok (.putfield 37, 3) := by decide +kernel
theorem dX8_init_85 : decode cX8_init 85 = .ok (.aload_n 0, 1) := by decide +kernel
theorem dX8_init_86 : decode cX8_init 86 = .ok (.bipush 32, 2) := by decide +kernel
theorem dX8_init_88 : decode cX8_init 88 = .ok (.newarray .int, 2) := by decide +kernel
theorem dX8_init_90 : decode cX8_init 90 = .ok (.putfield 40, 3) := by decide +kernel
theorem dX8_init_93 : decode cX8_init 93 = .ok (.aload_n 0, 1) := by decide +kernel
theorem dX8_init_94 : decode cX8_init 94 = .ok (.iconst 2, 1) := by decide +kernel
theorem dX8_init_95 : decode cX8_init 95 = .ok (.newarray .boolean, 2) := by decide +kernel
theorem dX8_init_97 : decode cX8_init 97 = .ok (.putfield 43, 3) := by decide +kernel
theorem dX8_init_100 : decode cX8_init 100 = .ok (.aload_n 0, 1) := by decide +kernel
theorem dX8_init_101 : decode cX8_init 101 = .ok (.bipush 6, 2) := by decide +kernel
theorem dX8_init_103 : decode cX8_init 103 = .ok (.newarray .int, 2) := by decide +kernel
theorem dX8_init_105 : decode cX8_init 105 = .ok (.putfield 47, 3) := by decide +kernel
theorem dX8_init_108 : decode cX8_init 108 = .ok (.aload_n 0, 1) := by decide +kernel
theorem dX8_init_109 : decode cX8_init 109 = .ok (.bipush 6, 2) := by decide +kernel
theorem dX8_init_111 : decode cX8_init 111 = .ok (.newarray .boolean, 2) := by decide +kernel
theorem dX8_init_113 : decode cX8_init 113 = .ok (.putfield 50, 3) := by decide +kernel
theorem dX8_init_116 : decode cX8_init 116 = .ok (.aload_n 0, 1) := by decide +kernel
theorem dX8_init_117 : decode cX8_init 117 = .ok (.sipush 1296, 3) := by decide +kernel
theorem dX8_init_120 : decode cX8_init 120 = .ok (.newarray .int, 2) := by decide +kernel
theorem dX8_init_122 : decode cX8_init 122 = .ok (.putfield 53, 3) := by decide +kernel
theorem dX8_init_125 : decode cX8_init 125 = .ok (.aload_n 0, 1) := by decide +kernel
theorem dX8_init_126 : decode cX8_init 126 = .ok (.iconst 4, 1) := by decide +kernel
theorem dX8_init_127 : decode cX8_init 127 = .ok (.newarray .int, 2) := by decide +kernel
theorem dX8_init_129 : decode cX8_init 129 = .ok (.putfield 56, 3) := by decide +kernel
theorem dX8_init_132 : decode cX8_init 132 = .ok (.return_, 1) := by decide +kernel
theorem dX8_in_0 : decode cX8_in 0 = .ok (.lload_n 0, 1) := by decide +kernel
theorem dX8_in_1 : decode cX8_in 1 = .ok (.lload_n 2, 1) := by decide +kernel
theorem dX8_in_2 : decode cX8_in 2 = .ok (.lcmp, 1) := by decide +kernel
theorem dX8_in_3 : decode cX8_in 3 = .ok (.ifCond .lt 14, 3) := by decide +kernel
theorem dX8_in_6 : decode cX8_in 6 = .ok (.lload_n 0, 1) := by decide +kernel
theorem dX8_in_7 : decode cX8_in 7 = .ok (.lload 4, 2) := by decide +kernel
theorem dX8_in_9 : decode cX8_in 9 = .ok (.lcmp, 1) := by decide +kernel
theorem dX8_in_10 : decode cX8_in 10 = .ok (.ifCond .gt 7, 3) := by decide +kernel
theorem dX8_in_13 : decode cX8_in 13 = .ok (.iconst 1, 1) := by decide +kernel
theorem dX8_in_14 : decode cX8_in 14 = .ok (.goto 4, 3) := by decide +kernel
theorem dX8_in_17 : decode cX8_in 17 = .ok (.iconst 0, 1) := by decide +kernel
theorem dX8_in_18 : decode cX8_in 18 = .ok (.ireturn, 1) := by decide +kernel
theorem dX8_has_0 : decode cX8_has 0 = .ok (.iload_n 0, 1) := by decide +kernel
theorem dX8_has_1 : decode cX8_has 1 = .ok (.iload_n 1, 1) := by decide +kernel
theorem dX8_has_2 : decode cX8_has 2 = .ok (.ishr, 1) := by decide +kernel
theorem dX8_has_3 : decode cX8_has 3 = .ok (.iconst 1, 1) := by decide +kernel
theorem dX8_has_4 : decode cX8_has 4 = .ok (.iand, 1) := by decide +kernel
theorem dX8_has_5 : decode cX8_has 5 = .ok (.iconst 1, 1) := by decide +kernel
theorem dX8_has_6 : decode cX8_has 6 = .ok (.if_icmp .ne 7, 3) := by decide +kernel
theorem dX8_has_9 : decode cX8_has 9 = .ok (.iconst 1, 1) := by decide +kernel
theorem dX8_has_10 : decode cX8_has 10 = .ok (.goto 4, 3) := by decide +kernel
theorem dX8_has_13 : decode cX8_has 13 = .ok (.iconst 0, 1) := by decide +kernel
theorem dX8_has_14 : decode cX8_has 14 = .ok (.ireturn, 1) := by decide +kernel
theorem dX8_many_0 : decode cX8_many 0 = .ok (.iconst 0, 1) := by decide +kernel
theorem dX8_many_1 : decode cX8_many 1 = .ok (.istore_n 1, 1) := by decide +kernel
theorem dX8_many_2 : decode cX8_many 2 = .ok (.iconst 0, 1) := by decide +kernel
theorem dX8_many_3 : decode cX8_many 3 = .ok (.istore_n 2, 1) := by decide +kernel
theorem dX8_many_4 : decode cX8_many 4 = .ok (.iload_n 2, 1) := by decide +kernel
theorem dX8_many_5 : decode cX8_many 5 = .ok (.iconst 4, 1) := by decide +kernel
theorem dX8_many_6 : decode cX8_many 6 = .ok (.if_icmp .ge 17, 3) := by decide +kernel
theorem dX8_many_9 : decode cX8_many 9 = .ok (.iload_n 1, 1) := by decide +kernel
theorem dX8_many_10 : decode cX8_many 10 = .ok (.iload_n 0, 1) := by decide +kernel
theorem dX8_many_11 : decode cX8_many 11 = .ok (.iload_n 2, 1) := by decide +kernel
theorem dX8_many_12 : decode cX8_many 12 = .ok (.ishr, 1) := by decide +kernel
theorem dX8_many_13 : decode cX8_many 13 = .ok (.iconst 1, 1) := by decide +kernel
theorem dX8_many_14 : decode cX8_many 14 = .ok (.iand, 1) := by decide +kernel
theorem dX8_many_15 : decode cX8_many 15 = .ok (.iadd, 1) := by decide +kernel
theorem dX8_many_16 : decode cX8_many 16 = .ok (.istore_n 1, 1) := by decide +kernel
theorem dX8_many_17 : decode cX8_many 17 = .ok (.iinc 2 1, 3) := by decide +kernel
theorem dX8_many_20 : decode cX8_many 20 = .ok (.goto (-16), 3) := by decide +kernel
theorem dX8_many_23 : decode cX8_many 23 = .ok (.iload_n 1, 1) := by decide +kernel
theorem dX8_many_24 : decode cX8_many 24 = .ok (.ireturn, 1) := by decide +kernel
theorem dX8_noQuestion_0 : decode cX8_noQuestion 0 = .ok (.iload_n 1, 1) := by decide +kernel
theorem dX8_noQuestion_1 : decode cX8_noQuestion 1 = .ok (.i2l, 1) := by decide +kernel
theorem dX8_noQuestion_2 : decode cX8_noQuestion 2 = .ok (.lconst 0, 1) := by decide +kernel
theorem dX8_noQuestion_3 : decode cX8_noQuestion 3 = .ok (.aload_n 0, 1) := by decide +kernel
theorem dX8_noQuestion_4 : decode cX8_noQuestion 4 = .ok (.getfield 63, 3) := by decide +kernel
theorem dX8_noQuestion_7 : decode cX8_noQuestion 7 = .ok (.iconst 1, 1) := by decide +kernel
theorem dX8_noQuestion_8 : decode cX8_noQuestion 8 = .ok (.isub, 1) := by decide +kernel
theorem dX8_noQuestion_9 : decode cX8_noQuestion 9 = .ok (.i2l, 1) := by decide +kernel
theorem dX8_noQuestion_10 : decode cX8_noQuestion 10 = .ok (.invokestatic 66, 3) := by decide +kernel
theorem dX8_noQuestion_13 : decode cX8_noQuestion 13 = .ok (.ifCond .ne 7, 3) := by decide +kernel
theorem dX8_noQuestion_16 : decode cX8_noQuestion 16 = .ok (.iconst 1, 1) := by decide +kernel
theorem dX8_noQuestion_17 : decode cX8_noQuestion 17 = .ok (.goto 4, 3) := by decide +kernel
theorem dX8_noQuestion_20 : decode cX8_noQuestion 20 = .ok (.iconst 0, 1) := by decide +kernel
theorem dX8_noQuestion_21 : decode cX8_noQuestion 21 = .ok (.ireturn, 1) := by decide +kernel
theorem dX8_noDeed_0 : decode cX8_noDeed 0 = .ok (.iload_n 1, 1) := by decide +kernel
theorem dX8_noDeed_1 : decode cX8_noDeed 1 = .ok (.i2l, 1) := by decide +kernel
theorem dX8_noDeed_2 : decode cX8_noDeed 2 = .ok (.lconst 0, 1) := by decide +kernel
theorem dX8_noDeed_3 : decode cX8_noDeed 3 = .ok (.aload_n 0, 1) := by decide +kernel
theorem dX8_noDeed_4 : decode cX8_noDeed 4 = .ok (.getfield 70, 3) := by decide +kernel
theorem dX8_noDeed_7 : decode cX8_noDeed 7 = .ok (.iconst 1, 1) := by decide +kernel
theorem dX8_noDeed_8 : decode cX8_noDeed 8 = .ok (.isub, 1) := by decide +kernel
theorem dX8_noDeed_9 : decode cX8_noDeed 9 = .ok (.i2l, 1) := by decide +kernel
theorem dX8_noDeed_10 : decode cX8_noDeed 10 = .ok (.invokestatic 66, 3) := by decide +kernel
theorem dX8_noDeed_13 : decode cX8_noDeed 13 = .ok (.ifCond .ne 7, 3) := by decide +kernel
theorem dX8_noDeed_16 : decode cX8_noDeed 16 = .ok (.iconst 1, 1) := by decide +kernel
theorem dX8_noDeed_17 : decode cX8_noDeed 17 = .ok (.goto 4, 3) := by decide +kernel
theorem dX8_noDeed_20 : decode cX8_noDeed 20 = .ok (.iconst 0, 1) := by decide +kernel
theorem dX8_noDeed_21 : decode cX8_noDeed 21 = .ok (.ireturn, 1) := by decide +kernel
theorem dX8_write_0 : decode cX8_write 0 = .ok (.aload_n 0, 1) := by decide +kernel
theorem dX8_write_1 : decode cX8_write 1 = .ok (.iconst 0, 1) := by decide +kernel
theorem dX8_write_2 : decode cX8_write 2 = .ok (.putfield 59, 3) := by decide +kernel
theorem dX8_write_5 : decode cX8_write 5 = .ok (.iload_n 1, 1) := by decide +kernel
theorem dX8_write_6 : decode cX8_write 6 = .ok (.i2l, 1) := by decide +kernel
theorem dX8_write_7 : decode cX8_write 7 = .ok (.lconst 0, 1) := by decide +kernel
theorem dX8_write_8 : decode cX8_write 8 = .ok (.ldc2_w 73, 3) := by decide +kernel
theorem dX8_write_11 : decode cX8_write 11 = .ok (.invokestatic 66, 3) := by decide +kernel
theorem dX8_write_14 : decode cX8_write 14 = .ok (.ifCond .ne 6, 3) := by decide +kernel
theorem dX8_write_17 : decode cX8_write 17 = .ok (.bipush (-2), 2) := by decide +kernel
theorem dX8_write_19 : decode cX8_write 19 = .ok (.ireturn, 1) := by decide +kernel
theorem dX8_write_20 : decode cX8_write 20 = .ok (.aload_n 0, 1) := by decide +kernel
theorem dX8_write_21 : decode cX8_write 21 = .ok (.getfield 75, 3) := by decide +kernel
theorem dX8_write_24 : decode cX8_write 24 = .ok (.bipush 64, 2) := by decide +kernel
theorem dX8_write_26 : decode cX8_write 26 = .ok (.if_icmp .ne 6, 3) := by decide +kernel
theorem dX8_write_29 : decode cX8_write 29 = .ok (.bipush (-4), 2) := by decide +kernel
theorem dX8_write_31 : decode cX8_write 31 = .ok (.ireturn, 1) := by decide +kernel
theorem dX8_write_32 : decode cX8_write 32 = .ok (.aload_n 0, 1) := by decide +kernel
theorem dX8_write_33 : decode cX8_write 33 = .ok (.getfield 7, 3) := by decide +kernel
theorem dX8_write_36 : decode cX8_write 36 = .ok (.aload_n 0, 1) := by decide +kernel
theorem dX8_write_37 : decode cX8_write 37 = .ok (.getfield 75, 3) := by decide +kernel
theorem dX8_write_40 : decode cX8_write 40 = .ok (.iload_n 1, 1) := by decide +kernel
theorem dX8_write_41 : decode cX8_write 41 = .ok (.iastore, 1) := by decide +kernel
theorem dX8_write_42 : decode cX8_write 42 = .ok (.aload_n 0, 1) := by decide +kernel
theorem dX8_write_43 : decode cX8_write 43 = .ok (.dup, 1) := by decide +kernel
theorem dX8_write_44 : decode cX8_write 44 = .ok (.getfield 75, 3) := by decide +kernel
theorem dX8_write_47 : decode cX8_write 47 = .ok (.iconst 1, 1) := by decide +kernel
theorem dX8_write_48 : decode cX8_write 48 = .ok (.iadd, 1) := by decide +kernel
theorem dX8_write_49 : decode cX8_write 49 = .ok (.putfield 75, 3) := by decide +kernel
theorem dX8_write_52 : decode cX8_write 52 = .ok (.aload_n 0, 1) := by decide +kernel
theorem dX8_write_53 : decode cX8_write 53 = .ok (.getfield 75, 3) := by decide +kernel
theorem dX8_write_56 : decode cX8_write 56 = .ok (.ireturn, 1) := by decide +kernel
theorem dX8_wipe_0 : decode cX8_wipe 0 = .ok (.aload_n 0, 1) := by decide +kernel
theorem dX8_wipe_1 : decode cX8_wipe 1 = .ok (.iconst 0, 1) := by decide +kernel
theorem dX8_wipe_2 : decode cX8_wipe 2 = .ok (.putfield 59, 3) := by decide +kernel
theorem dX8_wipe_5 : decode cX8_wipe 5 = .ok (.aload_n 0, 1) := by decide +kernel
theorem dX8_wipe_6 : decode cX8_wipe 6 = .ok (.getfield 75, 3) := by decide +kernel
theorem dX8_wipe_9 : decode cX8_wipe 9 = .ok (.istore_n 1, 1) := by decide +kernel
theorem dX8_wipe_10 : decode cX8_wipe 10 = .ok (.aload_n 0, 1) := by decide +kernel
theorem dX8_wipe_11 : decode cX8_wipe 11 = .ok (.iconst 0, 1) := by decide +kernel
theorem dX8_wipe_12 : decode cX8_wipe 12 = .ok (.putfield 75, 3) := by decide +kernel
theorem dX8_wipe_15 : decode cX8_wipe 15 = .ok (.iload_n 1, 1) := by decide +kernel
theorem dX8_wipe_16 : decode cX8_wipe 16 = .ok (.ireturn, 1) := by decide +kernel
theorem dX8_figure_0 : decode cX8_figure 0 = .ok (.aload_n 0, 1) := by decide +kernel
theorem dX8_figure_1 : decode cX8_figure 1 = .ok (.getfield 78, 3) := by decide +kernel
theorem dX8_figure_4 : decode cX8_figure 4 = .ok (.aload_n 0, 1) := by decide +kernel
theorem dX8_figure_5 : decode cX8_figure 5 = .ok (.getfield 75, 3) := by decide +kernel
theorem dX8_figure_8 : decode cX8_figure 8 = .ok (.if_icmp .eq 26, 3) := by decide +kernel
theorem dX8_figure_11 : decode cX8_figure 11 = .ok (.aload_n 0, 1) := by decide +kernel
theorem dX8_figure_12 : decode cX8_figure 12 = .ok (.getfield 7, 3) := by decide +kernel
theorem dX8_figure_15 : decode cX8_figure 15 = .ok (.aload_n 0, 1) := by decide +kernel
theorem dX8_figure_16 : decode cX8_figure 16 = .ok (.getfield 78, 3) := by decide +kernel
theorem dX8_figure_19 : decode cX8_figure 19 = .ok (.iaload, 1) := by decide +kernel
theorem dX8_figure_20 : decode cX8_figure 20 = .ok (.bipush 48, 2) := by decide +kernel
theorem dX8_figure_22 : decode cX8_figure 22 = .ok (.isub, 1) := by decide +kernel
theorem dX8_figure_23 : decode cX8_figure 23 = .ok (.i2l, 1) := by decide +kernel
theorem dX8_figure_24 : decode cX8_figure 24 = .ok (.iload_n 1, 1) := by decide +kernel
theorem dX8_figure_25 : decode cX8_figure 25 = .ok (.i2l, 1) := by decide +kernel
theorem dX8_figure_26 : decode cX8_figure 26 = .ok (.iload_n 2, 1) := by decide +kernel
theorem dX8_figure_27 : decode cX8_figure 27 = .ok (.i2l, 1) := by decide +kernel
theorem dX8_figure_28 : decode cX8_figure 28 = .ok (.invokestatic 66, 3) := by decide +kernel
theorem dX8_figure_31 : decode cX8_figure 31 = .ok (.ifCond .ne 6, 3) := by decide +kernel
theorem dX8_figure_34 : decode cX8_figure 34 = .ok (.bipush (-9), 2) := by decide +kernel
theorem dX8_figure_36 : decode cX8_figure 36 = .ok (.ireturn, 1) := by decide +kernel
theorem dX8_figure_37 : decode cX8_figure 37 = .ok (.aload_n 0, 1) := by decide +kernel
theorem dX8_figure_38 : decode cX8_figure 38 = .ok (.dup, 1) := by decide +kernel
theorem dX8_figure_39 : decode cX8_figure 39 = .ok (.getfield 78, 3) := by decide +kernel
theorem dX8_figure_42 : decode cX8_figure 42 = .ok (.iconst 1, 1) := by decide +kernel
theorem dX8_figure_43 : decode cX8_figure 43 = .ok (.iadd, 1) := by decide +kernel
theorem dX8_figure_44 : decode cX8_figure 44 = .ok (.putfield 78, 3) := by decide +kernel
theorem dX8_figure_47 : decode cX8_figure 47 = .ok (.aload_n 0, 1) := by decide +kernel
theorem dX8_figure_48 : decode cX8_figure 48 = .ok (.getfield 7, 3) := by decide +kernel
theorem dX8_figure_51 : decode cX8_figure 51 = .ok (.aload_n 0, 1) := by decide +kernel
theorem dX8_figure_52 : decode cX8_figure 52 = .ok (.getfield 78, 3) := by decide +kernel
theorem dX8_figure_55 : decode cX8_figure 55 = .ok (.iconst 1, 1) := by decide +kernel
theorem dX8_figure_56 : decode cX8_figure 56 = .ok (.isub, 1) := by decide +kernel
theorem dX8_figure_57 : decode cX8_figure 57 = .ok (.iaload, 1) := by decide +kernel
theorem dX8_figure_58 : decode cX8_figure 58 = .ok (.bipush 48, 2) := by decide +kernel
theorem dX8_figure_60 : decode cX8_figure 60 = .ok (.isub, 1) := by decide +kernel
theorem dX8_figure_61 : decode cX8_figure 61 = .ok (.ireturn, 1) := by decide +kernel
theorem dX8_readThing_0 : decode cX8_readThing 0 = .ok (.iconst 0, 1) := by decide +kernel
theorem dX8_readThing_1 : decode cX8_readThing 1 = .ok (.istore_n 1, 1) := by decide +kernel
theorem dX8_readThing_2 : decode cX8_readThing 2 = .ok (.iload_n 1, 1) := by decide +kernel
theorem dX8_readThing_3 : decode cX8_readThing 3 = .ok (.iconst 3, 1) := by decide +kernel
theorem dX8_readThing_4 : decode cX8_readThing 4 = .ok (.if_icmp .ge 62, 3) := by decide +kernel
theorem dX8_readThing_7 : decode cX8_readThing 7 = .ok (.iload_n 1, 1) := by decide +kernel
theorem dX8_readThing_8 : decode cX8_readThing 8 = .ok (.ifCond .ne 13, 3) := by decide +kernel
theorem dX8_readThing_11 : decode cX8_readThing 11 = .ok (.aload_n 0, 1) := by decide +kernel
theorem dX8_readThing_12 : decode cX8_readThing 12 = .ok (.iconst 1, 1) := by decide +kernel
theorem dX8_readThing_13 : decode cX8_readThing 13 = .ok (.bipush 9, 2) := by decide +kernel
theorem dX8_readThing_15 : decode cX8_readThing 15 = .ok (.invokevirtual 81, 3) := by decide +kernel
theorem dX8_readThing_18 : decode cX8_readThing 18 = .ok (.goto 19, 3) := by decide +kernel
theorem dX8_readThing_21 : decode cX8_readThing 21 = .ok (.aload_n 0, 1) := by decide +kernel
theorem dX8_readThing_22 : decode cX8_readThing 22 = .ok (.iconst 0, 1) := by decide +kernel
theorem dX8_readThing_23 : decode cX8_readThing 23 = .ok (.iload_n 1, 1) := by decide +kernel
theorem dX8_readThing_24 : decode cX8_readThing 24 = .ok (.iconst 1, 1) := by decide +kernel
theorem dX8_readThing_25 : decode cX8_readThing 25 = .ok (.if_icmp .ne 8, 3) := by decide +kernel
theorem dX8_readThing_28 : decode cX8_readThing 28 = .ok (.bipush 9, 2) := by decide +kernel
theorem dX8_readThing_30 : decode cX8_readThing 30 = .ok (.goto 4, 3) := by decide +kernel
theorem dX8_readThing_33 : decode cX8_readThing 33 = .ok (.iconst 3, 1) := by decide +kernel
theorem dX8_readThing_34 : decode cX8_readThing 34 = .ok (.invokevirtual 81, 3) := by decide +kernel
theorem dX8_readThing_37 : decode cX8_readThing 37 = .ok (.istore_n 2, 1) := by decide +kernel
theorem dX8_readThing_38 : decode cX8_readThing 38 = .ok (.iload_n 2, 1) := by decide +kernel
theorem dX8_readThing_39 : decode cX8_readThing 39 = .ok (.bipush (-9), 2) := by decide +kernel
theorem dX8_readThing_41 : decode cX8_readThing 41 = .ok (.if_icmp .ne 5, 3) := by decide +kernel
theorem dX8_readThing_44 : decode cX8_readThing 44 = .ok (.iconst 0, 1) := by decide +kernel
theorem dX8_readThing_45 : decode cX8_readThing 45 = .ok (.ireturn, 1) := by decide +kernel
theorem dX8_readThing_46 : decode cX8_readThing 46 = .ok (.aload_n 0, 1) := by decide +kernel
theorem dX8_readThing_47 : decode cX8_readThing 47 = .ok (.getfield 22, 3) := by decide +kernel
theorem dX8_readThing_50 : decode cX8_readThing 50 = .ok (.iconst 3, 1) := by decide +kernel
theorem dX8_readThing_51 : decode cX8_readThing 51 = .ok (.aload_n 0, 1) := by decide +kernel
theorem dX8_readThing_52 : decode cX8_readThing 52 = .ok (.getfield 85, 3) := by decide +kernel
theorem dX8_readThing_55 : decode cX8_readThing 55 = .ok (.imul, 1) := by decide +kernel
theorem dX8_readThing_56 : decode cX8_readThing 56 = .ok (.iload_n 1, 1) := by decide +kernel
theorem dX8_readThing_57 : decode cX8_readThing 57 = .ok (.iadd, 1) := by decide +kernel
theorem dX8_readThing_58 : decode cX8_readThing 58 = .ok (.iload_n 2, 1) := by decide +kernel
theorem dX8_readThing_59 : decode cX8_readThing 59 = .ok (.iastore, 1) := by decide +kernel
theorem dX8_readThing_60 : decode cX8_readThing 60 = .ok (.iinc 1 1, 3) := by decide +kernel
theorem dX8_readThing_63 : decode cX8_readThing 63 = .ok (.goto (-61), 3) := by decide +kernel
theorem dX8_readThing_66 : decode cX8_readThing 66 = .ok (.aload_n 0, 1) := by decide +kernel
theorem dX8_readThing_67 : decode cX8_readThing 67 = .ok (.dup, 1) := by decide +kernel
theorem dX8_readThing_68 : decode cX8_readThing 68 = .ok (.getfield 85, 3) := by decide +kernel
theorem dX8_readThing_71 : decode cX8_readThing 71 = .ok (.iconst 1, 1) := by decide +kernel
theorem dX8_readThing_72 : decode cX8_readThing 72 = .ok (.iadd, 1) := by decide +kernel
theorem dX8_readThing_73 : decode cX8_readThing 73 = .ok (.putfield 85, 3) := by decide +kernel
theorem dX8_readThing_76 : decode cX8_readThing 76 = .ok (.iconst 1, 1) := by decide +kernel
theorem dX8_readThing_77 : decode cX8_readThing 77 = .ok (.ireturn, 1) := by decide +kernel
theorem dX8_readQuestion_0 : decode cX8_readQuestion 0 = .ok (.iconst 0, 1) := by decide +kernel
theorem dX8_readQuestion_1 : decode cX8_readQuestion 1 = .ok (.istore_n 1, 1) := by decide +kernel
theorem dX8_readQuestion_2 : decode cX8_readQuestion 2 = .ok (.iload_n 1, 1) := by decide +kernel
theorem dX8_readQuestion_3 : decode cX8_readQuestion 3 = .ok (.iconst 4, 1) := by decide +kernel
theorem dX8_readQuestion_4 : decode cX8_readQuestion 4 = .ok (.if_icmp .ge 86, 3) := by decide +kernel
theorem dX8_readQuestion_7 : decode cX8_readQuestion 7 = .ok (.iload_n 1, 1) := by decide +kernel
theorem dX8_readQuestion_8 : decode cX8_readQuestion 8 = .ok (.ifCond .ne 17, 3) := by decide +kernel
theorem dX8_readQuestion_11 : decode cX8_readQuestion 11 = .ok (.aload_n 0, 1) := by decide +kernel
theorem dX8_readQuestion_12 : decode cX8_readQuestion 12 = .ok (.iconst 0, 1) := by decide +kernel
theorem dX8_readQuestion_13 : decode cX8_readQuestion 13 = .ok (.aload_n 0, 1) := by decide +kernel
theorem dX8_readQuestion_14 : decode cX8_readQuestion 14 = .ok (.getfield 85, 3) := by decide +kernel
theorem dX8_readQuestion_17 : decode cX8_readQuestion 17 = .ok (.iconst 1, 1) := by decide +kernel
theorem dX8_readQuestion_18 : decode cX8_readQuestion 18 = .ok (.isub, 1) := by decide +kernel
theorem dX8_readQuestion_19 : decode cX8_readQuestion 19 = .ok (.invokevirtual 81, 3) := by decide +kernel
theorem dX8_readQuestion_22 : decode cX8_readQuestion 22 = .ok (.goto 39, 3) := by decide +kernel
theorem dX8_readQuestion_25 : decode cX8_readQuestion 25 = .ok (.iload_n 1, 1) := by decide +kernel
theorem dX8_readQuestion_26 : decode cX8_readQuestion 26 = .ok (.iconst 1, 1) := by decide +kernel
theorem dX8_readQuestion_27 : decode cX8_readQuestion 27 = .ok (.if_icmp .ne 13, 3) := by decide +kernel
theorem dX8_readQuestion_30 : decode cX8_readQuestion 30 = .ok (.aload_n 0, 1) := by decide +kernel
theorem dX8_readQuestion_31 : decode cX8_readQuestion 31 = .ok (.iconst 1, 1) := by decide +kernel
theorem dX8_readQuestion_32 : decode cX8_readQuestion 32 = .ok (.bipush 9, 2) := by decide +kernel
theorem dX8_readQuestion_34 : decode cX8_readQuestion 34 = .ok (.invokevirtual 81, 3) := by decide +kernel
theorem dX8_readQuestion_37 : decode cX8_readQuestion 37 = .ok (.goto 24, 3) := by decide +kernel
theorem dX8_readQuestion_40 : decode cX8_readQuestion 40 = .ok (.iload_n 1, 1) := by decide +kernel
theorem dX8_readQuestion_41 : decode cX8_readQuestion 41 = .ok (.iconst 2, 1) := by decide +kernel
theorem dX8_readQuestion_42 : decode cX8_readQuestion 42 = .ok (.if_icmp .ne 12, 3) := by decide +kernel
theorem dX8_readQuestion_45 : decode cX8_readQuestion 45 = .ok (.aload_n 0, 1) := by decide +kernel
theorem dX8_readQuestion_46 : decode cX8_readQuestion 46 = .ok (.iconst 0, 1) := by decide +kernel
theorem dX8_readQuestion_47 : decode cX8_readQuestion 47 = .ok (.iconst 1, 1) := by decide +kernel
theorem dX8_readQuestion_48 : decode cX8_readQuestion 48 = .ok (.invokevirtual 81, 3) := by decide +kernel
theorem dX8_readQuestion_51 : decode cX8_readQuestion 51 = .ok (.goto 10, 3) := by decide +kernel
theorem dX8_readQuestion_54 : decode cX8_readQuestion 54 = .ok (.aload_n 0, 1) := by decide +kernel
theorem dX8_readQuestion_55 : decode cX8_readQuestion 55 = .ok (.iconst 0, 1) := by decide +kernel
theorem dX8_readQuestion_56 : decode cX8_readQuestion 56 = .ok (.bipush 9, 2) := by decide +kernel
theorem dX8_readQuestion_58 : decode cX8_readQuestion 58 = .ok (.invokevirtual 81, 3) := by decide +kernel
theorem dX8_readQuestion_61 : decode cX8_readQuestion 61 = .ok (.istore_n 2, 1) := by decide +kernel
theorem dX8_readQuestion_62 : decode cX8_readQuestion 62 = .ok (.iload_n 2, 1) := by decide +kernel
theorem dX8_readQuestion_63 : decode cX8_readQuestion 63 = .ok (.bipush (-9), 2) := by decide +kernel
theorem dX8_readQuestion_65 : decode cX8_readQuestion 65 = .ok (.if_icmp .ne 5, 3) := by decide +kernel
theorem dX8_readQuestion_68 : decode cX8_readQuestion 68 = .ok (.iconst 0, 1) := by decide +kernel
theorem dX8_readQuestion_69 : decode cX8_readQuestion 69 = .ok (.ireturn, 1) := by decide +kernel
theorem dX8_readQuestion_70 : decode cX8_readQuestion 70 = .ok (.aload_n 0, 1) := by decide +kernel
theorem dX8_readQuestion_71 : decode cX8_readQuestion 71 = .ok (.getfield 25, 3) := by decide +kernel
theorem dX8_readQuestion_74 : decode cX8_readQuestion 74 = .ok (.iconst 4, 1) := by decide +kernel
theorem dX8_readQuestion_75 : decode cX8_readQuestion 75 = .ok (.aload_n 0, 1) := by decide +kernel
theorem dX8_readQuestion_76 : decode cX8_readQuestion 76 = .ok (.getfield 88, 3) := by decide +kernel
theorem dX8_readQuestion_79 : decode cX8_readQuestion 79 = .ok (.imul, 1) := by decide +kernel
theorem dX8_readQuestion_80 : decode cX8_readQuestion 80 = .ok (.iload_n 1, 1) := by decide +kernel
theorem dX8_readQuestion_81 : decode cX8_readQuestion 81 = .ok (.iadd, 1) := by decide +kernel
theorem dX8_readQuestion_82 : decode cX8_readQuestion 82 = .ok (.iload_n 2, 1) := by decide +kernel
theorem dX8_readQuestion_83 : decode cX8_readQuestion 83 = .ok (.iastore, 1) := by decide +kernel
theorem dX8_readQuestion_84 : decode cX8_readQuestion 84 = .ok (.iinc 1 1, 3) := by decide +kernel
theorem dX8_readQuestion_87 : decode cX8_readQuestion 87 = .ok (.goto (-85), 3) := by decide +kernel
theorem dX8_readQuestion_90 : decode cX8_readQuestion 90 = .ok (.aload_n 0, 1) := by decide +kernel
theorem dX8_readQuestion_91 : decode cX8_readQuestion 91 = .ok (.dup, 1) := by decide +kernel
theorem dX8_readQuestion_92 : decode cX8_readQuestion 92 = .ok (.getfield 88, 3) := by decide +kernel
theorem dX8_readQuestion_95 : decode cX8_readQuestion 95 = .ok (.iconst 1, 1) := by decide +kernel
theorem dX8_readQuestion_96 : decode cX8_readQuestion 96 = .ok (.iadd, 1) := by decide +kernel
theorem dX8_readQuestion_97 : decode cX8_readQuestion 97 = .ok (.putfield 88, 3) := by decide +kernel
theorem dX8_readQuestion_100 : decode cX8_readQuestion 100 = .ok (.iconst 1, 1) := by decide +kernel
theorem dX8_readQuestion_101 : decode cX8_readQuestion 101 = .ok (.ireturn, 1) := by decide +kernel
theorem dX8_readDeed_0 : decode cX8_readDeed 0 = .ok (.iconst 0, 1) := by decide +kernel
theorem dX8_readDeed_1 : decode cX8_readDeed 1 = .ok (.istore_n 1, 1) := by decide +kernel
theorem dX8_readDeed_2 : decode cX8_readDeed 2 = .ok (.iload_n 1, 1) := by decide +kernel
theorem dX8_readDeed_3 : decode cX8_readDeed 3 = .ok (.iconst 5, 1) := by decide +kernel
theorem dX8_readDeed_4 : decode cX8_readDeed 4 = .ok (.if_icmp .ge 90, 3) := by decide +kernel
theorem dX8_readDeed_7 : decode cX8_readDeed 7 = .ok (.iload_n 1, 1) := by decide +kernel
theorem dX8_readDeed_8 : decode cX8_readDeed 8 = .ok (.ifCond .ne 17, 3) := by decide +kernel
theorem dX8_readDeed_11 : decode cX8_readDeed 11 = .ok (.aload_n 0, 1) := by decide +kernel
theorem dX8_readDeed_12 : decode cX8_readDeed 12 = .ok (.iconst 0, 1) := by decide +kernel
theorem dX8_readDeed_13 : decode cX8_readDeed 13 = .ok (.aload_n 0, 1) := by decide +kernel
theorem dX8_readDeed_14 : decode cX8_readDeed 14 = .ok (.getfield 88, 3) := by decide +kernel
theorem dX8_readDeed_17 : decode cX8_readDeed 17 = .ok (.iconst 1, 1) := by decide +kernel
theorem dX8_readDeed_18 : decode cX8_readDeed 18 = .ok (.isub, 1) := by decide +kernel
theorem dX8_readDeed_19 : decode cX8_readDeed 19 = .ok (.invokevirtual 81, 3) := by decide +kernel
theorem dX8_readDeed_22 : decode cX8_readDeed 22 = .ok (.goto 43, 3) := by decide +kernel
theorem dX8_readDeed_25 : decode cX8_readDeed 25 = .ok (.iload_n 1, 1) := by decide +kernel
theorem dX8_readDeed_26 : decode cX8_readDeed 26 = .ok (.iconst 1, 1) := by decide +kernel
theorem dX8_readDeed_27 : decode cX8_readDeed 27 = .ok (.if_icmp .ne 12, 3) := by decide +kernel
theorem dX8_readDeed_30 : decode cX8_readDeed 30 = .ok (.aload_n 0, 1) := by decide +kernel
theorem dX8_readDeed_31 : decode cX8_readDeed 31 = .ok (.iconst 0, 1) := by decide +kernel
theorem dX8_readDeed_32 : decode cX8_readDeed 32 = .ok (.iconst 1, 1) := by decide +kernel
theorem dX8_readDeed_33 : decode cX8_readDeed 33 = .ok (.invokevirtual 81, 3) := by decide +kernel
theorem dX8_readDeed_36 : decode cX8_readDeed 36 = .ok (.goto 29, 3) := by decide +kernel
theorem dX8_readDeed_39 : decode cX8_readDeed 39 = .ok (.iload_n 1, 1) := by decide +kernel
theorem dX8_readDeed_40 : decode cX8_readDeed 40 = .ok (.iconst 3, 1) := by decide +kernel
theorem dX8_readDeed_41 : decode cX8_readDeed 41 = .ok (.if_icmp .ne 17, 3) := by decide +kernel
theorem dX8_readDeed_44 : decode cX8_readDeed 44 = .ok (.aload_n 0, 1) := by decide +kernel
theorem dX8_readDeed_45 : decode cX8_readDeed 45 = .ok (.iconst 0, 1) := by decide +kernel
theorem dX8_readDeed_46 : decode cX8_readDeed 46 = .ok (.aload_n 0, 1) := by decide +kernel
theorem dX8_readDeed_47 : decode cX8_readDeed 47 = .ok (.getfield 85, 3) := by decide +kernel
theorem dX8_readDeed_50 : decode cX8_readDeed 50 = .ok (.iconst 1, 1) := by decide +kernel
theorem dX8_readDeed_51 : decode cX8_readDeed 51 = .ok (.isub, 1) := by decide +kernel
theorem dX8_readDeed_52 : decode cX8_readDeed 52 = .ok (.invokevirtual 81, 3) := by decide +kernel
theorem dX8_readDeed_55 : decode cX8_readDeed 55 = .ok (.goto 10, 3) := by decide +kernel
theorem dX8_readDeed_58 : decode cX8_readDeed 58 = .ok (.aload_n 0, 1) := by decide +kernel
theorem dX8_readDeed_59 : decode cX8_readDeed 59 = .ok (.iconst 0, 1) := by decide +kernel
theorem dX8_readDeed_60 : decode cX8_readDeed 60 = .ok (.bipush 9, 2) := by decide +kernel
theorem dX8_readDeed_62 : decode cX8_readDeed 62 = .ok (.invokevirtual 81, 3) := by decide +kernel
theorem dX8_readDeed_65 : decode cX8_readDeed 65 = .ok (.istore_n 2, 1) := by decide +kernel
theorem dX8_readDeed_66 : decode cX8_readDeed 66 = .ok (.iload_n 2, 1) := by decide +kernel
theorem dX8_readDeed_67 : decode cX8_readDeed 67 = .ok (.bipush (-9), 2) := by decide +kernel
theorem dX8_readDeed_69 : decode cX8_readDeed 69 = .ok (.if_icmp .ne 5, 3) := by decide +kernel
theorem dX8_readDeed_72 : decode cX8_readDeed 72 = .ok (.iconst 0, 1) := by decide +kernel
theorem dX8_readDeed_73 : decode cX8_readDeed 73 = .ok (.ireturn, 1) := by decide +kernel
theorem dX8_readDeed_74 : decode cX8_readDeed 74 = .ok (.aload_n 0, 1) := by decide +kernel
theorem dX8_readDeed_75 : decode cX8_readDeed 75 = .ok (.getfield 28, 3) := by decide +kernel
theorem dX8_readDeed_78 : decode cX8_readDeed 78 = .ok (.iconst 5, 1) := by decide +kernel
theorem dX8_readDeed_79 : decode cX8_readDeed 79 = .ok (.aload_n 0, 1) := by decide +kernel
theorem dX8_readDeed_80 : decode cX8_readDeed 80 = .ok (.getfield 91, 3) := by decide +kernel
theorem dX8_readDeed_83 : decode cX8_readDeed 83 = .ok (.imul, 1) := by decide +kernel
theorem dX8_readDeed_84 : decode cX8_readDeed 84 = .ok (.iload_n 1, 1) := by decide +kernel
theorem dX8_readDeed_85 : decode cX8_readDeed 85 = .ok (.iadd, 1) := by decide +kernel
theorem dX8_readDeed_86 : decode cX8_readDeed 86 = .ok (.iload_n 2, 1) := by decide +kernel
theorem dX8_readDeed_87 : decode cX8_readDeed 87 = .ok (.iastore, 1) := by decide +kernel
theorem dX8_readDeed_88 : decode cX8_readDeed 88 = .ok (.iinc 1 1, 3) := by decide +kernel
theorem dX8_readDeed_91 : decode cX8_readDeed 91 = .ok (.goto (-89), 3) := by decide +kernel
theorem dX8_readDeed_94 : decode cX8_readDeed 94 = .ok (.aload_n 0, 1) := by decide +kernel
theorem dX8_readDeed_95 : decode cX8_readDeed 95 = .ok (.dup, 1) := by decide +kernel
theorem dX8_readDeed_96 : decode cX8_readDeed 96 = .ok (.getfield 91, 3) := by decide +kernel
theorem dX8_readDeed_99 : decode cX8_readDeed 99 = .ok (.iconst 1, 1) := by decide +kernel
theorem dX8_readDeed_100 : decode cX8_readDeed 100 = .ok (.iadd, 1) := by decide +kernel
theorem dX8_readDeed_101 : decode cX8_readDeed 101 = .ok (.putfield 91, 3) := by decide +kernel
theorem dX8_readDeed_104 : decode cX8_readDeed 104 = .ok (.iconst 1, 1) := by decide +kernel
theorem dX8_readDeed_105 : decode cX8_readDeed 105 = .ok (.ireturn, 1) := by decide +kernel
theorem dX8_readPart_0 : decode cX8_readPart 0 = .ok (.aload_n 0, 1) := by decide +kernel
theorem dX8_readPart_1 : decode cX8_readPart 1 = .ok (.getfield 7, 3) := by decide +kernel
theorem dX8_readPart_4 : decode cX8_readPart 4 = .ok (.aload_n 0, 1) := by decide +kernel
theorem dX8_readPart_5 : decode cX8_readPart 5 = .ok (.getfield 78, 3) := by decide +kernel
theorem dX8_readPart_8 : decode cX8_readPart 8 = .ok (.iaload, 1) := by decide +kernel
theorem dX8_readPart_9 : decode cX8_readPart 9 = .ok (.istore_n 1, 1) := by decide +kernel
theorem dX8_readPart_10 : decode cX8_readPart 10 = .ok (.iload_n 1, 1) := by decide +kernel
theorem dX8_readPart_11 : decode cX8_readPart 11 = .ok (.bipush 84, 2) := by decide +kernel
theorem dX8_readPart_13 : decode cX8_readPart 13 = .ok (.if_icmp .ne 26, 3) := by decide +kernel
theorem dX8_readPart_16 : decode cX8_readPart 16 = .ok (.aload_n 0, 1) := by decide +kernel
theorem dX8_readPart_17 : decode cX8_readPart 17 = .ok (.getfield 85, 3) := by decide +kernel
theorem dX8_readPart_20 : decode cX8_readPart 20 = .ok (.iconst 4, 1) := by decide +kernel
theorem dX8_readPart_21 : decode cX8_readPart 21 = .ok (.if_icmp .ge 18, 3) := by decide +kernel
theorem dX8_readPart_24 : decode cX8_readPart 24 = .ok (.aload_n 0, 1) := by decide +kernel
theorem dX8_readPart_25 : decode cX8_readPart 25 = .ok (.dup, 1) := by decide +kernel
theorem dX8_readPart_26 : decode cX8_readPart 26 = .ok (.getfield 78, 3) := by decide +kernel
theorem dX8_readPart_29 : decode cX8_readPart 29 = .ok (.iconst 1, 1) := by decide +kernel
theorem dX8_readPart_30 : decode cX8_readPart 30 = .ok (.iadd, 1) := by decide +kernel
theorem dX8_readPart_31 : decode cX8_readPart 31 = .ok (.putfield 78, 3) := by decide +kernel
theorem dX8_readPart_34 : decode cX8_readPart 34 = .ok (.aload_n 0, 1) := by decide +kernel
theorem dX8_readPart_35 : decode cX8_readPart 35 = .ok (.invokevirtual 94, 3) := by decide +kernel
theorem dX8_readPart_38 : decode cX8_readPart 38 = .ok (.ireturn, 1) := by decide +kernel
theorem dX8_readPart_39 : decode cX8_readPart 39 = .ok (.iload_n 1, 1) := by decide +kernel
theorem dX8_readPart_40 : decode cX8_readPart 40 = .ok (.bipush 81, 2) := by decide +kernel
theorem dX8_readPart_42 : decode cX8_readPart 42 = .ok (.if_icmp .ne 33, 3) := by decide +kernel
theorem dX8_readPart_45 : decode cX8_readPart 45 = .ok (.aload_n 0, 1) := by decide +kernel
theorem dX8_readPart_46 : decode cX8_readPart 46 = .ok (.getfield 85, 3) := by decide +kernel
theorem dX8_readPart_49 : decode cX8_readPart 49 = .ok (.ifCond .le 26, 3) := by decide +kernel
theorem dX8_readPart_52 : decode cX8_readPart 52 = .ok (.aload_n 0, 1) := by decide +kernel
theorem dX8_readPart_53 : decode cX8_readPart 53 = .ok (.getfield 88, 3) := by decide +kernel
theorem dX8_readPart_56 : decode cX8_readPart 56 = .ok (.iconst 4, 1) := by decide +kernel
theorem dX8_readPart_57 : decode cX8_readPart 57 = .ok (.if_icmp .ge 18, 3) := by decide +kernel
theorem dX8_readPart_60 : decode cX8_readPart 60 = .ok (.aload_n 0, 1) := by decide +kernel
theorem dX8_readPart_61 : decode cX8_readPart 61 = .ok (.dup, 1) := by decide +kernel
theorem dX8_readPart_62 : decode cX8_readPart 62 = .ok (.getfield 78, 3) := by decide +kernel
theorem dX8_readPart_65 : decode cX8_readPart 65 = .ok (.iconst 1, 1) := by decide +kernel
theorem dX8_readPart_66 : decode cX8_readPart 66 = .ok (.iadd, 1) := by decide +kernel
theorem dX8_readPart_67 : decode cX8_readPart 67 = .ok (.putfield 78, 3) := by decide +kernel
theorem dX8_readPart_70 : decode cX8_readPart 70 = .ok (.aload_n 0, 1) := by decide +kernel
theorem dX8_readPart_71 : decode cX8_readPart 71 = .ok (.invokevirtual 97, 3) := by decide +kernel
theorem dX8_readPart_74 : decode cX8_readPart 74 = .ok (.ireturn, 1) := by decide +kernel
theorem dX8_readPart_75 : decode cX8_readPart 75 = .ok (.iload_n 1, 1) := by decide +kernel
theorem dX8_readPart_76 : decode cX8_readPart 76 = .ok (.bipush 68, 2) := by decide +kernel
theorem dX8_readPart_78 : decode cX8_readPart 78 = .ok (.if_icmp .ne 33, 3) := by decide +kernel
theorem dX8_readPart_81 : decode cX8_readPart 81 = .ok (.aload_n 0, 1) := by decide +kernel
theorem dX8_readPart_82 : decode cX8_readPart 82 = .ok (.getfield 88, 3) := by decide +kernel
theorem dX8_readPart_85 : decode cX8_readPart 85 = .ok (.ifCond .le 26, 3) := by decide +kernel
theorem dX8_readPart_88 : decode cX8_readPart 88 = .ok (.aload_n 0, 1) := by decide +kernel
theorem dX8_readPart_89 : decode cX8_readPart 89 = .ok (.getfield 91, 3) := by decide +kernel
theorem dX8_readPart_92 : decode cX8_readPart 92 = .ok (.iconst 4, 1) := by decide +kernel
theorem dX8_readPart_93 : decode cX8_readPart 93 = .ok (.if_icmp .ge 18, 3) := by decide +kernel
theorem dX8_readPart_96 : decode cX8_readPart 96 = .ok (.aload_n 0, 1) := by decide +kernel
theorem dX8_readPart_97 : decode cX8_readPart 97 = .ok (.dup, 1) := by decide +kernel
theorem dX8_readPart_98 : decode cX8_readPart 98 = .ok (.getfield 78, 3) := by decide +kernel
theorem dX8_readPart_101 : decode cX8_readPart 101 = .ok (.iconst 1, 1) := by decide +kernel
theorem dX8_readPart_102 : decode cX8_readPart 102 = .ok (.iadd, 1) := by decide +kernel
theorem dX8_readPart_103 : decode cX8_readPart 103 = .ok (.putfield 78, 3) := by decide +kernel
theorem dX8_readPart_106 : decode cX8_readPart 106 = .ok (.aload_n 0, 1) := by decide +kernel
theorem dX8_readPart_107 : decode cX8_readPart 107 = .ok (.invokevirtual 99, 3) := by decide +kernel
theorem dX8_readPart_110 : decode cX8_readPart 110 = .ok (.ireturn, 1) := by decide +kernel
theorem dX8_readPart_111 : decode cX8_readPart 111 = .ok (.iconst 0, 1) := by decide +kernel
theorem dX8_readPart_112 : decode cX8_readPart 112 = .ok (.ireturn, 1) := by decide +kernel
theorem dX8_readWell_0 : decode cX8_readWell 0 = .ok (.aload_n 0, 1) := by decide +kernel
theorem dX8_readWell_1 : decode cX8_readWell 1 = .ok (.iconst 0, 1) := by decide +kernel
theorem dX8_readWell_2 : decode cX8_readWell 2 = .ok (.putfield 78, 3) := by decide +kernel
theorem dX8_readWell_5 : decode cX8_readWell 5 = .ok (.aload_n 0, 1) := by decide +kernel
theorem dX8_readWell_6 : decode cX8_readWell 6 = .ok (.iconst 0, 1) := by decide +kernel
