theorem dX8_factor_129 : decode cX8_factor 129 = .ok (.putfield 93, 3) := dk_181 (by decide +kernel)
theorem dX8_factor_132 : decode cX8_factor 132 = .ok (.aload_n 0, 1) := dk_42 (by decide +kernel)
theorem dX8_factor_133 : decode cX8_factor 133 = .ok (.dup, 1) := dk_89 (by decide +kernel)
theorem dX8_factor_134 : decode cX8_factor 134 = .ok (.getfield 100, 3) := dk_180 (by decide +kernel)
theorem dX8_factor_137 : decode cX8_factor 137 = .ok (.aload_n 0, 1) := dk_42 (by decide +kernel)
theorem dX8_factor_138 : decode cX8_factor 138 = .ok (.getfield 93, 3) := dk_180 (by decide +kernel)
theorem dX8_factor_141 : decode cX8_factor 141 = .ok (.ifCond .eq 7, 3) := dk_153 (by decide +kernel)
theorem dX8_factor_148 : decode cX8_factor 148 = .ok (.iconst 0, 1) := dk_3 (by decide +kernel)
theorem dX8_factor_149 : decode cX8_factor 149 = .ok (.iadd, 1) := dk_96 (by decide +kernel)
theorem dX8_factor_150 : decode cX8_factor 150 = .ok (.putfield 100, 3) := dk_181 (by decide +kernel)
theorem dX8_factor_153 : decode cX8_factor 153 = .ok (.aload_n 0, 1) := dk_42 (by decide +kernel)
theorem dX8_factor_154 : decode cX8_factor 154 = .ok (.dup, 1) := dk_89 (by decide +kernel)
theorem dX8_factor_155 : decode cX8_factor 155 = .ok (.getfield 122, 3) := dk_180 (by decide +kernel)
theorem dX8_factor_158 : decode cX8_factor 158 = .ok (.iconst 1, 1) := dk_4 (by decide +kernel)
theorem dX8_factor_159 : decode cX8_factor 159 = .ok (.isub, 1) := dk_100 (by decide +kernel)
theorem dX8_factor_160 : decode cX8_factor 160 = .ok (.putfield 122, 3) := dk_181 (by decide +kernel)
theorem dX8_factor_163 : decode cX8_factor 163 = .ok (.return_, 1) := dk_177 (by decide +kernel)
theorem dX8_factor_144 : decode cX8_factor 144 = .ok (.iconst 1, 1) := dk_4 (by decide +kernel)
theorem dX8_factor_145 : decode cX8_factor 145 = .ok (.goto 4, 3) := dk_167 (by decide +kernel)
theorem dX8_factor_43 : decode cX8_factor 43 = .ok (.aload_n 0, 1) := dk_42 (by decide +kernel)
theorem dX8_factor_44 : decode cX8_factor 44 = .ok (.getfield 122, 3) := dk_180 (by decide +kernel)
theorem dX8_factor_47 : decode cX8_factor 47 = .ok (.iconst 5, 1) := dk_8 (by decide +kernel)
theorem dX8_factor_48 : decode cX8_factor 48 = .ok (.if_icmp .ne 11, 3) := dk_160 (by decide +kernel)
theorem dX8_factor_59 : decode cX8_factor 59 = .ok (.aload_n 0, 1) := dk_42 (by decide +kernel)
theorem dX8_factor_60 : decode cX8_factor 60 = .ok (.dup, 1) := dk_89 (by decide +kernel)
theorem dX8_factor_61 : decode cX8_factor 61 = .ok (.getfield 122, 3) := dk_180 (by decide +kernel)
theorem dX8_factor_64 : decode cX8_factor 64 = .ok (.iconst 1, 1) := dk_4 (by decide +kernel)
theorem dX8_factor_65 : decode cX8_factor 65 = .ok (.iadd, 1) := dk_96 (by decide +kernel)
theorem dX8_factor_66 : decode cX8_factor 66 = .ok (.putfield 122, 3) := dk_181 (by decide +kernel)
theorem dX8_factor_69 : decode cX8_factor 69 = .ok (.aload_n 0, 1) := dk_42 (by decide +kernel)
theorem dX8_factor_70 : decode cX8_factor 70 = .ok (.dup, 1) := dk_89 (by decide +kernel)
theorem dX8_factor_71 : decode cX8_factor 71 = .ok (.getfield 100, 3) := dk_180 (by decide +kernel)
theorem dX8_factor_74 : decode cX8_factor 74 = .ok (.iconst 1, 1) := dk_4 (by decide +kernel)
theorem dX8_factor_75 : decode cX8_factor 75 = .ok (.iadd, 1) := dk_96 (by decide +kernel)
theorem dX8_factor_76 : decode cX8_factor 76 = .ok (.putfield 100, 3) := dk_181 (by decide +kernel)
theorem dX8_factor_79 : decode cX8_factor 79 = .ok (.iload_n 1, 1) := dk_27 (by decide +kernel)
theorem dX8_factor_80 : decode cX8_factor 80 = .ok (.bipush 33, 2) := dk_16 (by decide +kernel)
theorem dX8_factor_82 : decode cX8_factor 82 = .ok (.if_icmp .ne 17, 3) := dk_160 (by decide +kernel)
theorem dX8_factor_99 : decode cX8_factor 99 = .ok (.aload_n 0, 1) := dk_42 (by decide +kernel)
theorem dX8_factor_100 : decode cX8_factor 100 = .ok (.invokevirtual 128, 3) := dk_182 (by decide +kernel)
theorem dX8_factor_103 : decode cX8_factor 103 = .ok (.aload_n 0, 1) := dk_42 (by decide +kernel)
theorem dX8_factor_104 : decode cX8_factor 104 = .ok (.aload_n 0, 1) := dk_42 (by decide +kernel)
theorem dX8_factor_105 : decode cX8_factor 105 = .ok (.getfield 93, 3) := dk_180 (by decide +kernel)
theorem dX8_factor_108 : decode cX8_factor 108 = .ok (.ifCond .eq 20, 3) := dk_153 (by decide +kernel)
theorem dX8_factor_128 : decode cX8_factor 128 = .ok (.iconst 0, 1) := dk_3 (by decide +kernel)
theorem dX8_factor_111 : decode cX8_factor 111 = .ok (.aload_n 0, 1) := dk_42 (by decide +kernel)
theorem dX8_factor_112 : decode cX8_factor 112 = .ok (.aload_n 0, 1) := dk_42 (by decide +kernel)
theorem dX8_factor_113 : decode cX8_factor 113 = .ok (.getfield 100, 3) := dk_180 (by decide +kernel)
theorem dX8_factor_116 : decode cX8_factor 116 = .ok (.invokevirtual 103, 3) := dk_182 (by decide +kernel)
theorem dX8_factor_119 : decode cX8_factor 119 = .ok (.bipush 41, 2) := dk_16 (by decide +kernel)
theorem dX8_factor_121 : decode cX8_factor 121 = .ok (.if_icmp .ne 7, 3) := dk_160 (by decide +kernel)
theorem dX8_factor_124 : decode cX8_factor 124 = .ok (.iconst 1, 1) := dk_4 (by decide +kernel)
theorem dX8_factor_125 : decode cX8_factor 125 = .ok (.goto 4, 3) := dk_167 (by decide +kernel)
theorem dX8_factor_85 : decode cX8_factor 85 = .ok (.aload_n 0, 1) := dk_42 (by decide +kernel)
theorem dX8_factor_86 : decode cX8_factor 86 = .ok (.invokevirtual 125, 3) := dk_182 (by decide +kernel)
theorem dX8_factor_89 : decode cX8_factor 89 = .ok (.aload_n 0, 1) := dk_42 (by decide +kernel)
theorem dX8_factor_90 : decode cX8_factor 90 = .ok (.sipush 20033, 3) := dk_17 (by decide +kernel)
theorem dX8_factor_93 : decode cX8_factor 93 = .ok (.invokevirtual 109, 3) := dk_182 (by decide +kernel)
theorem dX8_factor_96 : decode cX8_factor 96 = .ok (.goto 57, 3) := dk_167 (by decide +kernel)
theorem dX8_factor_51 : decode cX8_factor 51 = .ok (.aload_n 0, 1) := dk_42 (by decide +kernel)
theorem dX8_factor_52 : decode cX8_factor 52 = .ok (.iconst 0, 1) := dk_3 (by decide +kernel)
theorem dX8_factor_53 : decode cX8_factor 53 = .ok (.putfield 93, 3) := dk_181 (by decide +kernel)
theorem dX8_factor_56 : decode cX8_factor 56 = .ok (.goto 107, 3) := dk_167 (by decide +kernel)
theorem dX8_factor_0 : decode cX8_factor 0 = .ok (.aload_n 0, 1) := dk_42 (by decide +kernel)
theorem dX8_factor_1 : decode cX8_factor 1 = .ok (.aload_n 0, 1) := dk_42 (by decide +kernel)
theorem dX8_factor_2 : decode cX8_factor 2 = .ok (.getfield 100, 3) := dk_180 (by decide +kernel)
theorem dX8_factor_5 : decode cX8_factor 5 = .ok (.invokevirtual 103, 3) := dk_182 (by decide +kernel)
theorem dX8_factor_8 : decode cX8_factor 8 = .ok (.istore_n 1, 1) := dk_60 (by decide +kernel)
theorem dX8_factor_9 : decode cX8_factor 9 = .ok (.iload_n 1, 1) := dk_27 (by decide +kernel)
theorem dX8_factor_10 : decode cX8_factor 10 = .ok (.invokestatic 106, 3) := dk_184 (by decide +kernel)
theorem dX8_factor_13 : decode cX8_factor 13 = .ok (.ifCond .eq 10, 3) := dk_153 (by decide +kernel)
theorem dX8_factor_23 : decode cX8_factor 23 = .ok (.iload_n 1, 1) := dk_27 (by decide +kernel)
theorem dX8_factor_24 : decode cX8_factor 24 = .ok (.bipush 33, 2) := dk_16 (by decide +kernel)
theorem dX8_factor_26 : decode cX8_factor 26 = .ok (.if_icmp .eq 17, 3) := dk_159 (by decide +kernel)
theorem dX8_factor_29 : decode cX8_factor 29 = .ok (.iload_n 1, 1) := dk_27 (by decide +kernel)
theorem dX8_factor_30 : decode cX8_factor 30 = .ok (.bipush 40, 2) := dk_16 (by decide +kernel)
theorem dX8_factor_32 : decode cX8_factor 32 = .ok (.if_icmp .eq 11, 3) := dk_159 (by decide +kernel)
theorem dX8_factor_35 : decode cX8_factor 35 = .ok (.aload_n 0, 1) := dk_42 (by decide +kernel)
theorem dX8_factor_36 : decode cX8_factor 36 = .ok (.iload_n 1, 1) := dk_27 (by decide +kernel)
theorem dX8_factor_37 : decode cX8_factor 37 = .ok (.invokevirtual 119, 3) := dk_182 (by decide +kernel)
theorem dX8_factor_40 : decode cX8_factor 40 = .ok (.goto 123, 3) := dk_167 (by decide +kernel)
theorem dX8_factor_16 : decode cX8_factor 16 = .ok (.aload_n 0, 1) := dk_42 (by decide +kernel)
theorem dX8_factor_17 : decode cX8_factor 17 = .ok (.invokevirtual 116, 3) := dk_182 (by decide +kernel)
theorem dX8_factor_20 : decode cX8_factor 20 = .ok (.goto 143, 3) := dk_167 (by decide +kernel)
theorem dX8_product_4 : decode cX8_product 4 = .ok (.aload_n 0, 1) := dk_42 (by decide +kernel)
theorem dX8_product_5 : decode cX8_product 5 = .ok (.getfield 93, 3) := dk_180 (by decide +kernel)
theorem dX8_product_8 : decode cX8_product 8 = .ok (.ifCond .eq 77, 3) := dk_153 (by decide +kernel)
theorem dX8_product_85 : decode cX8_product 85 = .ok (.return_, 1) := dk_177 (by decide +kernel)
theorem dX8_product_11 : decode cX8_product 11 = .ok (.aload_n 0, 1) := dk_42 (by decide +kernel)
theorem dX8_product_12 : decode cX8_product 12 = .ok (.aload_n 0, 1) := dk_42 (by decide +kernel)
theorem dX8_product_13 : decode cX8_product 13 = .ok (.getfield 100, 3) := dk_180 (by decide +kernel)
theorem dX8_product_16 : decode cX8_product 16 = .ok (.invokevirtual 103, 3) := dk_182 (by decide +kernel)
theorem dX8_product_19 : decode cX8_product 19 = .ok (.bipush 42, 2) := dk_16 (by decide +kernel)
theorem dX8_product_21 : decode cX8_product 21 = .ok (.if_icmp .eq 29, 3) := dk_159 (by decide +kernel)
theorem dX8_product_50 : decode cX8_product 50 = .ok (.aload_n 0, 1) := dk_42 (by decide +kernel)
theorem dX8_product_51 : decode cX8_product 51 = .ok (.aload_n 0, 1) := dk_42 (by decide +kernel)
theorem dX8_product_52 : decode cX8_product 52 = .ok (.getfield 100, 3) := dk_180 (by decide +kernel)
theorem dX8_product_55 : decode cX8_product 55 = .ok (.invokevirtual 103, 3) := dk_182 (by decide +kernel)
theorem dX8_product_58 : decode cX8_product 58 = .ok (.istore_n 1, 1) := dk_60 (by decide +kernel)
theorem dX8_product_59 : decode cX8_product 59 = .ok (.aload_n 0, 1) := dk_42 (by decide +kernel)
theorem dX8_product_60 : decode cX8_product 60 = .ok (.dup, 1) := dk_89 (by decide +kernel)
theorem dX8_product_61 : decode cX8_product 61 = .ok (.getfield 100, 3) := dk_180 (by decide +kernel)
theorem dX8_product_64 : decode cX8_product 64 = .ok (.iconst 1, 1) := dk_4 (by decide +kernel)
theorem dX8_product_65 : decode cX8_product 65 = .ok (.iadd, 1) := dk_96 (by decide +kernel)
theorem dX8_product_66 : decode cX8_product 66 = .ok (.putfield 100, 3) := dk_181 (by decide +kernel)
theorem dX8_product_69 : decode cX8_product 69 = .ok (.aload_n 0, 1) := dk_42 (by decide +kernel)
theorem dX8_product_70 : decode cX8_product 70 = .ok (.invokevirtual 125, 3) := dk_182 (by decide +kernel)
theorem dX8_product_73 : decode cX8_product 73 = .ok (.aload_n 0, 1) := dk_42 (by decide +kernel)
theorem dX8_product_74 : decode cX8_product 74 = .ok (.sipush 20000, 3) := dk_17 (by decide +kernel)
theorem dX8_product_77 : decode cX8_product 77 = .ok (.iload_n 1, 1) := dk_27 (by decide +kernel)
theorem dX8_product_78 : decode cX8_product 78 = .ok (.iadd, 1) := dk_96 (by decide +kernel)
theorem dX8_product_79 : decode cX8_product 79 = .ok (.invokevirtual 109, 3) := dk_182 (by decide +kernel)
theorem dX8_product_82 : decode cX8_product 82 = .ok (.goto (-78), 3) := dk_167 (by decide +kernel)
theorem dX8_product_24 : decode cX8_product 24 = .ok (.aload_n 0, 1) := dk_42 (by decide +kernel)
theorem dX8_product_25 : decode cX8_product 25 = .ok (.aload_n 0, 1) := dk_42 (by decide +kernel)
theorem dX8_product_26 : decode cX8_product 26 = .ok (.getfield 100, 3) := dk_180 (by decide +kernel)
theorem dX8_product_29 : decode cX8_product 29 = .ok (.invokevirtual 103, 3) := dk_182 (by decide +kernel)
theorem dX8_product_32 : decode cX8_product 32 = .ok (.bipush 47, 2) := dk_16 (by decide +kernel)
theorem dX8_product_34 : decode cX8_product 34 = .ok (.if_icmp .eq 16, 3) := dk_159 (by decide +kernel)
theorem dX8_product_37 : decode cX8_product 37 = .ok (.aload_n 0, 1) := dk_42 (by decide +kernel)
theorem dX8_product_38 : decode cX8_product 38 = .ok (.aload_n 0, 1) := dk_42 (by decide +kernel)
theorem dX8_product_39 : decode cX8_product 39 = .ok (.getfield 100, 3) := dk_180 (by decide +kernel)
theorem dX8_product_42 : decode cX8_product 42 = .ok (.invokevirtual 103, 3) := dk_182 (by decide +kernel)
theorem dX8_product_45 : decode cX8_product 45 = .ok (.bipush 37, 2) := dk_16 (by decide +kernel)
theorem dX8_product_47 : decode cX8_product 47 = .ok (.if_icmp .ne 38, 3) := dk_160 (by decide +kernel)
theorem dX8_product_0 : decode cX8_product 0 = .ok (.aload_n 0, 1) := dk_42 (by decide +kernel)
theorem dX8_product_1 : decode cX8_product 1 = .ok (.invokevirtual 125, 3) := dk_182 (by decide +kernel)
theorem dX8_sum_4 : decode cX8_sum 4 = .ok (.aload_n 0, 1) := dk_42 (by decide +kernel)
theorem dX8_sum_5 : decode cX8_sum 5 = .ok (.getfield 93, 3) := dk_180 (by decide +kernel)
theorem dX8_sum_8 : decode cX8_sum 8 = .ok (.ifCond .eq 64, 3) := dk_153 (by decide +kernel)
theorem dX8_sum_72 : decode cX8_sum 72 = .ok (.return_, 1) := dk_177 (by decide +kernel)
theorem dX8_sum_11 : decode cX8_sum 11 = .ok (.aload_n 0, 1) := dk_42 (by decide +kernel)
theorem dX8_sum_12 : decode cX8_sum 12 = .ok (.aload_n 0, 1) := dk_42 (by decide +kernel)
theorem dX8_sum_13 : decode cX8_sum 13 = .ok (.getfield 100, 3) := dk_180 (by decide +kernel)
theorem dX8_sum_16 : decode cX8_sum 16 = .ok (.invokevirtual 103, 3) := dk_182 (by decide +kernel)
theorem dX8_sum_19 : decode cX8_sum 19 = .ok (.bipush 43, 2) := dk_16 (by decide +kernel)
theorem dX8_sum_21 : decode cX8_sum 21 = .ok (.if_icmp .eq 16, 3) := dk_159 (by decide +kernel)
theorem dX8_sum_37 : decode cX8_sum 37 = .ok (.aload_n 0, 1) := dk_42 (by decide +kernel)
theorem dX8_sum_38 : decode cX8_sum 38 = .ok (.aload_n 0, 1) := dk_42 (by decide +kernel)
theorem dX8_sum_39 : decode cX8_sum 39 = .ok (.getfield 100, 3) := dk_180 (by decide +kernel)
theorem dX8_sum_42 : decode cX8_sum 42 = .ok (.invokevirtual 103, 3) := dk_182 (by decide +kernel)
theorem dX8_sum_45 : decode cX8_sum 45 = .ok (.istore_n 1, 1) := dk_60 (by decide +kernel)
theorem dX8_sum_46 : decode cX8_sum 46 = .ok (.aload_n 0, 1) := dk_42 (by decide +kernel)
theorem dX8_sum_47 : decode cX8_sum 47 = .ok (.dup, 1) := dk_89 (by decide +kernel)
theorem dX8_sum_48 : decode cX8_sum 48 = .ok (.getfield 100, 3) := dk_180 (by decide +kernel)
theorem dX8_sum_51 : decode cX8_sum 51 = .ok (.iconst 1, 1) := dk_4 (by decide +kernel)
theorem dX8_sum_52 : decode cX8_sum 52 = .ok (.iadd, 1) := dk_96 (by decide +kernel)
theorem dX8_sum_53 : decode cX8_sum 53 = .ok (.putfield 100, 3) := dk_181 (by decide +kernel)
theorem dX8_sum_56 : decode cX8_sum 56 = .ok (.aload_n 0, 1) := dk_42 (by decide +kernel)
theorem dX8_sum_57 : decode cX8_sum 57 = .ok (.invokevirtual 131, 3) := dk_182 (by decide +kernel)
theorem dX8_sum_60 : decode cX8_sum 60 = .ok (.aload_n 0, 1) := dk_42 (by decide +kernel)
theorem dX8_sum_61 : decode cX8_sum 61 = .ok (.sipush 20000, 3) := dk_17 (by decide +kernel)
theorem dX8_sum_64 : decode cX8_sum 64 = .ok (.iload_n 1, 1) := dk_27 (by decide +kernel)
theorem dX8_sum_65 : decode cX8_sum 65 = .ok (.iadd, 1) := dk_96 (by decide +kernel)
theorem dX8_sum_66 : decode cX8_sum 66 = .ok (.invokevirtual 109, 3) := dk_182 (by decide +kernel)
theorem dX8_sum_69 : decode cX8_sum 69 = .ok (.goto (-65), 3) := dk_167 (by decide +kernel)
theorem dX8_sum_24 : decode cX8_sum 24 = .ok (.aload_n 0, 1) := dk_42 (by decide +kernel)
theorem dX8_sum_25 : decode cX8_sum 25 = .ok (.aload_n 0, 1) := dk_42 (by decide +kernel)
theorem dX8_sum_26 : decode cX8_sum 26 = .ok (.getfield 100, 3) := dk_180 (by decide +kernel)
theorem dX8_sum_29 : decode cX8_sum 29 = .ok (.invokevirtual 103, 3) := dk_182 (by decide +kernel)
theorem dX8_sum_32 : decode cX8_sum 32 = .ok (.bipush 45, 2) := dk_16 (by decide +kernel)
theorem dX8_sum_34 : decode cX8_sum 34 = .ok (.if_icmp .ne 38, 3) := dk_160 (by decide +kernel)
theorem dX8_sum_0 : decode cX8_sum 0 = .ok (.aload_n 0, 1) := dk_42 (by decide +kernel)
theorem dX8_sum_1 : decode cX8_sum 1 = .ok (.invokevirtual 131, 3) := dk_182 (by decide +kernel)
theorem dX8_compared_23 : decode cX8_compared 23 = .ok (.istore_n 1, 1) := dk_60 (by decide +kernel)
theorem dX8_compared_24 : decode cX8_compared 24 = .ok (.iload_n 1, 1) := dk_27 (by decide +kernel)
theorem dX8_compared_25 : decode cX8_compared 25 = .ok (.bipush 60, 2) := dk_16 (by decide +kernel)
theorem dX8_compared_27 : decode cX8_compared 27 = .ok (.if_icmp .eq 15, 3) := dk_159 (by decide +kernel)
theorem dX8_compared_42 : decode cX8_compared 42 = .ok (.aload_n 0, 1) := dk_42 (by decide +kernel)
theorem dX8_compared_43 : decode cX8_compared 43 = .ok (.dup, 1) := dk_89 (by decide +kernel)
theorem dX8_compared_44 : decode cX8_compared 44 = .ok (.getfield 100, 3) := dk_180 (by decide +kernel)
theorem dX8_compared_47 : decode cX8_compared 47 = .ok (.iconst 1, 1) := dk_4 (by decide +kernel)
theorem dX8_compared_48 : decode cX8_compared 48 = .ok (.iadd, 1) := dk_96 (by decide +kernel)
theorem dX8_compared_49 : decode cX8_compared 49 = .ok (.putfield 100, 3) := dk_181 (by decide +kernel)
theorem dX8_compared_52 : decode cX8_compared 52 = .ok (.aload_n 0, 1) := dk_42 (by decide +kernel)
theorem dX8_compared_53 : decode cX8_compared 53 = .ok (.invokevirtual 134, 3) := dk_182 (by decide +kernel)
theorem dX8_compared_56 : decode cX8_compared 56 = .ok (.aload_n 0, 1) := dk_42 (by decide +kernel)
theorem dX8_compared_57 : decode cX8_compared 57 = .ok (.sipush 20000, 3) := dk_17 (by decide +kernel)
theorem dX8_compared_60 : decode cX8_compared 60 = .ok (.iload_n 1, 1) := dk_27 (by decide +kernel)
theorem dX8_compared_61 : decode cX8_compared 61 = .ok (.iadd, 1) := dk_96 (by decide +kernel)
theorem dX8_compared_62 : decode cX8_compared 62 = .ok (.invokevirtual 109, 3) := dk_182 (by decide +kernel)
theorem dX8_compared_65 : decode cX8_compared 65 = .ok (.return_, 1) := dk_177 (by decide +kernel)
theorem dX8_compared_30 : decode cX8_compared 30 = .ok (.iload_n 1, 1) := dk_27 (by decide +kernel)
theorem dX8_compared_31 : decode cX8_compared 31 = .ok (.bipush 61, 2) := dk_16 (by decide +kernel)
theorem dX8_compared_33 : decode cX8_compared 33 = .ok (.if_icmp .eq 9, 3) := dk_159 (by decide +kernel)
theorem dX8_compared_36 : decode cX8_compared 36 = .ok (.iload_n 1, 1) := dk_27 (by decide +kernel)
theorem dX8_compared_37 : decode cX8_compared 37 = .ok (.bipush 62, 2) := dk_16 (by decide +kernel)
theorem dX8_compared_39 : decode cX8_compared 39 = .ok (.if_icmp .ne 26, 3) := dk_160 (by decide +kernel)
theorem dX8_compared_0 : decode cX8_compared 0 = .ok (.aload_n 0, 1) := dk_42 (by decide +kernel)
theorem dX8_compared_1 : decode cX8_compared 1 = .ok (.invokevirtual 134, 3) := dk_182 (by decide +kernel)
theorem dX8_compared_4 : decode cX8_compared 4 = .ok (.aload_n 0, 1) := dk_42 (by decide +kernel)
theorem dX8_compared_5 : decode cX8_compared 5 = .ok (.getfield 93, 3) := dk_180 (by decide +kernel)
theorem dX8_compared_8 : decode cX8_compared 8 = .ok (.ifCond .eq 14, 3) := dk_153 (by decide +kernel)
theorem dX8_compared_22 : decode cX8_compared 22 = .ok (.iconst (-1), 1) := dk_2 (by decide +kernel)
theorem dX8_compared_11 : decode cX8_compared 11 = .ok (.aload_n 0, 1) := dk_42 (by decide +kernel)
theorem dX8_compared_12 : decode cX8_compared 12 = .ok (.aload_n 0, 1) := dk_42 (by decide +kernel)
theorem dX8_compared_13 : decode cX8_compared 13 = .ok (.getfield 100, 3) := dk_180 (by decide +kernel)
theorem dX8_compared_16 : decode cX8_compared 16 = .ok (.invokevirtual 103, 3) := dk_182 (by decide +kernel)
theorem dX8_compared_19 : decode cX8_compared 19 = .ok (.goto 4, 3) := dk_167 (by decide +kernel)
theorem dX8_both_4 : decode cX8_both 4 = .ok (.aload_n 0, 1) := dk_42 (by decide +kernel)
theorem dX8_both_5 : decode cX8_both 5 = .ok (.getfield 93, 3) := dk_180 (by decide +kernel)
theorem dX8_both_8 : decode cX8_both 8 = .ok (.ifCond .eq 40, 3) := dk_153 (by decide +kernel)
theorem dX8_both_48 : decode cX8_both 48 = .ok (.return_, 1) := dk_177 (by decide +kernel)
theorem dX8_both_11 : decode cX8_both 11 = .ok (.aload_n 0, 1) := dk_42 (by decide +kernel)
theorem dX8_both_12 : decode cX8_both 12 = .ok (.aload_n 0, 1) := dk_42 (by decide +kernel)
theorem dX8_both_13 : decode cX8_both 13 = .ok (.getfield 100, 3) := dk_180 (by decide +kernel)
theorem dX8_both_16 : decode cX8_both 16 = .ok (.invokevirtual 103, 3) := dk_182 (by decide +kernel)
theorem dX8_both_19 : decode cX8_both 19 = .ok (.bipush 38, 2) := dk_16 (by decide +kernel)
theorem dX8_both_21 : decode cX8_both 21 = .ok (.if_icmp .ne 27, 3) := dk_160 (by decide +kernel)
theorem dX8_both_24 : decode cX8_both 24 = .ok (.aload_n 0, 1) := dk_42 (by decide +kernel)
theorem dX8_both_25 : decode cX8_both 25 = .ok (.dup, 1) := dk_89 (by decide +kernel)
theorem dX8_both_26 : decode cX8_both 26 = .ok (.getfield 100, 3) := dk_180 (by decide +kernel)
theorem dX8_both_29 : decode cX8_both 29 = .ok (.iconst 1, 1) := dk_4 (by decide +kernel)
theorem dX8_both_30 : decode cX8_both 30 = .ok (.iadd, 1) := dk_96 (by decide +kernel)
theorem dX8_both_31 : decode cX8_both 31 = .ok (.putfield 100, 3) := dk_181 (by decide +kernel)
theorem dX8_both_34 : decode cX8_both 34 = .ok (.aload_n 0, 1) := dk_42 (by decide +kernel)
theorem dX8_both_35 : decode cX8_both 35 = .ok (.invokevirtual 137, 3) := dk_182 (by decide +kernel)
theorem dX8_both_38 : decode cX8_both 38 = .ok (.aload_n 0, 1) := dk_42 (by decide +kernel)
theorem dX8_both_39 : decode cX8_both 39 = .ok (.sipush 20038, 3) := dk_17 (by decide +kernel)
theorem dX8_both_42 : decode cX8_both 42 = .ok (.invokevirtual 109, 3) := dk_182 (by decide +kernel)
theorem dX8_both_45 : decode cX8_both 45 = .ok (.goto (-41), 3) := dk_167 (by decide +kernel)
theorem dX8_both_0 : decode cX8_both 0 = .ok (.aload_n 0, 1) := dk_42 (by decide +kernel)
theorem dX8_both_1 : decode cX8_both 1 = .ok (.invokevirtual 137, 3) := dk_182 (by decide +kernel)
theorem dX8_whole_4 : decode cX8_whole 4 = .ok (.aload_n 0, 1) := dk_42 (by decide +kernel)
theorem dX8_whole_5 : decode cX8_whole 5 = .ok (.getfield 93, 3) := dk_180 (by decide +kernel)
theorem dX8_whole_8 : decode cX8_whole 8 = .ok (.ifCond .eq 40, 3) := dk_153 (by decide +kernel)
theorem dX8_whole_48 : decode cX8_whole 48 = .ok (.return_, 1) := dk_177 (by decide +kernel)
theorem dX8_whole_11 : decode cX8_whole 11 = .ok (.aload_n 0, 1) := dk_42 (by decide +kernel)
theorem dX8_whole_12 : decode cX8_whole 12 = .ok (.aload_n 0, 1) := dk_42 (by decide +kernel)
theorem dX8_whole_13 : decode cX8_whole 13 = .ok (.getfield 100, 3) := dk_180 (by decide +kernel)
theorem dX8_whole_16 : decode cX8_whole 16 = .ok (.invokevirtual 103, 3) := dk_182 (by decide +kernel)
theorem dX8_whole_19 : decode cX8_whole 19 = .ok (.bipush 124, 2) := dk_16 (by decide +kernel)
theorem dX8_whole_21 : decode cX8_whole 21 = .ok (.if_icmp .ne 27, 3) := dk_160 (by decide +kernel)
theorem dX8_whole_24 : decode cX8_whole 24 = .ok (.aload_n 0, 1) := dk_42 (by decide +kernel)
theorem dX8_whole_25 : decode cX8_whole 25 = .ok (.dup, 1) := dk_89 (by decide +kernel)
theorem dX8_whole_26 : decode cX8_whole 26 = .ok (.getfield 100, 3) := dk_180 (by decide +kernel)
theorem dX8_whole_29 : decode cX8_whole 29 = .ok (.iconst 1, 1) := dk_4 (by decide +kernel)
theorem dX8_whole_30 : decode cX8_whole 30 = .ok (.iadd, 1) := dk_96 (by decide +kernel)
theorem dX8_whole_31 : decode cX8_whole 31 = .ok (.putfield 100, 3) := dk_181 (by decide +kernel)
theorem dX8_whole_34 : decode cX8_whole 34 = .ok (.aload_n 0, 1) := dk_42 (by decide +kernel)
theorem dX8_whole_35 : decode cX8_whole 35 = .ok (.invokevirtual 140, 3) := dk_182 (by decide +kernel)
theorem dX8_whole_38 : decode cX8_whole 38 = .ok (.aload_n 0, 1) := dk_42 (by decide +kernel)
theorem dX8_whole_39 : decode cX8_whole 39 = .ok (.sipush 20124, 3) := dk_17 (by decide +kernel)
theorem dX8_whole_42 : decode cX8_whole 42 = .ok (.invokevirtual 109, 3) := dk_182 (by decide +kernel)
theorem dX8_whole_45 : decode cX8_whole 45 = .ok (.goto (-41), 3) := dk_167 (by decide +kernel)
theorem dX8_whole_0 : decode cX8_whole 0 = .ok (.aload_n 0, 1) := dk_42 (by decide +kernel)
theorem dX8_whole_1 : decode cX8_whole 1 = .ok (.invokevirtual 140, 3) := dk_182 (by decide +kernel)
set_option maxRecDepth 100000 in
set_option maxHeartbeats 8000000 in
theorem xg_X8_factor (l : Launch) (D : va_G) (y : wY) (ad : Nat → Nat) : ∀ n : Nat, (∀ (M : Mem) (K : Mem → Prop), wp_X8_factor n M K → MV l D y ad yX8_factor (Cond.code yX8_factor cX8_factor 2 none) (n + 3) M [.ref (ad 79)] K) ∧ (∀ (M : Mem) (K : Mem → Prop), wp_X8_product n M K → MV l D y ad yX8_product (Cond.code yX8_product cX8_product 2 none) (n + 3) M [.ref (ad 79)] K) ∧ (∀ (M : Mem) (K : Mem → Prop), wp_X8_sum n M K → MV l D y ad yX8_sum (Cond.code yX8_sum cX8_sum 2 none) (n + 3) M [.ref (ad 79)] K) ∧ (∀ (M : Mem) (K : Mem → Prop), wp_X8_compared n M K → MV l D y ad yX8_compared (Cond.code yX8_compared cX8_compared 2 none) (n + 3) M [.ref (ad 79)] K) ∧ (∀ (M : Mem) (K : Mem → Prop), wp_X8_both n M K → MV l D y ad yX8_both (Cond.code yX8_both cX8_both 1 none) (n + 3) M [.ref (ad 79)] K) ∧ (∀ (M : Mem) (K : Mem → Prop), wp_X8_whole n M K → MV l D y ad yX8_whole (Cond.code yX8_whole cX8_whole 1 none) (n + 3) M [.ref (ad 79)] K) := by
  intro n0
  induction n0 with
  | zero => refine ⟨?_, ?_, ?_, ?_, ?_, ?_⟩ <;> (intros; rename_i h; exact False.elim h)
  | succ n0 ih =>
    refine ⟨?_, ?_, ?_, ?_, ?_, ?_⟩
    · intro M K h
      refine MV_of (by decide) (Nat.le_of_ble_eq_true rfl) ?_
      intro p e s m args below meth c X hr hlocks
      have hb129 : ∀ (t0 : Int32) (Mb : Mem), wp_X8_factor_b129 (wp_X8_factor n0) (wp_X8_product n0) (wp_X8_sum n0) (wp_X8_compared n0) (wp_X8_both n0) (wp_X8_whole n0) K t0 Mb → J p l e (rmN (n0 + 1 + 3)) s m args below meth c 0 0 (QV K D y ad M s args below) D y ad (va_A (PL y ad M) s.heap.size) 2 Mb 129 [(0, .ref (ad 79))] [.int t0, .ref (ad 79)] := by
        intro t0 Mb h
        delta wp_X8_factor_b129 at h
        obtain ⟨hb_12901, h⟩ := h
        refine j_put X (up Mb 79 11 t0) up_o cl_79.1 (wE_8 _ cl_79.2) rfl awF8 11 (by decide) (wP_8_11 _ _ cl_79.2) tyX8 tyX8_ok nmX8 rfl (ty := .boolean) (by decide +kernel) (nar_bool hb_12901) (fit_bool hb_12901) (Nat.le_of_ble_eq_true rfl) aw_382 rfl dX8_factor_129 ?_
        refine j_aload_n X 0 rfl rfl dX8_factor_132 ?_
        refine j_dup X rfl dX8_factor_133 ?_
        refine j_get X cl_79.1 (wE_8 _ cl_79.2) rfl awF8 7 (by decide) aw_378 rfl (v := .int ((up Mb 79 11 t0) 79 7)) rfl dX8_factor_134 ?_
        refine j_aload_n X 0 rfl rfl dX8_factor_137 ?_
        refine j_get X cl_79.1 (wE_8 _ cl_79.2) rfl awF8 11 (by decide) aw_382 rfl (v := .int ((up Mb 79 11 t0) 79 11)) rfl dX8_factor_138 ?_
        refine j_if_eq X 148 (by decide) dX8_factor_141 (fun q_12902 => ?_) (fun q_12902 => ?_)
        · replace h := h.1 q_12902
          refine j_iconst X (v := 0) (by decide) dX8_factor_148 ?_
          refine j_iadd X dX8_factor_149 ?_
          refine j_put X (up (up Mb 79 11 t0) 79 7 (((up Mb 79 11 t0) 79 7) + 0)) up_o cl_79.1 (wE_8 _ cl_79.2) rfl awF8 7 (by decide) (wP_8_7 _ _ cl_79.2) tyX8 tyX8_ok nmX8 rfl (ty := .int) (by decide +kernel) rfl rfl (Nat.le_of_ble_eq_true rfl) aw_378 rfl dX8_factor_150 ?_
          refine j_aload_n X 0 rfl rfl dX8_factor_153 ?_
          refine j_dup X rfl dX8_factor_154 ?_
          refine j_get X cl_79.1 (wE_8 _ cl_79.2) rfl awF8 9 (by decide) aw_380 rfl (v := .int ((up (up Mb 79 11 t0) 79 7 (((up Mb 79 11 t0) 79 7) + 0)) 79 9)) rfl dX8_factor_155 ?_
          refine j_iconst X (v := 1) (by decide) dX8_factor_158 ?_
          refine j_isub X dX8_factor_159 ?_
          refine j_put X (up (up (up Mb 79 11 t0) 79 7 (((up Mb 79 11 t0) 79 7) + 0)) 79 9 (((up (up Mb 79 11 t0) 79 7 (((up Mb 79 11 t0) 79 7) + 0)) 79 9) - 1)) up_o cl_79.1 (wE_8 _ cl_79.2) rfl awF8 9 (by decide) (wP_8_9 _ _ cl_79.2) tyX8 tyX8_ok nmX8 rfl (ty := .int) (by decide +kernel) rfl rfl (Nat.le_of_ble_eq_true rfl) aw_380 rfl dX8_factor_160 ?_
          refine j_topM (fun Mg_12903 eMg_12903 => ?_)
          replace h := h Mg_12903 eMg_12903
          exact j_vret X hr hlocks dX8_factor_163 h
        · replace h := h.2 q_12902
          refine j_iconst X (v := 1) (by decide) dX8_factor_144 ?_
          refine j_goto X 149 (by decide) dX8_factor_145 ?_
          refine j_iadd X dX8_factor_149 ?_
          refine j_put X (up (up Mb 79 11 t0) 79 7 (((up Mb 79 11 t0) 79 7) + 1)) up_o cl_79.1 (wE_8 _ cl_79.2) rfl awF8 7 (by decide) (wP_8_7 _ _ cl_79.2) tyX8 tyX8_ok nmX8 rfl (ty := .int) (by decide +kernel) rfl rfl (Nat.le_of_ble_eq_true rfl) aw_378 rfl dX8_factor_150 ?_
          refine j_aload_n X 0 rfl rfl dX8_factor_153 ?_
          refine j_dup X rfl dX8_factor_154 ?_
          refine j_get X cl_79.1 (wE_8 _ cl_79.2) rfl awF8 9 (by decide) aw_380 rfl (v := .int ((up (up Mb 79 11 t0) 79 7 (((up Mb 79 11 t0) 79 7) + 1)) 79 9)) rfl dX8_factor_155 ?_
          refine j_iconst X (v := 1) (by decide) dX8_factor_158 ?_
          refine j_isub X dX8_factor_159 ?_
          refine j_put X (up (up (up Mb 79 11 t0) 79 7 (((up Mb 79 11 t0) 79 7) + 1)) 79 9 (((up (up Mb 79 11 t0) 79 7 (((up Mb 79 11 t0) 79 7) + 1)) 79 9) - 1)) up_o cl_79.1 (wE_8 _ cl_79.2) rfl awF8 9 (by decide) (wP_8_9 _ _ cl_79.2) tyX8 tyX8_ok nmX8 rfl (ty := .int) (by decide +kernel) rfl rfl (Nat.le_of_ble_eq_true rfl) aw_380 rfl dX8_factor_160 ?_
          refine j_topM (fun Mg_12904 eMg_12904 => ?_)
          replace h := h Mg_12904 eMg_12904
          exact j_vret X hr hlocks dX8_factor_163 h
      have hb43 : ∀ (i1 : Int32) (Mb : Mem), wp_X8_factor_b43 (wp_X8_factor n0) (wp_X8_product n0) (wp_X8_sum n0) (wp_X8_compared n0) (wp_X8_both n0) (wp_X8_whole n0) K i1 Mb → J p l e (rmN (n0 + 1 + 3)) s m args below meth c 0 0 (QV K D y ad M s args below) D y ad (va_A (PL y ad M) s.heap.size) 2 Mb 43 [(0, .ref (ad 79)), (1, .int i1)] [] := by
        intro i1 Mb h
        delta wp_X8_factor_b43 at h
        refine j_aload_n X 0 rfl rfl dX8_factor_43 ?_
        refine j_get X cl_79.1 (wE_8 _ cl_79.2) rfl awF8 9 (by decide) aw_380 rfl (v := .int (Mb 79 9)) rfl dX8_factor_44 ?_
        refine j_iconst X (v := 5) (by decide) dX8_factor_47 ?_
        refine j_icmp_ne X 59 (by decide) dX8_factor_48 (fun q_4301 => ?_) (fun q_4301 => ?_)
        · replace h := h.1 q_4301
          refine j_aload_n X 0 rfl rfl dX8_factor_59 ?_
          refine j_dup X rfl dX8_factor_60 ?_
          refine j_get X cl_79.1 (wE_8 _ cl_79.2) rfl awF8 9 (by decide) aw_380 rfl (v := .int (Mb 79 9)) rfl dX8_factor_61 ?_
          refine j_iconst X (v := 1) (by decide) dX8_factor_64 ?_
          refine j_iadd X dX8_factor_65 ?_
          refine j_put X (up Mb 79 9 ((Mb 79 9) + 1)) up_o cl_79.1 (wE_8 _ cl_79.2) rfl awF8 9 (by decide) (wP_8_9 _ _ cl_79.2) tyX8 tyX8_ok nmX8 rfl (ty := .int) (by decide +kernel) rfl rfl (Nat.le_of_ble_eq_true rfl) aw_380 rfl dX8_factor_66 ?_
          refine j_aload_n X 0 rfl rfl dX8_factor_69 ?_
          refine j_dup X rfl dX8_factor_70 ?_
          refine j_get X cl_79.1 (wE_8 _ cl_79.2) rfl awF8 7 (by decide) aw_378 rfl (v := .int ((up Mb 79 9 ((Mb 79 9) + 1)) 79 7)) rfl dX8_factor_71 ?_
          refine j_iconst X (v := 1) (by decide) dX8_factor_74 ?_
          refine j_iadd X dX8_factor_75 ?_
          refine j_put X (up (up Mb 79 9 ((Mb 79 9) + 1)) 79 7 (((up Mb 79 9 ((Mb 79 9) + 1)) 79 7) + 1)) up_o cl_79.1 (wE_8 _ cl_79.2) rfl awF8 7 (by decide) (wP_8_7 _ _ cl_79.2) tyX8 tyX8_ok nmX8 rfl (ty := .int) (by decide +kernel) rfl rfl (Nat.le_of_ble_eq_true rfl) aw_378 rfl dX8_factor_76 ?_
          refine j_iload_n X 1 rfl rfl dX8_factor_79 ?_
          refine j_bipush X (v := 33) (by decide) dX8_factor_80 ?_
          refine j_icmp_ne X 99 (by decide) dX8_factor_82 (fun q_4302 => ?_) (fun q_4302 => ?_)
          · replace h := h.1 q_4302
            refine j_aload_n X 0 rfl rfl dX8_factor_99 ?_
            refine j_callVV X (nn := 0) (As := []) (st := []) (ci := 8) cl_79.1 (wE_8 _ cl_79.2) rfl aw_384 aw_385 (ih.2.2.2.2.2  _ _ h) aw_383 aw_386 aw_5 (by decide +kernel) ⟨(by show _ + 1 ≤ _ + 1 + _; omega), (by show 8 + (_ + 11) + 60 * _ ≤ 60 * _; omega)⟩ rfl (Nat.le_of_ble_eq_true rfl) ⟨Nat.le_of_ble_eq_true rfl, Nat.le_of_ble_eq_true rfl⟩ dX8_factor_100 ?_
            intro M4303 h
            refine j_aload_n X 0 rfl rfl dX8_factor_103 ?_
            refine j_aload_n X 0 rfl rfl dX8_factor_104 ?_
            refine j_get X cl_79.1 (wE_8 _ cl_79.2) rfl awF8 11 (by decide) aw_382 rfl (v := .int (M4303 79 11)) rfl dX8_factor_105 ?_
            refine j_if_eq X 128 (by decide) dX8_factor_108 (fun q_4304 => ?_) (fun q_4304 => ?_)
            · replace h := h.1 q_4304
              refine j_iconst X (v := 0) (by decide) dX8_factor_128 ?_
              refine j_lv (lv1 := [(0, .ref (ad 79))]) [0] rfl ?_
              exact hb129 _  _ h
            · replace h := h.2 q_4304
              refine j_aload_n X 0 rfl rfl dX8_factor_111 ?_
              refine j_aload_n X 0 rfl rfl dX8_factor_112 ?_
              refine j_get X cl_79.1 (wE_8 _ cl_79.2) rfl awF8 7 (by decide) aw_378 rfl (v := .int (M4303 79 7)) rfl dX8_factor_113 ?_
              refine j_callVI X (nn := 1) (As := [.int (M4303 79 7)]) (st := [.ref (ad 79)]) (ci := 8) cl_79.1 (wE_8 _ cl_79.2) rfl aw_391 aw_392 (x_X8_byteAt l D y ad (M4303 79 7) _ _ h) aw_390 aw_393 aw_5 (by decide +kernel) ⟨(by show _ + 1 ≤ _ + 1 + _; omega), (by show 8 + (_ + 11) + 60 * _ ≤ 60 * _; omega)⟩ rfl (Nat.le_of_ble_eq_true rfl) ⟨Nat.le_of_ble_eq_true rfl, Nat.le_of_ble_eq_true rfl⟩ dX8_factor_116 ?_
              intro r4305 M4305 h
              refine j_bipush X (v := 41) (by decide) dX8_factor_119 ?_
              refine j_icmp_ne X 128 (by decide) dX8_factor_121 (fun q_4306 => ?_) (fun q_4306 => ?_)
              · replace h := h.1 q_4306
                refine j_iconst X (v := 0) (by decide) dX8_factor_128 ?_
                refine j_lv (lv1 := [(0, .ref (ad 79))]) [0] rfl ?_
                exact hb129 _  _ h
              · replace h := h.2 q_4306
                refine j_iconst X (v := 1) (by decide) dX8_factor_124 ?_
                refine j_goto X 129 (by decide) dX8_factor_125 ?_
                refine j_lv (lv1 := [(0, .ref (ad 79))]) [0] rfl ?_
                exact hb129 _  _ h
          · replace h := h.2 q_4302
            refine j_aload_n X 0 rfl rfl dX8_factor_85 ?_
            refine j_callVV X (nn := 0) (As := []) (st := []) (ci := 8) cl_79.1 (wE_8 _ cl_79.2) rfl aw_419 aw_420 (ih.1  _ _ h) aw_418 aw_406 aw_5 (by decide +kernel) ⟨(by show _ + 1 ≤ _ + 1 + _; omega), (by show 8 + (_ + 11) + 60 * _ ≤ 60 * _; omega)⟩ rfl (Nat.le_of_ble_eq_true rfl) ⟨Nat.le_of_ble_eq_true rfl, Nat.le_of_ble_eq_true rfl⟩ dX8_factor_86 ?_
            intro M4307 h
            refine j_aload_n X 0 rfl rfl dX8_factor_89 ?_
            refine j_sipush X (v := 20033) (by decide) dX8_factor_90 ?_
            refine j_callVV X (nn := 1) (As := [.int 20033]) (st := []) (ci := 8) cl_79.1 (wE_8 _ cl_79.2) rfl aw_395 aw_396 (x_X8_adds l D y ad 20033 _ _ h) aw_394 aw_397 aw_5 (by decide +kernel) ⟨(by show _ + 1 ≤ _ + 1 + _; omega), (by show 8 + (_ + 11) + 60 * _ ≤ 60 * _; omega)⟩ rfl (Nat.le_of_ble_eq_true rfl) ⟨Nat.le_of_ble_eq_true rfl, Nat.le_of_ble_eq_true rfl⟩ dX8_factor_93 ?_
            intro M4308 h
            refine j_goto X 153 (by decide) dX8_factor_96 ?_
            refine j_aload_n X 0 rfl rfl dX8_factor_153 ?_
            refine j_dup X rfl dX8_factor_154 ?_
            refine j_get X cl_79.1 (wE_8 _ cl_79.2) rfl awF8 9 (by decide) aw_380 rfl (v := .int (M4308 79 9)) rfl dX8_factor_155 ?_
            refine j_iconst X (v := 1) (by decide) dX8_factor_158 ?_
            refine j_isub X dX8_factor_159 ?_
            refine j_put X (up M4308 79 9 ((M4308 79 9) - 1)) up_o cl_79.1 (wE_8 _ cl_79.2) rfl awF8 9 (by decide) (wP_8_9 _ _ cl_79.2) tyX8 tyX8_ok nmX8 rfl (ty := .int) (by decide +kernel) rfl rfl (Nat.le_of_ble_eq_true rfl) aw_380 rfl dX8_factor_160 ?_
            exact j_vret X hr hlocks dX8_factor_163 h
        · replace h := h.2 q_4301
          refine j_aload_n X 0 rfl rfl dX8_factor_51 ?_
          refine j_iconst X (v := 0) (by decide) dX8_factor_52 ?_
          refine j_put X (up Mb 79 11 0) up_o cl_79.1 (wE_8 _ cl_79.2) rfl awF8 11 (by decide) (wP_8_11 _ _ cl_79.2) tyX8 tyX8_ok nmX8 rfl (ty := .boolean) (by decide +kernel) rfl rfl (Nat.le_of_ble_eq_true rfl) aw_382 rfl dX8_factor_53 ?_
          refine j_goto X 163 (by decide) dX8_factor_56 ?_
          exact j_vret X hr hlocks dX8_factor_163 h
      replace h : wpb_X8_factor (wp_X8_factor n0) (wp_X8_product n0) (wp_X8_sum n0) (wp_X8_compared n0) (wp_X8_both n0) (wp_X8_whole n0) M K := h
      delta wpb_X8_factor at h
      refine j_lv (lv1 := [(0, .ref (ad 79))]) [0] rfl ?_
      refine j_aload_n X 0 rfl rfl dX8_factor_0 ?_
      refine j_aload_n X 0 rfl rfl dX8_factor_1 ?_
      refine j_get X cl_79.1 (wE_8 _ cl_79.2) rfl awF8 7 (by decide) aw_378 rfl (v := .int (M 79 7)) rfl dX8_factor_2 ?_
      refine j_callVI X (nn := 1) (As := [.int (M 79 7)]) (st := []) (ci := 8) cl_79.1 (wE_8 _ cl_79.2) rfl aw_391 aw_392 (x_X8_byteAt l D y ad (M 79 7) _ _ h) aw_390 aw_393 aw_5 (by decide +kernel) ⟨(by show _ + 1 ≤ _ + 1 + _; omega), (by show 8 + (_ + 11) + 60 * _ ≤ 60 * _; omega)⟩ rfl (Nat.le_of_ble_eq_true rfl) ⟨Nat.le_of_ble_eq_true rfl, Nat.le_of_ble_eq_true rfl⟩ dX8_factor_5 ?_
      intro r1 M1 h
      refine j_istore_n X [(1, .int r1), (0, .ref (ad 79))] rfl (by decide) rfl dX8_factor_8 ?_
      refine j_iload_n X 0 rfl rfl dX8_factor_9 ?_
      refine j_callSI X (nn := 1) (As := [.int r1]) (st := []) aw_408 (x_X8_isDigit l D y ad r1 _ _ h) aw_407 aw_409 aw_5 (by decide +kernel) ⟨(by show _ + 1 ≤ _ + 1 + _; omega), (by show 8 + (_ + 11) + 60 * _ ≤ 60 * _; omega)⟩ rfl (Nat.le_of_ble_eq_true rfl) ⟨Nat.le_of_ble_eq_true rfl, Nat.le_of_ble_eq_true rfl⟩ dX8_factor_10 ?_
      intro r2 M2 h
      refine j_if_eq X 23 (by decide) dX8_factor_13 (fun q_3 => ?_) (fun q_3 => ?_)
      · replace h := h.1 q_3
        refine j_iload_n X 0 rfl rfl dX8_factor_23 ?_
        refine j_bipush X (v := 33) (by decide) dX8_factor_24 ?_
        refine j_icmp_eq X 43 (by decide) dX8_factor_26 (fun q_4 => ?_) (fun q_4 => ?_)
        · replace h := h.1 q_4
          refine j_lv (lv1 := [(0, .ref (ad 79)), (1, .int r1)]) [1, 0] rfl ?_
          exact hb43 _  _ h
        · replace h := h.2 q_4
          refine j_iload_n X 0 rfl rfl dX8_factor_29 ?_
          refine j_bipush X (v := 40) (by decide) dX8_factor_30 ?_
          refine j_icmp_eq X 43 (by decide) dX8_factor_32 (fun q_5 => ?_) (fun q_5 => ?_)
          · replace h := h.1 q_5
            refine j_lv (lv1 := [(0, .ref (ad 79)), (1, .int r1)]) [1, 0] rfl ?_
            exact hb43 _  _ h
          · replace h := h.2 q_5
            refine j_aload_n X 1 rfl rfl dX8_factor_35 ?_
            refine j_iload_n X 0 rfl rfl dX8_factor_36 ?_
            refine j_callVV X (nn := 1) (As := [.int r1]) (st := []) (ci := 8) cl_79.1 (wE_8 _ cl_79.2) rfl aw_415 aw_416 (x_X8_named l D y ad r1 _ _ h) aw_414 aw_417 aw_5 (by decide +kernel) ⟨(by show _ + 1 ≤ _ + 1 + _; omega), (by show 8 + (_ + 11) + 60 * _ ≤ 60 * _; omega)⟩ rfl (Nat.le_of_ble_eq_true rfl) ⟨Nat.le_of_ble_eq_true rfl, Nat.le_of_ble_eq_true rfl⟩ dX8_factor_37 ?_
            intro M6 h
            refine j_goto X 163 (by decide) dX8_factor_40 ?_
            exact j_vret X hr hlocks dX8_factor_163 h
      · replace h := h.2 q_3
        refine j_aload_n X 1 rfl rfl dX8_factor_16 ?_
        refine j_callVV X (nn := 0) (As := []) (st := []) (ci := 8) cl_79.1 (wE_8 _ cl_79.2) rfl aw_411 aw_412 (x_X8_number l D y ad  _ _ h) aw_410 aw_413 aw_5 (by decide +kernel) ⟨(by show _ + 1 ≤ _ + 1 + _; omega), (by show 8 + (_ + 11) + 60 * _ ≤ 60 * _; omega)⟩ rfl (Nat.le_of_ble_eq_true rfl) ⟨Nat.le_of_ble_eq_true rfl, Nat.le_of_ble_eq_true rfl⟩ dX8_factor_17 ?_
        intro M7 h
        refine j_goto X 163 (by decide) dX8_factor_20 ?_
        exact j_vret X hr hlocks dX8_factor_163 h
    · intro M K h
      refine MV_of (by decide) (Nat.le_of_ble_eq_true rfl) ?_
      intro p e s m args below meth c X hr hlocks
      have hL4 : ∀ (n : Nat) (Mb : Mem), wp_X8_product_L4 (wp_X8_factor n0) (wp_X8_product n0) (wp_X8_sum n0) (wp_X8_compared n0) (wp_X8_both n0) (wp_X8_whole n0) K n Mb → J p l e (rmN (n0 + 1 + 3)) s m args below meth c 0 0 (QV K D y ad M s args below) D y ad (va_A (PL y ad M) s.heap.size) 2 Mb 4 [(0, .ref (ad 79))] [] := by
        intro n
        induction n with
        | zero => intro Mb h; exact False.elim h
        | succ n hB4 =>
          intro Mb h
          replace h : wp_X8_product_l4 (wp_X8_factor n0) (wp_X8_product n0) (wp_X8_sum n0) (wp_X8_compared n0) (wp_X8_both n0) (wp_X8_whole n0) K (wp_X8_product_L4 (wp_X8_factor n0) (wp_X8_product n0) (wp_X8_sum n0) (wp_X8_compared n0) (wp_X8_both n0) (wp_X8_whole n0) K n) Mb := h
          delta wp_X8_product_l4 at h
          refine j_aload_n X 0 rfl rfl dX8_product_4 ?_
          refine j_get X cl_79.1 (wE_8 _ cl_79.2) rfl awF8 11 (by decide) aw_382 rfl (v := .int (Mb 79 11)) rfl dX8_product_5 ?_
          refine j_if_eq X 85 (by decide) dX8_product_8 (fun q_401 => ?_) (fun q_401 => ?_)
          · replace h := h.1 q_401
            exact j_vret X hr hlocks dX8_product_85 h
          · replace h := h.2 q_401
            refine j_aload_n X 0 rfl rfl dX8_product_11 ?_
            refine j_aload_n X 0 rfl rfl dX8_product_12 ?_
            refine j_get X cl_79.1 (wE_8 _ cl_79.2) rfl awF8 7 (by decide) aw_378 rfl (v := .int (Mb 79 7)) rfl dX8_product_13 ?_
            refine j_callVI X (nn := 1) (As := [.int (Mb 79 7)]) (st := []) (ci := 8) cl_79.1 (wE_8 _ cl_79.2) rfl aw_391 aw_392 (x_X8_byteAt l D y ad (Mb 79 7) _ _ h) aw_390 aw_393 aw_5 (by decide +kernel) ⟨(by show _ + 1 ≤ _ + 1 + _; omega), (by show 8 + (_ + 11) + 60 * _ ≤ 60 * _; omega)⟩ rfl (Nat.le_of_ble_eq_true rfl) ⟨Nat.le_of_ble_eq_true rfl, Nat.le_of_ble_eq_true rfl⟩ dX8_product_16 ?_
            intro r402 M402 h
            refine j_bipush X (v := 42) (by decide) dX8_product_19 ?_
            refine j_icmp_eq X 50 (by decide) dX8_product_21 (fun q_403 => ?_) (fun q_403 => ?_)
            · replace h := h.1 q_403
              refine j_aload_n X 0 rfl rfl dX8_product_50 ?_
              refine j_aload_n X 0 rfl rfl dX8_product_51 ?_
              refine j_get X cl_79.1 (wE_8 _ cl_79.2) rfl awF8 7 (by decide) aw_378 rfl (v := .int (M402 79 7)) rfl dX8_product_52 ?_
              refine j_callVI X (nn := 1) (As := [.int (M402 79 7)]) (st := []) (ci := 8) cl_79.1 (wE_8 _ cl_79.2) rfl aw_391 aw_392 (x_X8_byteAt l D y ad (M402 79 7) _ _ h) aw_390 aw_393 aw_5 (by decide +kernel) ⟨(by show _ + 1 ≤ _ + 1 + _; omega), (by show 8 + (_ + 11) + 60 * _ ≤ 60 * _; omega)⟩ rfl (Nat.le_of_ble_eq_true rfl) ⟨Nat.le_of_ble_eq_true rfl, Nat.le_of_ble_eq_true rfl⟩ dX8_product_55 ?_
              intro r404 M404 h
              refine j_istore_n X [(1, .int r404), (0, .ref (ad 79))] rfl (by decide) rfl dX8_product_58 ?_
              refine j_aload_n X 1 rfl rfl dX8_product_59 ?_
              refine j_dup X rfl dX8_product_60 ?_
              refine j_get X cl_79.1 (wE_8 _ cl_79.2) rfl awF8 7 (by decide) aw_378 rfl (v := .int (M404 79 7)) rfl dX8_product_61 ?_
              refine j_iconst X (v := 1) (by decide) dX8_product_64 ?_
              refine j_iadd X dX8_product_65 ?_
              refine j_put X (up M404 79 7 ((M404 79 7) + 1)) up_o cl_79.1 (wE_8 _ cl_79.2) rfl awF8 7 (by decide) (wP_8_7 _ _ cl_79.2) tyX8 tyX8_ok nmX8 rfl (ty := .int) (by decide +kernel) rfl rfl (Nat.le_of_ble_eq_true rfl) aw_378 rfl dX8_product_66 ?_
              refine j_aload_n X 1 rfl rfl dX8_product_69 ?_
              refine j_callVV X (nn := 0) (As := []) (st := []) (ci := 8) cl_79.1 (wE_8 _ cl_79.2) rfl aw_419 aw_420 (ih.1  _ _ h) aw_418 aw_406 aw_5 (by decide +kernel) ⟨(by show _ + 1 ≤ _ + 1 + _; omega), (by show 8 + (_ + 11) + 60 * _ ≤ 60 * _; omega)⟩ rfl (Nat.le_of_ble_eq_true rfl) ⟨Nat.le_of_ble_eq_true rfl, Nat.le_of_ble_eq_true rfl⟩ dX8_product_70 ?_
              intro M405 h
              refine j_aload_n X 1 rfl rfl dX8_product_73 ?_
              refine j_sipush X (v := 20000) (by decide) dX8_product_74 ?_
              refine j_iload_n X 0 rfl rfl dX8_product_77 ?_
              refine j_iadd X dX8_product_78 ?_
              refine j_callVV X (nn := 1) (As := [.int (20000 + r404)]) (st := []) (ci := 8) cl_79.1 (wE_8 _ cl_79.2) rfl aw_395 aw_396 (x_X8_adds l D y ad (20000 + r404) _ _ h) aw_394 aw_397 aw_5 (by decide +kernel) ⟨(by show _ + 1 ≤ _ + 1 + _; omega), (by show 8 + (_ + 11) + 60 * _ ≤ 60 * _; omega)⟩ rfl (Nat.le_of_ble_eq_true rfl) ⟨Nat.le_of_ble_eq_true rfl, Nat.le_of_ble_eq_true rfl⟩ dX8_product_79 ?_
              intro M406 h
              refine j_goto X 4 (by decide) dX8_product_82 ?_
              refine j_lv (lv1 := [(0, .ref (ad 79))]) [1] rfl ?_
              exact hB4  _ h
            · replace h := h.2 q_403
              refine j_aload_n X 0 rfl rfl dX8_product_24 ?_
              refine j_aload_n X 0 rfl rfl dX8_product_25 ?_
              refine j_get X cl_79.1 (wE_8 _ cl_79.2) rfl awF8 7 (by decide) aw_378 rfl (v := .int (M402 79 7)) rfl dX8_product_26 ?_
              refine j_callVI X (nn := 1) (As := [.int (M402 79 7)]) (st := []) (ci := 8) cl_79.1 (wE_8 _ cl_79.2) rfl aw_391 aw_392 (x_X8_byteAt l D y ad (M402 79 7) _ _ h) aw_390 aw_393 aw_5 (by decide +kernel) ⟨(by show _ + 1 ≤ _ + 1 + _; omega), (by show 8 + (_ + 11) + 60 * _ ≤ 60 * _; omega)⟩ rfl (Nat.le_of_ble_eq_true rfl) ⟨Nat.le_of_ble_eq_true rfl, Nat.le_of_ble_eq_true rfl⟩ dX8_product_29 ?_
              intro r407 M407 h
              refine j_bipush X (v := 47) (by decide) dX8_product_32 ?_
              refine j_icmp_eq X 50 (by decide) dX8_product_34 (fun q_408 => ?_) (fun q_408 => ?_)
              · replace h := h.1 q_408
                refine j_aload_n X 0 rfl rfl dX8_product_50 ?_
                refine j_aload_n X 0 rfl rfl dX8_product_51 ?_
                refine j_get X cl_79.1 (wE_8 _ cl_79.2) rfl awF8 7 (by decide) aw_378 rfl (v := .int (M407 79 7)) rfl dX8_product_52 ?_
                refine j_callVI X (nn := 1) (As := [.int (M407 79 7)]) (st := []) (ci := 8) cl_79.1 (wE_8 _ cl_79.2) rfl aw_391 aw_392 (x_X8_byteAt l D y ad (M407 79 7) _ _ h) aw_390 aw_393 aw_5 (by decide +kernel) ⟨(by show _ + 1 ≤ _ + 1 + _; omega), (by show 8 + (_ + 11) + 60 * _ ≤ 60 * _; omega)⟩ rfl (Nat.le_of_ble_eq_true rfl) ⟨Nat.le_of_ble_eq_true rfl, Nat.le_of_ble_eq_true rfl⟩ dX8_product_55 ?_
                intro r409 M409 h
                refine j_istore_n X [(1, .int r409), (0, .ref (ad 79))] rfl (by decide) rfl dX8_product_58 ?_
                refine j_aload_n X 1 rfl rfl dX8_product_59 ?_
                refine j_dup X rfl dX8_product_60 ?_
                refine j_get X cl_79.1 (wE_8 _ cl_79.2) rfl awF8 7 (by decide) aw_378 rfl (v := .int (M409 79 7)) rfl dX8_product_61 ?_
                refine j_iconst X (v := 1) (by decide) dX8_product_64 ?_
                refine j_iadd X dX8_product_65 ?_
                refine j_put X (up M409 79 7 ((M409 79 7) + 1)) up_o cl_79.1 (wE_8 _ cl_79.2) rfl awF8 7 (by decide) (wP_8_7 _ _ cl_79.2) tyX8 tyX8_ok nmX8 rfl (ty := .int) (by decide +kernel) rfl rfl (Nat.le_of_ble_eq_true rfl) aw_378 rfl dX8_product_66 ?_
                refine j_aload_n X 1 rfl rfl dX8_product_69 ?_
                refine j_callVV X (nn := 0) (As := []) (st := []) (ci := 8) cl_79.1 (wE_8 _ cl_79.2) rfl aw_419 aw_420 (ih.1  _ _ h) aw_418 aw_406 aw_5 (by decide +kernel) ⟨(by show _ + 1 ≤ _ + 1 + _; omega), (by show 8 + (_ + 11) + 60 * _ ≤ 60 * _; omega)⟩ rfl (Nat.le_of_ble_eq_true rfl) ⟨Nat.le_of_ble_eq_true rfl, Nat.le_of_ble_eq_true rfl⟩ dX8_product_70 ?_
                intro M410 h
                refine j_aload_n X 1 rfl rfl dX8_product_73 ?_
                refine j_sipush X (v := 20000) (by decide) dX8_product_74 ?_
                refine j_iload_n X 0 rfl rfl dX8_product_77 ?_
                refine j_iadd X dX8_product_78 ?_
                refine j_callVV X (nn := 1) (As := [.int (20000 + r409)]) (st := []) (ci := 8) cl_79.1 (wE_8 _ cl_79.2) rfl aw_395 aw_396 (x_X8_adds l D y ad (20000 + r409) _ _ h) aw_394 aw_397 aw_5 (by decide +kernel) ⟨(by show _ + 1 ≤ _ + 1 + _; omega), (by show 8 + (_ + 11) + 60 * _ ≤ 60 * _; omega)⟩ rfl (Nat.le_of_ble_eq_true rfl) ⟨Nat.le_of_ble_eq_true rfl, Nat.le_of_ble_eq_true rfl⟩ dX8_product_79 ?_
                intro M411 h
                refine j_goto X 4 (by decide) dX8_product_82 ?_
                refine j_lv (lv1 := [(0, .ref (ad 79))]) [1] rfl ?_
                exact hB4  _ h
              · replace h := h.2 q_408
                refine j_aload_n X 0 rfl rfl dX8_product_37 ?_
                refine j_aload_n X 0 rfl rfl dX8_product_38 ?_
                refine j_get X cl_79.1 (wE_8 _ cl_79.2) rfl awF8 7 (by decide) aw_378 rfl (v := .int (M407 79 7)) rfl dX8_product_39 ?_
                refine j_callVI X (nn := 1) (As := [.int (M407 79 7)]) (st := []) (ci := 8) cl_79.1 (wE_8 _ cl_79.2) rfl aw_391 aw_392 (x_X8_byteAt l D y ad (M407 79 7) _ _ h) aw_390 aw_393 aw_5 (by decide +kernel) ⟨(by show _ + 1 ≤ _ + 1 + _; omega), (by show 8 + (_ + 11) + 60 * _ ≤ 60 * _; omega)⟩ rfl (Nat.le_of_ble_eq_true rfl) ⟨Nat.le_of_ble_eq_true rfl, Nat.le_of_ble_eq_true rfl⟩ dX8_product_42 ?_
                intro r412 M412 h
                refine j_bipush X (v := 37) (by decide) dX8_product_45 ?_
                refine j_icmp_ne X 85 (by decide) dX8_product_47 (fun q_413 => ?_) (fun q_413 => ?_)
                · replace h := h.1 q_413
                  exact j_vret X hr hlocks dX8_product_85 h
                · replace h := h.2 q_413
                  refine j_aload_n X 0 rfl rfl dX8_product_50 ?_
                  refine j_aload_n X 0 rfl rfl dX8_product_51 ?_
                  refine j_get X cl_79.1 (wE_8 _ cl_79.2) rfl awF8 7 (by decide) aw_378 rfl (v := .int (M412 79 7)) rfl dX8_product_52 ?_
                  refine j_callVI X (nn := 1) (As := [.int (M412 79 7)]) (st := []) (ci := 8) cl_79.1 (wE_8 _ cl_79.2) rfl aw_391 aw_392 (x_X8_byteAt l D y ad (M412 79 7) _ _ h) aw_390 aw_393 aw_5 (by decide +kernel) ⟨(by show _ + 1 ≤ _ + 1 + _; omega), (by show 8 + (_ + 11) + 60 * _ ≤ 60 * _; omega)⟩ rfl (Nat.le_of_ble_eq_true rfl) ⟨Nat.le_of_ble_eq_true rfl, Nat.le_of_ble_eq_true rfl⟩ dX8_product_55 ?_
                  intro r414 M414 h
                  refine j_istore_n X [(1, .int r414), (0, .ref (ad 79))] rfl (by decide) rfl dX8_product_58 ?_
                  refine j_aload_n X 1 rfl rfl dX8_product_59 ?_
                  refine j_dup X rfl dX8_product_60 ?_
                  refine j_get X cl_79.1 (wE_8 _ cl_79.2) rfl awF8 7 (by decide) aw_378 rfl (v := .int (M414 79 7)) rfl dX8_product_61 ?_
                  refine j_iconst X (v := 1) (by decide) dX8_product_64 ?_
                  refine j_iadd X dX8_product_65 ?_
                  refine j_put X (up M414 79 7 ((M414 79 7) + 1)) up_o cl_79.1 (wE_8 _ cl_79.2) rfl awF8 7 (by decide) (wP_8_7 _ _ cl_79.2) tyX8 tyX8_ok nmX8 rfl (ty := .int) (by decide +kernel) rfl rfl (Nat.le_of_ble_eq_true rfl) aw_378 rfl dX8_product_66 ?_
                  refine j_aload_n X 1 rfl rfl dX8_product_69 ?_
                  refine j_callVV X (nn := 0) (As := []) (st := []) (ci := 8) cl_79.1 (wE_8 _ cl_79.2) rfl aw_419 aw_420 (ih.1  _ _ h) aw_418 aw_406 aw_5 (by decide +kernel) ⟨(by show _ + 1 ≤ _ + 1 + _; omega), (by show 8 + (_ + 11) + 60 * _ ≤ 60 * _; omega)⟩ rfl (Nat.le_of_ble_eq_true rfl) ⟨Nat.le_of_ble_eq_true rfl, Nat.le_of_ble_eq_true rfl⟩ dX8_product_70 ?_
                  intro M415 h
                  refine j_aload_n X 1 rfl rfl dX8_product_73 ?_
                  refine j_sipush X (v := 20000) (by decide) dX8_product_74 ?_
                  refine j_iload_n X 0 rfl rfl dX8_product_77 ?_
                  refine j_iadd X dX8_product_78 ?_
                  refine j_callVV X (nn := 1) (As := [.int (20000 + r414)]) (st := []) (ci := 8) cl_79.1 (wE_8 _ cl_79.2) rfl aw_395 aw_396 (x_X8_adds l D y ad (20000 + r414) _ _ h) aw_394 aw_397 aw_5 (by decide +kernel) ⟨(by show _ + 1 ≤ _ + 1 + _; omega), (by show 8 + (_ + 11) + 60 * _ ≤ 60 * _; omega)⟩ rfl (Nat.le_of_ble_eq_true rfl) ⟨Nat.le_of_ble_eq_true rfl, Nat.le_of_ble_eq_true rfl⟩ dX8_product_79 ?_
                  intro M416 h
                  refine j_goto X 4 (by decide) dX8_product_82 ?_
                  refine j_lv (lv1 := [(0, .ref (ad 79))]) [1] rfl ?_
                  exact hB4  _ h
      replace h : wpb_X8_product (wp_X8_factor n0) (wp_X8_product n0) (wp_X8_sum n0) (wp_X8_compared n0) (wp_X8_both n0) (wp_X8_whole n0) M K := h
      delta wpb_X8_product at h
      refine j_lv (lv1 := [(0, .ref (ad 79))]) [0] rfl ?_
      refine j_aload_n X 0 rfl rfl dX8_product_0 ?_
      refine j_callVV X (nn := 0) (As := []) (st := []) (ci := 8) cl_79.1 (wE_8 _ cl_79.2) rfl aw_419 aw_420 (ih.1  _ _ h) aw_418 aw_406 aw_5 (by decide +kernel) ⟨(by show _ + 1 ≤ _ + 1 + _; omega), (by show 8 + (_ + 11) + 60 * _ ≤ 60 * _; omega)⟩ rfl (Nat.le_of_ble_eq_true rfl) ⟨Nat.le_of_ble_eq_true rfl, Nat.le_of_ble_eq_true rfl⟩ dX8_product_1 ?_
      intro M1 h
      refine j_lv (lv1 := [(0, .ref (ad 79))]) [0] rfl ?_
      obtain ⟨n4, h⟩ := h
      exact hL4    n4  _ h
    · intro M K h
      refine MV_of (by decide) (Nat.le_of_ble_eq_true rfl) ?_
      intro p e s m args below meth c X hr hlocks
      have hL4 : ∀ (n : Nat) (Mb : Mem), wp_X8_sum_L4 (wp_X8_factor n0) (wp_X8_product n0) (wp_X8_sum n0) (wp_X8_compared n0) (wp_X8_both n0) (wp_X8_whole n0) K n Mb → J p l e (rmN (n0 + 1 + 3)) s m args below meth c 0 0 (QV K D y ad M s args below) D y ad (va_A (PL y ad M) s.heap.size) 2 Mb 4 [(0, .ref (ad 79))] [] := by
        intro n
        induction n with
        | zero => intro Mb h; exact False.elim h
        | succ n hB4 =>
          intro Mb h
          replace h : wp_X8_sum_l4 (wp_X8_factor n0) (wp_X8_product n0) (wp_X8_sum n0) (wp_X8_compared n0) (wp_X8_both n0) (wp_X8_whole n0) K (wp_X8_sum_L4 (wp_X8_factor n0) (wp_X8_product n0) (wp_X8_sum n0) (wp_X8_compared n0) (wp_X8_both n0) (wp_X8_whole n0) K n) Mb := h
          delta wp_X8_sum_l4 at h
          refine j_aload_n X 0 rfl rfl dX8_sum_4 ?_
          refine j_get X cl_79.1 (wE_8 _ cl_79.2) rfl awF8 11 (by decide) aw_382 rfl (v := .int (Mb 79 11)) rfl dX8_sum_5 ?_
          refine j_if_eq X 72 (by decide) dX8_sum_8 (fun q_401 => ?_) (fun q_401 => ?_)
          · replace h := h.1 q_401
            exact j_vret X hr hlocks dX8_sum_72 h
          · replace h := h.2 q_401
            refine j_aload_n X 0 rfl rfl dX8_sum_11 ?_
            refine j_aload_n X 0 rfl rfl dX8_sum_12 ?_
            refine j_get X cl_79.1 (wE_8 _ cl_79.2) rfl awF8 7 (by decide) aw_378 rfl (v := .int (Mb 79 7)) rfl dX8_sum_13 ?_
            refine j_callVI X (nn := 1) (As := [.int (Mb 79 7)]) (st := []) (ci := 8) cl_79.1 (wE_8 _ cl_79.2) rfl aw_391 aw_392 (x_X8_byteAt l D y ad (Mb 79 7) _ _ h) aw_390 aw_393 aw_5 (by decide +kernel) ⟨(by show _ + 1 ≤ _ + 1 + _; omega), (by show 8 + (_ + 11) + 60 * _ ≤ 60 * _; omega)⟩ rfl (Nat.le_of_ble_eq_true rfl) ⟨Nat.le_of_ble_eq_true rfl, Nat.le_of_ble_eq_true rfl⟩ dX8_sum_16 ?_
            intro r402 M402 h
            refine j_bipush X (v := 43) (by decide) dX8_sum_19 ?_
            refine j_icmp_eq X 37 (by decide) dX8_sum_21 (fun q_403 => ?_) (fun q_403 => ?_)
            · replace h := h.1 q_403
              refine j_aload_n X 0 rfl rfl dX8_sum_37 ?_
              refine j_aload_n X 0 rfl rfl dX8_sum_38 ?_
              refine j_get X cl_79.1 (wE_8 _ cl_79.2) rfl awF8 7 (by decide) aw_378 rfl (v := .int (M402 79 7)) rfl dX8_sum_39 ?_
              refine j_callVI X (nn := 1) (As := [.int (M402 79 7)]) (st := []) (ci := 8) cl_79.1 (wE_8 _ cl_79.2) rfl aw_391 aw_392 (x_X8_byteAt l D y ad (M402 79 7) _ _ h) aw_390 aw_393 aw_5 (by decide +kernel) ⟨(by show _ + 1 ≤ _ + 1 + _; omega), (by show 8 + (_ + 11) + 60 * _ ≤ 60 * _; omega)⟩ rfl (Nat.le_of_ble_eq_true rfl) ⟨Nat.le_of_ble_eq_true rfl, Nat.le_of_ble_eq_true rfl⟩ dX8_sum_42 ?_
              intro r404 M404 h
              refine j_istore_n X [(1, .int r404), (0, .ref (ad 79))] rfl (by decide) rfl dX8_sum_45 ?_
              refine j_aload_n X 1 rfl rfl dX8_sum_46 ?_
              refine j_dup X rfl dX8_sum_47 ?_
              refine j_get X cl_79.1 (wE_8 _ cl_79.2) rfl awF8 7 (by decide) aw_378 rfl (v := .int (M404 79 7)) rfl dX8_sum_48 ?_
              refine j_iconst X (v := 1) (by decide) dX8_sum_51 ?_
              refine j_iadd X dX8_sum_52 ?_
              refine j_put X (up M404 79 7 ((M404 79 7) + 1)) up_o cl_79.1 (wE_8 _ cl_79.2) rfl awF8 7 (by decide) (wP_8_7 _ _ cl_79.2) tyX8 tyX8_ok nmX8 rfl (ty := .int) (by decide +kernel) rfl rfl (Nat.le_of_ble_eq_true rfl) aw_378 rfl dX8_sum_53 ?_
              refine j_aload_n X 1 rfl rfl dX8_sum_56 ?_
              refine j_callVV X (nn := 0) (As := []) (st := []) (ci := 8) cl_79.1 (wE_8 _ cl_79.2) rfl aw_424 aw_425 (ih.2.1  _ _ h) aw_423 aw_421 aw_5 (by decide +kernel) ⟨(by show _ + 1 ≤ _ + 1 + _; omega), (by show 8 + (_ + 11) + 60 * _ ≤ 60 * _; omega)⟩ rfl (Nat.le_of_ble_eq_true rfl) ⟨Nat.le_of_ble_eq_true rfl, Nat.le_of_ble_eq_true rfl⟩ dX8_sum_57 ?_
              intro M405 h
              refine j_aload_n X 1 rfl rfl dX8_sum_60 ?_
              refine j_sipush X (v := 20000) (by decide) dX8_sum_61 ?_
              refine j_iload_n X 0 rfl rfl dX8_sum_64 ?_
              refine j_iadd X dX8_sum_65 ?_
              refine j_callVV X (nn := 1) (As := [.int (20000 + r404)]) (st := []) (ci := 8) cl_79.1 (wE_8 _ cl_79.2) rfl aw_395 aw_396 (x_X8_adds l D y ad (20000 + r404) _ _ h) aw_394 aw_397 aw_5 (by decide +kernel) ⟨(by show _ + 1 ≤ _ + 1 + _; omega), (by show 8 + (_ + 11) + 60 * _ ≤ 60 * _; omega)⟩ rfl (Nat.le_of_ble_eq_true rfl) ⟨Nat.le_of_ble_eq_true rfl, Nat.le_of_ble_eq_true rfl⟩ dX8_sum_66 ?_
              intro M406 h
              refine j_goto X 4 (by decide) dX8_sum_69 ?_
              refine j_lv (lv1 := [(0, .ref (ad 79))]) [1] rfl ?_
              exact hB4  _ h
            · replace h := h.2 q_403
              refine j_aload_n X 0 rfl rfl dX8_sum_24 ?_
              refine j_aload_n X 0 rfl rfl dX8_sum_25 ?_
              refine j_get X cl_79.1 (wE_8 _ cl_79.2) rfl awF8 7 (by decide) aw_378 rfl (v := .int (M402 79 7)) rfl dX8_sum_26 ?_
              refine j_callVI X (nn := 1) (As := [.int (M402 79 7)]) (st := []) (ci := 8) cl_79.1 (wE_8 _ cl_79.2) rfl aw_391 aw_392 (x_X8_byteAt l D y ad (M402 79 7) _ _ h) aw_390 aw_393 aw_5 (by decide +kernel) ⟨(by show _ + 1 ≤ _ + 1 + _; omega), (by show 8 + (_ + 11) + 60 * _ ≤ 60 * _; omega)⟩ rfl (Nat.le_of_ble_eq_true rfl) ⟨Nat.le_of_ble_eq_true rfl, Nat.le_of_ble_eq_true rfl⟩ dX8_sum_29 ?_
              intro r407 M407 h
              refine j_bipush X (v := 45) (by decide) dX8_sum_32 ?_
              refine j_icmp_ne X 72 (by decide) dX8_sum_34 (fun q_408 => ?_) (fun q_408 => ?_)
              · replace h := h.1 q_408
                exact j_vret X hr hlocks dX8_sum_72 h
              · replace h := h.2 q_408
                refine j_aload_n X 0 rfl rfl dX8_sum_37 ?_
                refine j_aload_n X 0 rfl rfl dX8_sum_38 ?_
                refine j_get X cl_79.1 (wE_8 _ cl_79.2) rfl awF8 7 (by decide) aw_378 rfl (v := .int (M407 79 7)) rfl dX8_sum_39 ?_
                refine j_callVI X (nn := 1) (As := [.int (M407 79 7)]) (st := []) (ci := 8) cl_79.1 (wE_8 _ cl_79.2) rfl aw_391 aw_392 (x_X8_byteAt l D y ad (M407 79 7) _ _ h) aw_390 aw_393 aw_5 (by decide +kernel) ⟨(by show _ + 1 ≤ _ + 1 + _; omega), (by show 8 + (_ + 11) + 60 * _ ≤ 60 * _; omega)⟩ rfl (Nat.le_of_ble_eq_true rfl) ⟨Nat.le_of_ble_eq_true rfl, Nat.le_of_ble_eq_true rfl⟩ dX8_sum_42 ?_
                intro r409 M409 h
                refine j_istore_n X [(1, .int r409), (0, .ref (ad 79))] rfl (by decide) rfl dX8_sum_45 ?_
                refine j_aload_n X 1 rfl rfl dX8_sum_46 ?_
                refine j_dup X rfl dX8_sum_47 ?_
                refine j_get X cl_79.1 (wE_8 _ cl_79.2) rfl awF8 7 (by decide) aw_378 rfl (v := .int (M409 79 7)) rfl dX8_sum_48 ?_
                refine j_iconst X (v := 1) (by decide) dX8_sum_51 ?_
                refine j_iadd X dX8_sum_52 ?_
                refine j_put X (up M409 79 7 ((M409 79 7) + 1)) up_o cl_79.1 (wE_8 _ cl_79.2) rfl awF8 7 (by decide) (wP_8_7 _ _ cl_79.2) tyX8 tyX8_ok nmX8 rfl (ty := .int) (by decide +kernel) rfl rfl (Nat.le_of_ble_eq_true rfl) aw_378 rfl dX8_sum_53 ?_
                refine j_aload_n X 1 rfl rfl dX8_sum_56 ?_
                refine j_callVV X (nn := 0) (As := []) (st := []) (ci := 8) cl_79.1 (wE_8 _ cl_79.2) rfl aw_424 aw_425 (ih.2.1  _ _ h) aw_423 aw_421 aw_5 (by decide +kernel) ⟨(by show _ + 1 ≤ _ + 1 + _; omega), (by show 8 + (_ + 11) + 60 * _ ≤ 60 * _; omega)⟩ rfl (Nat.le_of_ble_eq_true rfl) ⟨Nat.le_of_ble_eq_true rfl, Nat.le_of_ble_eq_true rfl⟩ dX8_sum_57 ?_
                intro M410 h
                refine j_aload_n X 1 rfl rfl dX8_sum_60 ?_
                refine j_sipush X (v := 20000) (by decide) dX8_sum_61 ?_
                refine j_iload_n X 0 rfl rfl dX8_sum_64 ?_
                refine j_iadd X dX8_sum_65 ?_
                refine j_callVV X (nn := 1) (As := [.int (20000 + r409)]) (st := []) (ci := 8) cl_79.1 (wE_8 _ cl_79.2) rfl aw_395 aw_396 (x_X8_adds l D y ad (20000 + r409) _ _ h) aw_394 aw_397 aw_5 (by decide +kernel) ⟨(by show _ + 1 ≤ _ + 1 + _; omega), (by show 8 + (_ + 11) + 60 * _ ≤ 60 * _; omega)⟩ rfl (Nat.le_of_ble_eq_true rfl) ⟨Nat.le_of_ble_eq_true rfl, Nat.le_of_ble_eq_true rfl⟩ dX8_sum_66 ?_
                intro M411 h
                refine j_goto X 4 (by decide) dX8_sum_69 ?_
                refine j_lv (lv1 := [(0, .ref (ad 79))]) [1] rfl ?_
                exact hB4  _ h
      replace h : wpb_X8_sum (wp_X8_factor n0) (wp_X8_product n0) (wp_X8_sum n0) (wp_X8_compared n0) (wp_X8_both n0) (wp_X8_whole n0) M K := h
      delta wpb_X8_sum at h
      refine j_lv (lv1 := [(0, .ref (ad 79))]) [0] rfl ?_
      refine j_aload_n X 0 rfl rfl dX8_sum_0 ?_
      refine j_callVV X (nn := 0) (As := []) (st := []) (ci := 8) cl_79.1 (wE_8 _ cl_79.2) rfl aw_424 aw_425 (ih.2.1  _ _ h) aw_423 aw_421 aw_5 (by decide +kernel) ⟨(by show _ + 1 ≤ _ + 1 + _; omega), (by show 8 + (_ + 11) + 60 * _ ≤ 60 * _; omega)⟩ rfl (Nat.le_of_ble_eq_true rfl) ⟨Nat.le_of_ble_eq_true rfl, Nat.le_of_ble_eq_true rfl⟩ dX8_sum_1 ?_
      intro M1 h
      refine j_lv (lv1 := [(0, .ref (ad 79))]) [0] rfl ?_
      obtain ⟨n4, h⟩ := h
      exact hL4    n4  _ h
    · intro M K h
      refine MV_of (by decide) (Nat.le_of_ble_eq_true rfl) ?_
      intro p e s m args below meth c X hr hlocks
      have hb23 : ∀ (t0 : Int32) (Mb : Mem), wp_X8_compared_b23 (wp_X8_factor n0) (wp_X8_product n0) (wp_X8_sum n0) (wp_X8_compared n0) (wp_X8_both n0) (wp_X8_whole n0) K t0 Mb → J p l e (rmN (n0 + 1 + 3)) s m args below meth c 0 0 (QV K D y ad M s args below) D y ad (va_A (PL y ad M) s.heap.size) 2 Mb 23 [(0, .ref (ad 79))] [.int t0] := by
        intro t0 Mb h
        delta wp_X8_compared_b23 at h
        refine j_istore_n X [(1, .int t0), (0, .ref (ad 79))] rfl (by decide) rfl dX8_compared_23 ?_
        refine j_iload_n X 0 rfl rfl dX8_compared_24 ?_
        refine j_bipush X (v := 60) (by decide) dX8_compared_25 ?_
        refine j_icmp_eq X 42 (by decide) dX8_compared_27 (fun q_2301 => ?_) (fun q_2301 => ?_)
        · replace h := h.1 q_2301
          refine j_aload_n X 1 rfl rfl dX8_compared_42 ?_
          refine j_dup X rfl dX8_compared_43 ?_
          refine j_get X cl_79.1 (wE_8 _ cl_79.2) rfl awF8 7 (by decide) aw_378 rfl (v := .int (Mb 79 7)) rfl dX8_compared_44 ?_
          refine j_iconst X (v := 1) (by decide) dX8_compared_47 ?_
          refine j_iadd X dX8_compared_48 ?_
          refine j_put X (up Mb 79 7 ((Mb 79 7) + 1)) up_o cl_79.1 (wE_8 _ cl_79.2) rfl awF8 7 (by decide) (wP_8_7 _ _ cl_79.2) tyX8 tyX8_ok nmX8 rfl (ty := .int) (by decide +kernel) rfl rfl (Nat.le_of_ble_eq_true rfl) aw_378 rfl dX8_compared_49 ?_
          refine j_aload_n X 1 rfl rfl dX8_compared_52 ?_
          refine j_callVV X (nn := 0) (As := []) (st := []) (ci := 8) cl_79.1 (wE_8 _ cl_79.2) rfl aw_404 aw_405 (ih.2.2.1  _ _ h) aw_403 aw_422 aw_5 (by decide +kernel) ⟨(by show _ + 1 ≤ _ + 1 + _; omega), (by show 8 + (_ + 11) + 60 * _ ≤ 60 * _; omega)⟩ rfl (Nat.le_of_ble_eq_true rfl) ⟨Nat.le_of_ble_eq_true rfl, Nat.le_of_ble_eq_true rfl⟩ dX8_compared_53 ?_
          intro M2302 h
          refine j_aload_n X 1 rfl rfl dX8_compared_56 ?_
          refine j_sipush X (v := 20000) (by decide) dX8_compared_57 ?_
          refine j_iload_n X 0 rfl rfl dX8_compared_60 ?_
          refine j_iadd X dX8_compared_61 ?_
          refine j_callVV X (nn := 1) (As := [.int (20000 + t0)]) (st := []) (ci := 8) cl_79.1 (wE_8 _ cl_79.2) rfl aw_395 aw_396 (x_X8_adds l D y ad (20000 + t0) _ _ h) aw_394 aw_397 aw_5 (by decide +kernel) ⟨(by show _ + 1 ≤ _ + 1 + _; omega), (by show 8 + (_ + 11) + 60 * _ ≤ 60 * _; omega)⟩ rfl (Nat.le_of_ble_eq_true rfl) ⟨Nat.le_of_ble_eq_true rfl, Nat.le_of_ble_eq_true rfl⟩ dX8_compared_62 ?_
          intro M2303 h
          exact j_vret X hr hlocks dX8_compared_65 h
        · replace h := h.2 q_2301
          refine j_iload_n X 0 rfl rfl dX8_compared_30 ?_
          refine j_bipush X (v := 61) (by decide) dX8_compared_31 ?_
          refine j_icmp_eq X 42 (by decide) dX8_compared_33 (fun q_2304 => ?_) (fun q_2304 => ?_)
          · replace h := h.1 q_2304
            refine j_aload_n X 1 rfl rfl dX8_compared_42 ?_
            refine j_dup X rfl dX8_compared_43 ?_
            refine j_get X cl_79.1 (wE_8 _ cl_79.2) rfl awF8 7 (by decide) aw_378 rfl (v := .int (Mb 79 7)) rfl dX8_compared_44 ?_
            refine j_iconst X (v := 1) (by decide) dX8_compared_47 ?_
            refine j_iadd X dX8_compared_48 ?_
            refine j_put X (up Mb 79 7 ((Mb 79 7) + 1)) up_o cl_79.1 (wE_8 _ cl_79.2) rfl awF8 7 (by decide) (wP_8_7 _ _ cl_79.2) tyX8 tyX8_ok nmX8 rfl (ty := .int) (by decide +kernel) rfl rfl (Nat.le_of_ble_eq_true rfl) aw_378 rfl dX8_compared_49 ?_
            refine j_aload_n X 1 rfl rfl dX8_compared_52 ?_
            refine j_callVV X (nn := 0) (As := []) (st := []) (ci := 8) cl_79.1 (wE_8 _ cl_79.2) rfl aw_404 aw_405 (ih.2.2.1  _ _ h) aw_403 aw_422 aw_5 (by decide +kernel) ⟨(by show _ + 1 ≤ _ + 1 + _; omega), (by show 8 + (_ + 11) + 60 * _ ≤ 60 * _; omega)⟩ rfl (Nat.le_of_ble_eq_true rfl) ⟨Nat.le_of_ble_eq_true rfl, Nat.le_of_ble_eq_true rfl⟩ dX8_compared_53 ?_
            intro M2305 h
            refine j_aload_n X 1 rfl rfl dX8_compared_56 ?_
            refine j_sipush X (v := 20000) (by decide) dX8_compared_57 ?_
            refine j_iload_n X 0 rfl rfl dX8_compared_60 ?_
            refine j_iadd X dX8_compared_61 ?_
            refine j_callVV X (nn := 1) (As := [.int (20000 + t0)]) (st := []) (ci := 8) cl_79.1 (wE_8 _ cl_79.2) rfl aw_395 aw_396 (x_X8_adds l D y ad (20000 + t0) _ _ h) aw_394 aw_397 aw_5 (by decide +kernel) ⟨(by show _ + 1 ≤ _ + 1 + _; omega), (by show 8 + (_ + 11) + 60 * _ ≤ 60 * _; omega)⟩ rfl (Nat.le_of_ble_eq_true rfl) ⟨Nat.le_of_ble_eq_true rfl, Nat.le_of_ble_eq_true rfl⟩ dX8_compared_62 ?_
            intro M2306 h
            exact j_vret X hr hlocks dX8_compared_65 h
          · replace h := h.2 q_2304
            refine j_iload_n X 0 rfl rfl dX8_compared_36 ?_
            refine j_bipush X (v := 62) (by decide) dX8_compared_37 ?_
            refine j_icmp_ne X 65 (by decide) dX8_compared_39 (fun q_2307 => ?_) (fun q_2307 => ?_)
            · replace h := h.1 q_2307
              exact j_vret X hr hlocks dX8_compared_65 h
            · replace h := h.2 q_2307
              refine j_aload_n X 1 rfl rfl dX8_compared_42 ?_
              refine j_dup X rfl dX8_compared_43 ?_
              refine j_get X cl_79.1 (wE_8 _ cl_79.2) rfl awF8 7 (by decide) aw_378 rfl (v := .int (Mb 79 7)) rfl dX8_compared_44 ?_
              refine j_iconst X (v := 1) (by decide) dX8_compared_47 ?_
              refine j_iadd X dX8_compared_48 ?_
              refine j_put X (up Mb 79 7 ((Mb 79 7) + 1)) up_o cl_79.1 (wE_8 _ cl_79.2) rfl awF8 7 (by decide) (wP_8_7 _ _ cl_79.2) tyX8 tyX8_ok nmX8 rfl (ty := .int) (by decide +kernel) rfl rfl (Nat.le_of_ble_eq_true rfl) aw_378 rfl dX8_compared_49 ?_
              refine j_aload_n X 1 rfl rfl dX8_compared_52 ?_
              refine j_callVV X (nn := 0) (As := []) (st := []) (ci := 8) cl_79.1 (wE_8 _ cl_79.2) rfl aw_404 aw_405 (ih.2.2.1  _ _ h) aw_403 aw_422 aw_5 (by decide +kernel) ⟨(by show _ + 1 ≤ _ + 1 + _; omega), (by show 8 + (_ + 11) + 60 * _ ≤ 60 * _; omega)⟩ rfl (Nat.le_of_ble_eq_true rfl) ⟨Nat.le_of_ble_eq_true rfl, Nat.le_of_ble_eq_true rfl⟩ dX8_compared_53 ?_
              intro M2308 h
              refine j_aload_n X 1 rfl rfl dX8_compared_56 ?_
              refine j_sipush X (v := 20000) (by decide) dX8_compared_57 ?_
              refine j_iload_n X 0 rfl rfl dX8_compared_60 ?_
              refine j_iadd X dX8_compared_61 ?_
              refine j_callVV X (nn := 1) (As := [.int (20000 + t0)]) (st := []) (ci := 8) cl_79.1 (wE_8 _ cl_79.2) rfl aw_395 aw_396 (x_X8_adds l D y ad (20000 + t0) _ _ h) aw_394 aw_397 aw_5 (by decide +kernel) ⟨(by show _ + 1 ≤ _ + 1 + _; omega), (by show 8 + (_ + 11) + 60 * _ ≤ 60 * _; omega)⟩ rfl (Nat.le_of_ble_eq_true rfl) ⟨Nat.le_of_ble_eq_true rfl, Nat.le_of_ble_eq_true rfl⟩ dX8_compared_62 ?_
              intro M2309 h
              exact j_vret X hr hlocks dX8_compared_65 h
      replace h : wpb_X8_compared (wp_X8_factor n0) (wp_X8_product n0) (wp_X8_sum n0) (wp_X8_compared n0) (wp_X8_both n0) (wp_X8_whole n0) M K := h
      delta wpb_X8_compared at h
      refine j_lv (lv1 := [(0, .ref (ad 79))]) [0] rfl ?_
      refine j_aload_n X 0 rfl rfl dX8_compared_0 ?_
      refine j_callVV X (nn := 0) (As := []) (st := []) (ci := 8) cl_79.1 (wE_8 _ cl_79.2) rfl aw_404 aw_405 (ih.2.2.1  _ _ h) aw_403 aw_422 aw_5 (by decide +kernel) ⟨(by show _ + 1 ≤ _ + 1 + _; omega), (by show 8 + (_ + 11) + 60 * _ ≤ 60 * _; omega)⟩ rfl (Nat.le_of_ble_eq_true rfl) ⟨Nat.le_of_ble_eq_true rfl, Nat.le_of_ble_eq_true rfl⟩ dX8_compared_1 ?_
      intro M1 h
      refine j_aload_n X 0 rfl rfl dX8_compared_4 ?_
      refine j_get X cl_79.1 (wE_8 _ cl_79.2) rfl awF8 11 (by decide) aw_382 rfl (v := .int (M1 79 11)) rfl dX8_compared_5 ?_
      refine j_if_eq X 22 (by decide) dX8_compared_8 (fun q_2 => ?_) (fun q_2 => ?_)
      · replace h := h.1 q_2
        refine j_iconst X (v := (-1)) (by decide) dX8_compared_22 ?_
        refine j_lv (lv1 := [(0, .ref (ad 79))]) [0] rfl ?_
        exact hb23 _  _ h
      · replace h := h.2 q_2
        refine j_aload_n X 0 rfl rfl dX8_compared_11 ?_
        refine j_aload_n X 0 rfl rfl dX8_compared_12 ?_
        refine j_get X cl_79.1 (wE_8 _ cl_79.2) rfl awF8 7 (by decide) aw_378 rfl (v := .int (M1 79 7)) rfl dX8_compared_13 ?_
        refine j_callVI X (nn := 1) (As := [.int (M1 79 7)]) (st := []) (ci := 8) cl_79.1 (wE_8 _ cl_79.2) rfl aw_391 aw_392 (x_X8_byteAt l D y ad (M1 79 7) _ _ h) aw_390 aw_393 aw_5 (by decide +kernel) ⟨(by show _ + 1 ≤ _ + 1 + _; omega), (by show 8 + (_ + 11) + 60 * _ ≤ 60 * _; omega)⟩ rfl (Nat.le_of_ble_eq_true rfl) ⟨Nat.le_of_ble_eq_true rfl, Nat.le_of_ble_eq_true rfl⟩ dX8_compared_16 ?_
        intro r3 M3 h
        refine j_goto X 23 (by decide) dX8_compared_19 ?_
        refine j_lv (lv1 := [(0, .ref (ad 79))]) [0] rfl ?_
        exact hb23 _  _ h
    · intro M K h
      refine MV_of (by decide) (Nat.le_of_ble_eq_true rfl) ?_
      intro p e s m args below meth c X hr hlocks
      have hL4 : ∀ (n : Nat) (Mb : Mem), wp_X8_both_L4 (wp_X8_factor n0) (wp_X8_product n0) (wp_X8_sum n0) (wp_X8_compared n0) (wp_X8_both n0) (wp_X8_whole n0) K n Mb → J p l e (rmN (n0 + 1 + 3)) s m args below meth c 0 0 (QV K D y ad M s args below) D y ad (va_A (PL y ad M) s.heap.size) 1 Mb 4 [(0, .ref (ad 79))] [] := by
        intro n
        induction n with
        | zero => intro Mb h; exact False.elim h
        | succ n hB4 =>
          intro Mb h
          replace h : wp_X8_both_l4 (wp_X8_factor n0) (wp_X8_product n0) (wp_X8_sum n0) (wp_X8_compared n0) (wp_X8_both n0) (wp_X8_whole n0) K (wp_X8_both_L4 (wp_X8_factor n0) (wp_X8_product n0) (wp_X8_sum n0) (wp_X8_compared n0) (wp_X8_both n0) (wp_X8_whole n0) K n) Mb := h
          delta wp_X8_both_l4 at h
          refine j_aload_n X 0 rfl rfl dX8_both_4 ?_
          refine j_get X cl_79.1 (wE_8 _ cl_79.2) rfl awF8 11 (by decide) aw_382 rfl (v := .int (Mb 79 11)) rfl dX8_both_5 ?_
          refine j_if_eq X 48 (by decide) dX8_both_8 (fun q_401 => ?_) (fun q_401 => ?_)
          · replace h := h.1 q_401
            exact j_vret X hr hlocks dX8_both_48 h
          · replace h := h.2 q_401
            refine j_aload_n X 0 rfl rfl dX8_both_11 ?_
            refine j_aload_n X 0 rfl rfl dX8_both_12 ?_
            refine j_get X cl_79.1 (wE_8 _ cl_79.2) rfl awF8 7 (by decide) aw_378 rfl (v := .int (Mb 79 7)) rfl dX8_both_13 ?_
            refine j_callVI X (nn := 1) (As := [.int (Mb 79 7)]) (st := []) (ci := 8) cl_79.1 (wE_8 _ cl_79.2) rfl aw_391 aw_392 (x_X8_byteAt l D y ad (Mb 79 7) _ _ h) aw_390 aw_393 aw_5 (by decide +kernel) ⟨(by show _ + 1 ≤ _ + 1 + _; omega), (by show 8 + (_ + 11) + 60 * _ ≤ 60 * _; omega)⟩ rfl (Nat.le_of_ble_eq_true rfl) ⟨Nat.le_of_ble_eq_true rfl, Nat.le_of_ble_eq_true rfl⟩ dX8_both_16 ?_
            intro r402 M402 h
            refine j_bipush X (v := 38) (by decide) dX8_both_19 ?_
            refine j_icmp_ne X 48 (by decide) dX8_both_21 (fun q_403 => ?_) (fun q_403 => ?_)
            · replace h := h.1 q_403
              exact j_vret X hr hlocks dX8_both_48 h
            · replace h := h.2 q_403
              refine j_aload_n X 0 rfl rfl dX8_both_24 ?_
              refine j_dup X rfl dX8_both_25 ?_
              refine j_get X cl_79.1 (wE_8 _ cl_79.2) rfl awF8 7 (by decide) aw_378 rfl (v := .int (M402 79 7)) rfl dX8_both_26 ?_
              refine j_iconst X (v := 1) (by decide) dX8_both_29 ?_
              refine j_iadd X dX8_both_30 ?_
              refine j_put X (up M402 79 7 ((M402 79 7) + 1)) up_o cl_79.1 (wE_8 _ cl_79.2) rfl awF8 7 (by decide) (wP_8_7 _ _ cl_79.2) tyX8 tyX8_ok nmX8 rfl (ty := .int) (by decide +kernel) rfl rfl (Nat.le_of_ble_eq_true rfl) aw_378 rfl dX8_both_31 ?_
              refine j_aload_n X 0 rfl rfl dX8_both_34 ?_
              refine j_callVV X (nn := 0) (As := []) (st := []) (ci := 8) cl_79.1 (wE_8 _ cl_79.2) rfl aw_400 aw_401 (ih.2.2.2.1  _ _ h) aw_399 aw_402 aw_5 (by decide +kernel) ⟨(by show _ + 1 ≤ _ + 1 + _; omega), (by show 8 + (_ + 11) + 60 * _ ≤ 60 * _; omega)⟩ rfl (Nat.le_of_ble_eq_true rfl) ⟨Nat.le_of_ble_eq_true rfl, Nat.le_of_ble_eq_true rfl⟩ dX8_both_35 ?_
              intro M404 h
              refine j_aload_n X 0 rfl rfl dX8_both_38 ?_
              refine j_sipush X (v := 20038) (by decide) dX8_both_39 ?_
              refine j_callVV X (nn := 1) (As := [.int 20038]) (st := []) (ci := 8) cl_79.1 (wE_8 _ cl_79.2) rfl aw_395 aw_396 (x_X8_adds l D y ad 20038 _ _ h) aw_394 aw_397 aw_5 (by decide +kernel) ⟨(by show _ + 1 ≤ _ + 1 + _; omega), (by show 8 + (_ + 11) + 60 * _ ≤ 60 * _; omega)⟩ rfl (Nat.le_of_ble_eq_true rfl) ⟨Nat.le_of_ble_eq_true rfl, Nat.le_of_ble_eq_true rfl⟩ dX8_both_42 ?_
              intro M405 h
              refine j_goto X 4 (by decide) dX8_both_45 ?_
              refine j_lv (lv1 := [(0, .ref (ad 79))]) [0] rfl ?_
              exact hB4  _ h
      replace h : wpb_X8_both (wp_X8_factor n0) (wp_X8_product n0) (wp_X8_sum n0) (wp_X8_compared n0) (wp_X8_both n0) (wp_X8_whole n0) M K := h
      delta wpb_X8_both at h
      refine j_lv (lv1 := [(0, .ref (ad 79))]) [0] rfl ?_
      refine j_aload_n X 0 rfl rfl dX8_both_0 ?_
      refine j_callVV X (nn := 0) (As := []) (st := []) (ci := 8) cl_79.1 (wE_8 _ cl_79.2) rfl aw_400 aw_401 (ih.2.2.2.1  _ _ h) aw_399 aw_402 aw_5 (by decide +kernel) ⟨(by show _ + 1 ≤ _ + 1 + _; omega), (by show 8 + (_ + 11) + 60 * _ ≤ 60 * _; omega)⟩ rfl (Nat.le_of_ble_eq_true rfl) ⟨Nat.le_of_ble_eq_true rfl, Nat.le_of_ble_eq_true rfl⟩ dX8_both_1 ?_
      intro M1 h
      refine j_lv (lv1 := [(0, .ref (ad 79))]) [0] rfl ?_
      obtain ⟨n4, h⟩ := h
      exact hL4    n4  _ h
    · intro M K h
      refine MV_of (by decide) (Nat.le_of_ble_eq_true rfl) ?_
      intro p e s m args below meth c X hr hlocks
      have hL4 : ∀ (n : Nat) (Mb : Mem), wp_X8_whole_L4 (wp_X8_factor n0) (wp_X8_product n0) (wp_X8_sum n0) (wp_X8_compared n0) (wp_X8_both n0) (wp_X8_whole n0) K n Mb → J p l e (rmN (n0 + 1 + 3)) s m args below meth c 0 0 (QV K D y ad M s args below) D y ad (va_A (PL y ad M) s.heap.size) 1 Mb 4 [(0, .ref (ad 79))] [] := by
        intro n
        induction n with
        | zero => intro Mb h; exact False.elim h
        | succ n hB4 =>
          intro Mb h
          replace h : wp_X8_whole_l4 (wp_X8_factor n0) (wp_X8_product n0) (wp_X8_sum n0) (wp_X8_compared n0) (wp_X8_both n0) (wp_X8_whole n0) K (wp_X8_whole_L4 (wp_X8_factor n0) (wp_X8_product n0) (wp_X8_sum n0) (wp_X8_compared n0) (wp_X8_both n0) (wp_X8_whole n0) K n) Mb := h
          delta wp_X8_whole_l4 at h
          refine j_aload_n X 0 rfl rfl dX8_whole_4 ?_
          refine j_get X cl_79.1 (wE_8 _ cl_79.2) rfl awF8 11 (by decide) aw_382 rfl (v := .int (Mb 79 11)) rfl dX8_whole_5 ?_
          refine j_if_eq X 48 (by decide) dX8_whole_8 (fun q_401 => ?_) (fun q_401 => ?_)
          · replace h := h.1 q_401
            exact j_vret X hr hlocks dX8_whole_48 h
          · replace h := h.2 q_401
            refine j_aload_n X 0 rfl rfl dX8_whole_11 ?_
            refine j_aload_n X 0 rfl rfl dX8_whole_12 ?_
            refine j_get X cl_79.1 (wE_8 _ cl_79.2) rfl awF8 7 (by decide) aw_378 rfl (v := .int (Mb 79 7)) rfl dX8_whole_13 ?_
            refine j_callVI X (nn := 1) (As := [.int (Mb 79 7)]) (st := []) (ci := 8) cl_79.1 (wE_8 _ cl_79.2) rfl aw_391 aw_392 (x_X8_byteAt l D y ad (Mb 79 7) _ _ h) aw_390 aw_393 aw_5 (by decide +kernel) ⟨(by show _ + 1 ≤ _ + 1 + _; omega), (by show 8 + (_ + 11) + 60 * _ ≤ 60 * _; omega)⟩ rfl (Nat.le_of_ble_eq_true rfl) ⟨Nat.le_of_ble_eq_true rfl, Nat.le_of_ble_eq_true rfl⟩ dX8_whole_16 ?_
            intro r402 M402 h
            refine j_bipush X (v := 124) (by decide) dX8_whole_19 ?_
            refine j_icmp_ne X 48 (by decide) dX8_whole_21 (fun q_403 => ?_) (fun q_403 => ?_)
            · replace h := h.1 q_403
              exact j_vret X hr hlocks dX8_whole_48 h
            · replace h := h.2 q_403
              refine j_aload_n X 0 rfl rfl dX8_whole_24 ?_
              refine j_dup X rfl dX8_whole_25 ?_
              refine j_get X cl_79.1 (wE_8 _ cl_79.2) rfl awF8 7 (by decide) aw_378 rfl (v := .int (M402 79 7)) rfl dX8_whole_26 ?_
              refine j_iconst X (v := 1) (by decide) dX8_whole_29 ?_
              refine j_iadd X dX8_whole_30 ?_
              refine j_put X (up M402 79 7 ((M402 79 7) + 1)) up_o cl_79.1 (wE_8 _ cl_79.2) rfl awF8 7 (by decide) (wP_8_7 _ _ cl_79.2) tyX8 tyX8_ok nmX8 rfl (ty := .int) (by decide +kernel) rfl rfl (Nat.le_of_ble_eq_true rfl) aw_378 rfl dX8_whole_31 ?_
              refine j_aload_n X 0 rfl rfl dX8_whole_34 ?_
              refine j_callVV X (nn := 0) (As := []) (st := []) (ci := 8) cl_79.1 (wE_8 _ cl_79.2) rfl aw_388 aw_389 (ih.2.2.2.2.1  _ _ h) aw_387 aw_398 aw_5 (by decide +kernel) ⟨(by show _ + 1 ≤ _ + 1 + _; omega), (by show 8 + (_ + 11) + 60 * _ ≤ 60 * _; omega)⟩ rfl (Nat.le_of_ble_eq_true rfl) ⟨Nat.le_of_ble_eq_true rfl, Nat.le_of_ble_eq_true rfl⟩ dX8_whole_35 ?_
              intro M404 h
              refine j_aload_n X 0 rfl rfl dX8_whole_38 ?_
              refine j_sipush X (v := 20124) (by decide) dX8_whole_39 ?_
              refine j_callVV X (nn := 1) (As := [.int 20124]) (st := []) (ci := 8) cl_79.1 (wE_8 _ cl_79.2) rfl aw_395 aw_396 (x_X8_adds l D y ad 20124 _ _ h) aw_394 aw_397 aw_5 (by decide +kernel) ⟨(by show _ + 1 ≤ _ + 1 + _; omega), (by show 8 + (_ + 11) + 60 * _ ≤ 60 * _; omega)⟩ rfl (Nat.le_of_ble_eq_true rfl) ⟨Nat.le_of_ble_eq_true rfl, Nat.le_of_ble_eq_true rfl⟩ dX8_whole_42 ?_
              intro M405 h
              refine j_goto X 4 (by decide) dX8_whole_45 ?_
              refine j_lv (lv1 := [(0, .ref (ad 79))]) [0] rfl ?_
              exact hB4  _ h
      replace h : wpb_X8_whole (wp_X8_factor n0) (wp_X8_product n0) (wp_X8_sum n0) (wp_X8_compared n0) (wp_X8_both n0) (wp_X8_whole n0) M K := h
      delta wpb_X8_whole at h
      refine j_lv (lv1 := [(0, .ref (ad 79))]) [0] rfl ?_
      refine j_aload_n X 0 rfl rfl dX8_whole_0 ?_
      refine j_callVV X (nn := 0) (As := []) (st := []) (ci := 8) cl_79.1 (wE_8 _ cl_79.2) rfl aw_388 aw_389 (ih.2.2.2.2.1  _ _ h) aw_387 aw_398 aw_5 (by decide +kernel) ⟨(by show _ + 1 ≤ _ + 1 + _; omega), (by show 8 + (_ + 11) + 60 * _ ≤ 60 * _; omega)⟩ rfl (Nat.le_of_ble_eq_true rfl) ⟨Nat.le_of_ble_eq_true rfl, Nat.le_of_ble_eq_true rfl⟩ dX8_whole_1 ?_
      intro M1 h
      refine j_lv (lv1 := [(0, .ref (ad 79))]) [0] rfl ?_
      obtain ⟨n4, h⟩ := h
      exact hL4    n4  _ h
theorem x_X8_factor (l : Launch) (D : va_G) (y : wY) (ad : Nat → Nat) (n : Nat) (M : Mem) (K : Mem → Prop) (h : wp_X8_factor n M K) : MV l D y ad yX8_factor (Cond.code yX8_factor cX8_factor 2 none) (n + 3) M [.ref (ad 79)] K := (xg_X8_factor l D y ad n).1 M K h
theorem x_X8_product (l : Launch) (D : va_G) (y : wY) (ad : Nat → Nat) (n : Nat) (M : Mem) (K : Mem → Prop) (h : wp_X8_product n M K) : MV l D y ad yX8_product (Cond.code yX8_product cX8_product 2 none) (n + 3) M [.ref (ad 79)] K := (xg_X8_factor l D y ad n).2.1 M K h
theorem x_X8_sum (l : Launch) (D : va_G) (y : wY) (ad : Nat → Nat) (n : Nat) (M : Mem) (K : Mem → Prop) (h : wp_X8_sum n M K) : MV l D y ad yX8_sum (Cond.code yX8_sum cX8_sum 2 none) (n + 3) M [.ref (ad 79)] K := (xg_X8_factor l D y ad n).2.2.1 M K h
theorem x_X8_compared (l : Launch) (D : va_G) (y : wY) (ad : Nat → Nat) (n : Nat) (M : Mem) (K : Mem → Prop) (h : wp_X8_compared n M K) : MV l D y ad yX8_compared (Cond.code yX8_compared cX8_compared 2 none) (n + 3) M [.ref (ad 79)] K := (xg_X8_factor l D y ad n).2.2.2.1 M K h
theorem x_X8_both (l : Launch) (D : va_G) (y : wY) (ad : Nat → Nat) (n : Nat) (M : Mem) (K : Mem → Prop) (h : wp_X8_both n M K) : MV l D y ad yX8_both (Cond.code yX8_both cX8_both 1 none) (n + 3) M [.ref (ad 79)] K := (xg_X8_factor l D y ad n).2.2.2.2.1 M K h
theorem x_X8_whole (l : Launch) (D : va_G) (y : wY) (ad : Nat → Nat) (n : Nat) (M : Mem) (K : Mem → Prop) (h : wp_X8_whole n M K) : MV l D y ad yX8_whole (Cond.code yX8_whole cX8_whole 1 none) (n + 3) M [.ref (ad 79)] K := (xg_X8_factor l D y ad n).2.2.2.2.2 M K h
theorem dX8_law_0 : decode cX8_law 0 = .ok (.iload_n 1, 1) := dk_27 (by decide +kernel)
theorem dX8_law_1 : decode cX8_law 1 = .ok (.iconst 0, 1) := dk_3 (by decide +kernel)
theorem dX8_law_2 : decode cX8_law 2 = .ok (.iconst 1, 1) := dk_4 (by decide +kernel)
theorem dX8_law_3 : decode cX8_law 3 = .ok (.invokestatic 47, 3) := dk_184 (by decide +kernel)
theorem dX8_law_6 : decode cX8_law 6 = .ok (.ifCond .eq 15, 3) := dk_153 (by decide +kernel)
theorem dX8_law_21 : decode cX8_law 21 = .ok (.aload_n 0, 1) := dk_42 (by decide +kernel)
theorem dX8_law_22 : decode cX8_law 22 = .ok (.ldc 60, 2) := dk_18 (by decide +kernel)
theorem dX8_law_24 : decode cX8_law 24 = .ok (.invokevirtual 61, 3) := dk_182 (by decide +kernel)
theorem dX8_law_27 : decode cX8_law 27 = .ok (.ireturn, 1) := dk_172 (by decide +kernel)
theorem dX8_law_9 : decode cX8_law 9 = .ok (.aload_n 0, 1) := dk_42 (by decide +kernel)
theorem dX8_law_10 : decode cX8_law 10 = .ok (.iload_n 1, 1) := dk_27 (by decide +kernel)
theorem dX8_law_11 : decode cX8_law 11 = .ok (.iload_n 2, 1) := dk_28 (by decide +kernel)
theorem dX8_law_12 : decode cX8_law 12 = .ok (.iload_n 3, 1) := dk_29 (by decide +kernel)
theorem dX8_law_13 : decode cX8_law 13 = .ok (.iload 4, 2) := dk_21 (by decide +kernel)
theorem dX8_law_15 : decode cX8_law 15 = .ok (.invokevirtual 154, 3) := dk_182 (by decide +kernel)
theorem dX8_law_18 : decode cX8_law 18 = .ok (.goto 9, 3) := dk_167 (by decide +kernel)
set_option maxRecDepth 100000 in
set_option maxHeartbeats 8000000 in
theorem x_X8_law (l : Launch) (D : va_G) (y : wY) (ad : Nat → Nat) (i1 : Int32) (i2 : Int32) (i3 : Int32) (i4 : Int32) (M : Mem) (K : Int32 → Mem → Prop) (h : wp_X8_law i1 i2 i3 i4 M K) : MI l D y ad yX8_law (Cond.code yX8_law cX8_law 5 (some .int)) 3 M [.ref (ad 79), .int i1, .int i2, .int i3, .int i4] K := by
  refine MI_of (by decide) (Nat.le_of_ble_eq_true rfl) ?_
  intro p e s m args below meth c X hr hlocks
  delta wp_X8_law at h
  refine j_lv (lv1 := [(0, .ref (ad 79)), (1, .int i1), (2, .int i2), (3, .int i3), (4, .int i4)]) [0, 1, 2, 3, 4] rfl ?_
  refine j_iload_n X 1 rfl rfl dX8_law_0 ?_
  refine j_iconst X (v := 0) (by decide) dX8_law_1 ?_
  refine j_iconst X (v := 1) (by decide) dX8_law_2 ?_
  refine j_callSI X (nn := 3) (As := [.int i1, .int 0, .int 1]) (st := []) aw_134 (x_X8_in l D y ad i1 0 1 _ _ h) aw_133 aw_135 aw_5 (by decide +kernel) ⟨Nat.le_of_ble_eq_true rfl, Nat.le_of_ble_eq_true rfl⟩ rfl (Nat.le_of_ble_eq_true rfl) ⟨Nat.le_of_ble_eq_true rfl, Nat.le_of_ble_eq_true rfl⟩ dX8_law_3 ?_
  intro r1 M1 h
  refine j_if_eq X 21 (by decide) dX8_law_6 (fun q_2 => ?_) (fun q_2 => ?_)
  · replace h := h.1 q_2
    refine j_aload_n X 0 rfl rfl dX8_law_21 ?_
    refine j_ldc X (v := (-1000000001)) aw_132 dX8_law_22 ?_
    refine j_callVI X (nn := 1) (As := [.int (-1000000001)]) (st := []) (ci := 8) cl_79.1 (wE_8 _ cl_79.2) rfl aw_144 aw_145 (x_X8_errs l D y ad (-1000000001) _ _ h) aw_143 aw_146 aw_5 (by decide +kernel) ⟨Nat.le_of_ble_eq_true rfl, Nat.le_of_ble_eq_true rfl⟩ rfl (Nat.le_of_ble_eq_true rfl) ⟨Nat.le_of_ble_eq_true rfl, Nat.le_of_ble_eq_true rfl⟩ dX8_law_24 ?_
    intro r3 M3 h
    exact j_iret X hr hlocks dX8_law_27 h
  · replace h := h.2 q_2
    refine j_aload_n X 0 rfl rfl dX8_law_9 ?_
    refine j_iload_n X 1 rfl rfl dX8_law_10 ?_
    refine j_iload_n X 2 rfl rfl dX8_law_11 ?_
    refine j_iload_n X 3 rfl rfl dX8_law_12 ?_
    refine j_iload X 4 rfl dX8_law_13 ?_
    refine j_callVI X (nn := 4) (As := [.int i1, .int i2, .int i3, .int i4]) (st := []) (ci := 8) cl_79.1 (wE_8 _ cl_79.2) rfl aw_239 aw_240 (x_X8_lawOf l D y ad i1 i2 i3 i4 _ _ h) aw_238 aw_241 aw_5 (by decide +kernel) ⟨Nat.le_of_ble_eq_true rfl, Nat.le_of_ble_eq_true rfl⟩ rfl (Nat.le_of_ble_eq_true rfl) ⟨Nat.le_of_ble_eq_true rfl, Nat.le_of_ble_eq_true rfl⟩ dX8_law_15 ?_
    intro r4 M4 h
    refine j_goto X 27 (by decide) dX8_law_18 ?_
    exact j_iret X hr hlocks dX8_law_27 h
theorem dX8_feed_40 : decode cX8_feed 40 = .ok (.iload 4, 2) := dk_21 (by decide +kernel)
theorem dX8_feed_42 : decode cX8_feed 42 = .ok (.iload_n 3, 1) := dk_29 (by decide +kernel)
theorem dX8_feed_43 : decode cX8_feed 43 = .ok (.if_icmp .ge 45, 3) := dk_162 (by decide +kernel)
theorem dX8_feed_88 : decode cX8_feed 88 = .ok (.aload_n 0, 1) := dk_42 (by decide +kernel)
theorem dX8_feed_89 : decode cX8_feed 89 = .ok (.getfield 7, 3) := dk_180 (by decide +kernel)
theorem dX8_feed_92 : decode cX8_feed 92 = .ok (.iconst 3, 1) := dk_6 (by decide +kernel)
theorem dX8_feed_93 : decode cX8_feed 93 = .ok (.iaload, 1) := dk_46 (by decide +kernel)
theorem dX8_feed_94 : decode cX8_feed 94 = .ok (.ireturn, 1) := dk_172 (by decide +kernel)
theorem dX8_feed_46 : decode cX8_feed 46 = .ok (.aload_n 0, 1) := dk_42 (by decide +kernel)
theorem dX8_feed_47 : decode cX8_feed 47 = .ok (.getfield 7, 3) := dk_180 (by decide +kernel)
theorem dX8_feed_50 : decode cX8_feed 50 = .ok (.bipush 74, 2) := dk_16 (by decide +kernel)
theorem dX8_feed_52 : decode cX8_feed 52 = .ok (.aload_n 0, 1) := dk_42 (by decide +kernel)
theorem dX8_feed_53 : decode cX8_feed 53 = .ok (.getfield 7, 3) := dk_180 (by decide +kernel)
theorem dX8_feed_56 : decode cX8_feed 56 = .ok (.iconst 3, 1) := dk_6 (by decide +kernel)
theorem dX8_feed_57 : decode cX8_feed 57 = .ok (.iaload, 1) := dk_46 (by decide +kernel)
theorem dX8_feed_58 : decode cX8_feed 58 = .ok (.iadd, 1) := dk_96 (by decide +kernel)
theorem dX8_feed_59 : decode cX8_feed 59 = .ok (.lload_n 1, 1) := by decide +kernel
theorem dX8_feed_60 : decode cX8_feed 60 = .ok (.bipush 8, 2) := dk_16 (by decide +kernel)
theorem dX8_feed_62 : decode cX8_feed 62 = .ok (.iload 4, 2) := dk_21 (by decide +kernel)
theorem dX8_feed_64 : decode cX8_feed 64 = .ok (.imul, 1) := dk_104 (by decide +kernel)
theorem dX8_feed_65 : decode cX8_feed 65 = .ok (.lshr, 1) := by decide +kernel
theorem dX8_feed_66 : decode cX8_feed 66 = .ok (.ldc2_w 157, 3) := by decide +kernel
theorem dX8_feed_69 : decode cX8_feed 69 = .ok (.land, 1) := dk_127 (by decide +kernel)
theorem dX8_feed_70 : decode cX8_feed 70 = .ok (.l2i, 1) := dk_136 (by decide +kernel)
theorem dX8_feed_71 : decode cX8_feed 71 = .ok (.iastore, 1) := dk_79 (by decide +kernel)
theorem dX8_feed_72 : decode cX8_feed 72 = .ok (.aload_n 0, 1) := dk_42 (by decide +kernel)
theorem dX8_feed_73 : decode cX8_feed 73 = .ok (.getfield 7, 3) := dk_180 (by decide +kernel)
theorem dX8_feed_76 : decode cX8_feed 76 = .ok (.iconst 3, 1) := dk_6 (by decide +kernel)
theorem dX8_feed_77 : decode cX8_feed 77 = .ok (.dup2, 1) := dk_92 (by decide +kernel)
theorem dX8_feed_78 : decode cX8_feed 78 = .ok (.iaload, 1) := dk_46 (by decide +kernel)
theorem dX8_feed_79 : decode cX8_feed 79 = .ok (.iconst 1, 1) := dk_4 (by decide +kernel)
theorem dX8_feed_80 : decode cX8_feed 80 = .ok (.iadd, 1) := dk_96 (by decide +kernel)
theorem dX8_feed_81 : decode cX8_feed 81 = .ok (.iastore, 1) := dk_79 (by decide +kernel)
theorem dX8_feed_82 : decode cX8_feed 82 = .ok (.iinc 4 1, 3) := dk_132 (by decide +kernel)
theorem dX8_feed_85 : decode cX8_feed 85 = .ok (.goto (-45), 3) := dk_167 (by decide +kernel)
theorem dX8_feed_0 : decode cX8_feed 0 = .ok (.iload_n 3, 1) := dk_29 (by decide +kernel)
theorem dX8_feed_1 : decode cX8_feed 1 = .ok (.iconst 1, 1) := dk_4 (by decide +kernel)
theorem dX8_feed_2 : decode cX8_feed 2 = .ok (.bipush 8, 2) := dk_16 (by decide +kernel)
theorem dX8_feed_4 : decode cX8_feed 4 = .ok (.invokestatic 47, 3) := dk_184 (by decide +kernel)
theorem dX8_feed_7 : decode cX8_feed 7 = .ok (.ifCond .ne 10, 3) := dk_154 (by decide +kernel)
theorem dX8_feed_17 : decode cX8_feed 17 = .ok (.aload_n 0, 1) := dk_42 (by decide +kernel)
theorem dX8_feed_18 : decode cX8_feed 18 = .ok (.getfield 7, 3) := dk_180 (by decide +kernel)
theorem dX8_feed_21 : decode cX8_feed 21 = .ok (.iconst 3, 1) := dk_6 (by decide +kernel)
theorem dX8_feed_22 : decode cX8_feed 22 = .ok (.iaload, 1) := dk_46 (by decide +kernel)
theorem dX8_feed_23 : decode cX8_feed 23 = .ok (.iload_n 3, 1) := dk_29 (by decide +kernel)
theorem dX8_feed_24 : decode cX8_feed 24 = .ok (.iadd, 1) := dk_96 (by decide +kernel)
theorem dX8_feed_25 : decode cX8_feed 25 = .ok (.bipush 50, 2) := dk_16 (by decide +kernel)
theorem dX8_feed_27 : decode cX8_feed 27 = .ok (.if_icmp .le 10, 3) := dk_164 (by decide +kernel)
theorem dX8_feed_37 : decode cX8_feed 37 = .ok (.iconst 0, 1) := dk_3 (by decide +kernel)
theorem dX8_feed_38 : decode cX8_feed 38 = .ok (.istore 4, 2) := dk_54 (by decide +kernel)
theorem dX8_feed_30 : decode cX8_feed 30 = .ok (.aload_n 0, 1) := dk_42 (by decide +kernel)
theorem dX8_feed_31 : decode cX8_feed 31 = .ok (.ldc 68, 2) := dk_18 (by decide +kernel)
theorem dX8_feed_33 : decode cX8_feed 33 = .ok (.invokevirtual 61, 3) := dk_182 (by decide +kernel)
theorem dX8_feed_36 : decode cX8_feed 36 = .ok (.ireturn, 1) := dk_172 (by decide +kernel)
theorem dX8_feed_10 : decode cX8_feed 10 = .ok (.aload_n 0, 1) := dk_42 (by decide +kernel)
theorem dX8_feed_11 : decode cX8_feed 11 = .ok (.ldc 60, 2) := dk_18 (by decide +kernel)
theorem dX8_feed_13 : decode cX8_feed 13 = .ok (.invokevirtual 61, 3) := dk_182 (by decide +kernel)
theorem dX8_feed_16 : decode cX8_feed 16 = .ok (.ireturn, 1) := dk_172 (by decide +kernel)
set_option maxRecDepth 100000 in
set_option maxHeartbeats 8000000 in
theorem x_X8_feed (l : Launch) (D : va_G) (y : wY) (ad : Nat → Nat) (w1 : Int64) (i3 : Int32) (M : Mem) (K : Int32 → Mem → Prop) (h : wp_X8_feed w1 i3 M K) : MI l D y ad yX8_feed (Cond.code yX8_feed cX8_feed 5 (some .int)) 1 M [.ref (ad 79), .long w1, .int i3] K := by
  refine MI_of (by decide) (Nat.le_of_ble_eq_true rfl) ?_
  intro p e s m args below meth c X hr hlocks
  have hL40 : ∀ (w1 : Int64) (i3 : Int32) (n : Nat) (i4 : Int32) (Mb : Mem), wp_X8_feed_L40 K w1 i3 n i4 Mb → J p l e (rmN 1) s m args below meth c 0 0 (QI K D y ad M s args below) D y ad (va_A (PL y ad M) s.heap.size) 5 Mb 40 [(0, .ref (ad 79)), (1, .long w1), (3, .int i3), (4, .int i4)] [] := by
    intro w1 i3 n
    induction n with
    | zero => intro i4 Mb h; exact False.elim h
    | succ n hB40 =>
      intro i4 Mb h
      replace h : wp_X8_feed_l40 K w1 i3 (wp_X8_feed_L40 K w1 i3 n) i4 Mb := h
      delta wp_X8_feed_l40 at h
      refine j_iload X 3 rfl dX8_feed_40 ?_
      refine j_iload_n X 2 rfl rfl dX8_feed_42 ?_
      refine j_icmp_ge X 88 (by decide) dX8_feed_43 (fun q_4001 => ?_) (fun q_4001 => ?_)
      · replace h := h.1 q_4001
        refine j_aload_n X 0 rfl rfl dX8_feed_88 ?_
        refine j_get X cl_79.1 (wE_8 _ cl_79.2) rfl awF8 0 (by decide) aw_92 rfl (v := .ref (ad 80)) rfl dX8_feed_89 ?_
        refine j_iconst X (v := 3) (by decide) dX8_feed_92 ?_
        refine j_iald X cl_80.1 cl_80.2 (by unfold vp_in; decide) dX8_feed_93 ?_
        refine j_eqi (v := Mb 80 3) rfl ?_
        exact j_iret X hr hlocks dX8_feed_94 h
      · replace h := h.2 q_4001
        refine j_aload_n X 0 rfl rfl dX8_feed_46 ?_
        refine j_get X cl_79.1 (wE_8 _ cl_79.2) rfl awF8 0 (by decide) aw_92 rfl (v := .ref (ad 80)) rfl dX8_feed_47 ?_
        refine j_bipush X (v := 74) (by decide) dX8_feed_50 ?_
        refine j_aload_n X 0 rfl rfl dX8_feed_52 ?_
        refine j_get X cl_79.1 (wE_8 _ cl_79.2) rfl awF8 0 (by decide) aw_92 rfl (v := .ref (ad 80)) rfl dX8_feed_53 ?_
        refine j_iconst X (v := 3) (by decide) dX8_feed_56 ?_
        refine j_iald X cl_80.1 cl_80.2 (by unfold vp_in; decide) dX8_feed_57 ?_
        refine j_eqi (v := Mb 80 3) rfl ?_
        refine j_iadd X dX8_feed_58 ?_
        refine j_lload_n X 1 rfl rfl dX8_feed_59 ?_
        refine j_bipush X (v := 8) (by decide) dX8_feed_60 ?_
        refine j_iload X 3 rfl dX8_feed_62 ?_
        refine j_imul X dX8_feed_64 ?_
        refine j_lshr X dX8_feed_65 ?_
        refine j_ldc2 X (v := 255) aw_309 dX8_feed_66 ?_
        refine j_land X dX8_feed_69 ?_
        refine j_l2i X dX8_feed_70 ?_
        obtain ⟨hi_4002, h⟩ := h
        refine j_iast X cl_80.1 cl_80.2 hi_4002 dX8_feed_71 ?_
        refine j_aload_n X 0 rfl rfl dX8_feed_72 ?_
        refine j_get X cl_79.1 (wE_8 _ cl_79.2) rfl awF8 0 (by decide) aw_92 rfl (v := .ref (ad 80)) rfl dX8_feed_73 ?_
        refine j_iconst X (v := 3) (by decide) dX8_feed_76 ?_
        refine j_dup2 X rfl rfl dX8_feed_77 ?_
        refine j_iald X cl_80.1 cl_80.2 (by unfold vp_in; decide) dX8_feed_78 ?_
        refine j_eqi (v := (up Mb 80 (74 + (Mb 80 3)).toNatClampNeg (((w1 >>> ((8 * i4).toInt64 &&& 63)) &&& 255).toInt32)) 80 3) rfl ?_
        refine j_iconst X (v := 1) (by decide) dX8_feed_79 ?_
        refine j_iadd X dX8_feed_80 ?_
        refine j_iast X cl_80.1 cl_80.2 (by unfold vp_in; decide) dX8_feed_81 ?_
        refine j_eqM (M1 := (up (up Mb 80 (74 + (Mb 80 3)).toNatClampNeg (((w1 >>> ((8 * i4).toInt64 &&& 63)) &&& 255).toInt32)) 80 3 (((up Mb 80 (74 + (Mb 80 3)).toNatClampNeg (((w1 >>> ((8 * i4).toInt64 &&& 63)) &&& 255).toInt32)) 80 3) + 1))) rfl ?_
        refine j_topM (fun Mg_4003 eMg_4003 => ?_)
        replace h := h Mg_4003 eMg_4003
        refine j_iinc X (v := (i4 + 1)) 3 [(4, .int (i4 + 1)), (0, .ref (ad 79)), (1, .long w1), (3, .int i3)] rfl rfl (by decide) rfl dX8_feed_82 ?_
        refine j_goto X 40 (by decide) dX8_feed_85 ?_
        refine j_lv (lv1 := [(0, .ref (ad 79)), (1, .long w1), (3, .int i3), (4, .int (i4 + 1))]) [1, 2, 3, 0] rfl ?_
        exact hB40 _ _ h
  delta wp_X8_feed at h
  refine j_lv (lv1 := [(0, .ref (ad 79)), (1, .long w1), (3, .int i3)]) [0, 1, 2] rfl ?_
  refine j_iload_n X 2 rfl rfl dX8_feed_0 ?_
  refine j_iconst X (v := 1) (by decide) dX8_feed_1 ?_
  refine j_bipush X (v := 8) (by decide) dX8_feed_2 ?_
  refine j_callSI X (nn := 3) (As := [.int i3, .int 1, .int 8]) (st := []) aw_134 (x_X8_in l D y ad i3 1 8 _ _ h) aw_133 aw_135 aw_5 (by decide +kernel) ⟨Nat.le_of_ble_eq_true rfl, Nat.le_of_ble_eq_true rfl⟩ rfl (Nat.le_of_ble_eq_true rfl) ⟨Nat.le_of_ble_eq_true rfl, Nat.le_of_ble_eq_true rfl⟩ dX8_feed_4 ?_
  intro r1 M1 h
  refine j_if_ne X 17 (by decide) dX8_feed_7 (fun q_2 => ?_) (fun q_2 => ?_)
  · replace h := h.1 q_2
    refine j_aload_n X 0 rfl rfl dX8_feed_17 ?_
    refine j_get X cl_79.1 (wE_8 _ cl_79.2) rfl awF8 0 (by decide) aw_92 rfl (v := .ref (ad 80)) rfl dX8_feed_18 ?_
    refine j_iconst X (v := 3) (by decide) dX8_feed_21 ?_
    refine j_iald X cl_80.1 cl_80.2 (by unfold vp_in; decide) dX8_feed_22 ?_
    refine j_eqi (v := M1 80 3) rfl ?_
    refine j_iload_n X 2 rfl rfl dX8_feed_23 ?_
    refine j_iadd X dX8_feed_24 ?_
    refine j_bipush X (v := 50) (by decide) dX8_feed_25 ?_
    refine j_icmp_le X 37 (by decide) dX8_feed_27 (fun q_3 => ?_) (fun q_3 => ?_)
    · replace h := h.1 q_3
      refine j_iconst X (v := 0) (by decide) dX8_feed_37 ?_
      refine j_istore X [(4, .int 0), (0, .ref (ad 79)), (1, .long w1), (3, .int i3)] (by decide) rfl dX8_feed_38 ?_
      refine j_lv (lv1 := [(0, .ref (ad 79)), (1, .long w1), (3, .int i3), (4, .int 0)]) [1, 2, 3, 0] rfl ?_
      obtain ⟨n40, h⟩ := h
      exact hL40 _ _   n40 _ _ h
    · replace h := h.2 q_3
      refine j_aload_n X 0 rfl rfl dX8_feed_30 ?_
      refine j_ldc X (v := (-1000000004)) aw_181 dX8_feed_31 ?_
      refine j_callVI X (nn := 1) (As := [.int (-1000000004)]) (st := []) (ci := 8) cl_79.1 (wE_8 _ cl_79.2) rfl aw_144 aw_145 (x_X8_errs l D y ad (-1000000004) _ _ h) aw_143 aw_146 aw_5 (by decide +kernel) ⟨Nat.le_of_ble_eq_true rfl, Nat.le_of_ble_eq_true rfl⟩ rfl (Nat.le_of_ble_eq_true rfl) ⟨Nat.le_of_ble_eq_true rfl, Nat.le_of_ble_eq_true rfl⟩ dX8_feed_33 ?_
      intro r4 M4 h
      exact j_iret X hr hlocks dX8_feed_36 h
  · replace h := h.2 q_2
    refine j_aload_n X 0 rfl rfl dX8_feed_10 ?_
    refine j_ldc X (v := (-1000000001)) aw_132 dX8_feed_11 ?_
    refine j_callVI X (nn := 1) (As := [.int (-1000000001)]) (st := []) (ci := 8) cl_79.1 (wE_8 _ cl_79.2) rfl aw_144 aw_145 (x_X8_errs l D y ad (-1000000001) _ _ h) aw_143 aw_146 aw_5 (by decide +kernel) ⟨Nat.le_of_ble_eq_true rfl, Nat.le_of_ble_eq_true rfl⟩ rfl (Nat.le_of_ble_eq_true rfl) ⟨Nat.le_of_ble_eq_true rfl, Nat.le_of_ble_eq_true rfl⟩ dX8_feed_13 ?_
    intro r5 M5 h
    exact j_iret X hr hlocks dX8_feed_16 h
