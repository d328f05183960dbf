theorem nmX6 : ∀ a, a < 17 → ∀ b, b < 17 → a ≠ b → (TX6 a).2.1 ≠ (TX6 b).2.1 := by decide +kernel
theorem tyX6_ok : ∀ k, k < 17 → parseFieldDescriptor (TX6 k).2.2.1 = some (tyX6 k) := by decide +kernel
theorem dX6_init_0 : decode cX6_init 0 = .ok (.aload_n 0, 1) := by decide +kernel
theorem dX6_init_1 : decode cX6_init 1 = .ok (.invokespecial 3, 3) := by decide +kernel
theorem dX6_init_4 : decode cX6_init 4 = .ok (.aload_n 0, 1) := by decide +kernel
theorem dX6_init_5 : decode cX6_init 5 = .ok (.bipush 126, 2) := by decide +kernel
theorem dX6_init_7 : decode cX6_init 7 = .ok (.newarray .int, 2) := by decide +kernel
theorem dX6_init_9 : decode cX6_init 9 = .ok (.putfield 9, 3) := by decide +kernel
theorem dX6_init_12 : decode cX6_init 12 = .ok (.aload_n 0, 1) := by decide +kernel
theorem dX6_init_13 : decode cX6_init 13 = .ok (.sipush 240, 3) := by decide +kernel
theorem dX6_init_16 : decode cX6_init 16 = .ok (.newarray .int, 2) := by decide +kernel
theorem dX6_init_18 : decode cX6_init 18 = .ok (.putfield 13, 3) := by decide +kernel
theorem dX6_init_21 : decode cX6_init 21 = .ok (.aload_n 0, 1) := by decide +kernel
theorem dX6_init_22 : decode cX6_init 22 = .ok (.bipush 60, 2) := by decide +kernel
theorem dX6_init_24 : decode cX6_init 24 = .ok (.newarray .int, 2) := by decide +kernel
theorem dX6_init_26 : decode cX6_init 26 = .ok (.putfield 16, 3) := by decide +kernel
theorem dX6_init_29 : decode cX6_init 29 = .ok (.aload_n 0, 1) := by decide +kernel
theorem dX6_init_30 : decode cX6_init 30 = .ok (.sipush 4500, 3) := by decide +kernel
theorem dX6_init_33 : decode cX6_init 33 = .ok (.newarray .int, 2) := by decide +kernel
theorem dX6_init_35 : decode cX6_init 35 = .ok (.putfield 19, 3) := by decide +kernel
theorem dX6_init_38 : decode cX6_init 38 = .ok (.aload_n 0, 1) := by decide +kernel
theorem dX6_init_39 : decode cX6_init 39 = .ok (.bipush 40, 2) := by decide +kernel
theorem dX6_init_41 : decode cX6_init 41 = .ok (.newarray .int, 2) := by decide +kernel
theorem dX6_init_43 : decode cX6_init 43 = .ok (.putfield 22, 3) := by decide +kernel
theorem dX6_init_46 : decode cX6_init 46 = .ok (.aload_n 0, 1) := by decide +kernel
theorem dX6_init_47 : decode cX6_init 47 = .ok (.bipush 14, 2) := by decide +kernel
theorem dX6_init_49 : decode cX6_init 49 = .ok (.newarray .int, 2) := by decide +kernel
theorem dX6_init_51 : decode cX6_init 51 = .ok (.putfield 25, 3) := by decide +kernel
theorem dX6_init_54 : decode cX6_init 54 = .ok (.aload_n 0, 1) := by decide +kernel
theorem dX6_init_55 : decode cX6_init 55 = .ok (.bipush 40, 2) := by decide +kernel
theorem dX6_init_57 : decode cX6_init 57 = .ok (.newarray .int, 2) := by decide +kernel
theorem dX6_init_59 : decode cX6_init 59 = .ok (.putfield 28, 3) := by decide +kernel
theorem dX6_init_62 : decode cX6_init 62 = .ok (.return_, 1) := by decide +kernel
theorem dX6_thrown_0 : decode cX6_thrown 0 = .ok (.aload_n 0, 1) := by decide +kernel
theorem dX6_thrown_1 : decode cX6_thrown 1 = .ok (.getfield 31, 3) := by decide +kernel
theorem dX6_thrown_4 : decode cX6_thrown 4 = .ok (.ireturn, 1) := by decide +kernel
theorem dX6_fail_0 : decode cX6_fail 0 = .ok (.aload_n 0, 1) := by decide +kernel
theorem dX6_fail_1 : decode cX6_fail 1 = .ok (.iload_n 1, 1) := by decide +kernel
theorem dX6_fail_2 : decode cX6_fail 2 = .ok (.putfield 31, 3) := by decide +kernel
theorem dX6_fail_5 : decode cX6_fail 5 = .ok (.iconst 0, 1) := by decide +kernel
theorem dX6_fail_6 : decode cX6_fail 6 = .ok (.ireturn, 1) := by decide +kernel
theorem dX6_isIn_0 : decode cX6_isIn 0 = .ok (.iload_n 0, 1) := by decide +kernel
theorem dX6_isIn_1 : decode cX6_isIn 1 = .ok (.iload_n 1, 1) := by decide +kernel
theorem dX6_isIn_2 : decode cX6_isIn 2 = .ok (.if_icmp .lt 12, 3) := by decide +kernel
theorem dX6_isIn_5 : decode cX6_isIn 5 = .ok (.iload_n 0, 1) := by decide +kernel
theorem dX6_isIn_6 : decode cX6_isIn 6 = .ok (.iload_n 2, 1) := by decide +kernel
theorem dX6_isIn_7 : decode cX6_isIn 7 = .ok (.if_icmp .gt 7, 3) := by decide +kernel
theorem dX6_isIn_10 : decode cX6_isIn 10 = .ok (.iconst 1, 1) := by decide +kernel
theorem dX6_isIn_11 : decode cX6_isIn 11 = .ok (.goto 4, 3) := by decide +kernel
theorem dX6_isIn_14 : decode cX6_isIn 14 = .ok (.iconst 0, 1) := by decide +kernel
theorem dX6_isIn_15 : decode cX6_isIn 15 = .ok (.ireturn, 1) := by decide +kernel
set_option maxRecDepth 20000 in
theorem ggX6_isStation_X6_isIn : GoodIn wsX6_isStation wsX6_isIn := goodIn_r _ [5] (by decide +kernel) (by decide +kernel)
set_option maxRecDepth 20000 in
theorem gX6_isStation_X6_isIn : GoodIn wsX6_isStation (va_wsS RX6 38 yX6_isIn wsX6_isIn) := goodIn_app (goodIn_of _ (by decide +kernel)) ggX6_isStation_X6_isIn
theorem dX6_isStation_0 : decode cX6_isStation 0 = .ok (.iload_n 1, 1) := by decide +kernel
theorem dX6_isStation_1 : decode cX6_isStation 1 = .ok (.iconst 0, 1) := by decide +kernel
theorem dX6_isStation_2 : decode cX6_isStation 2 = .ok (.aload_n 0, 1) := by decide +kernel
theorem dX6_isStation_3 : decode cX6_isStation 3 = .ok (.getfield 35, 3) := by decide +kernel
theorem dX6_isStation_6 : decode cX6_isStation 6 = .ok (.iconst 1, 1) := by decide +kernel
theorem dX6_isStation_7 : decode cX6_isStation 7 = .ok (.isub, 1) := by decide +kernel
theorem dX6_isStation_8 : decode cX6_isStation 8 = .ok (.invokestatic 38, 3) := by decide +kernel
theorem dX6_isStation_11 : decode cX6_isStation 11 = .ok (.ireturn, 1) := by decide +kernel
set_option maxRecDepth 20000 in
theorem ggX6_isTube_X6_isIn : GoodIn wsX6_isTube wsX6_isIn := goodIn_r _ [5] (by decide +kernel) (by decide +kernel)
set_option maxRecDepth 20000 in
theorem gX6_isTube_X6_isIn : GoodIn wsX6_isTube (va_wsS RX6 38 yX6_isIn wsX6_isIn) := goodIn_app (goodIn_of _ (by decide +kernel)) ggX6_isTube_X6_isIn
theorem dX6_isTube_0 : decode cX6_isTube 0 = .ok (.iload_n 1, 1) := by decide +kernel
theorem dX6_isTube_1 : decode cX6_isTube 1 = .ok (.iconst 0, 1) := by decide +kernel
theorem dX6_isTube_2 : decode cX6_isTube 2 = .ok (.aload_n 0, 1) := by decide +kernel
theorem dX6_isTube_3 : decode cX6_isTube 3 = .ok (.getfield 42, 3) := by decide +kernel
theorem dX6_isTube_6 : decode cX6_isTube 6 = .ok (.iconst 1, 1) := by decide +kernel
theorem dX6_isTube_7 : decode cX6_isTube 7 = .ok (.isub, 1) := by decide +kernel
theorem dX6_isTube_8 : decode cX6_isTube 8 = .ok (.invokestatic 38, 3) := by decide +kernel
theorem dX6_isTube_11 : decode cX6_isTube 11 = .ok (.ireturn, 1) := by decide +kernel
theorem dX6_st_0 : decode cX6_st 0 = .ok (.aload_n 0, 1) := by decide +kernel
theorem dX6_st_1 : decode cX6_st 1 = .ok (.getfield 9, 3) := by decide +kernel
theorem dX6_st_4 : decode cX6_st 4 = .ok (.bipush 9, 2) := by decide +kernel
theorem dX6_st_6 : decode cX6_st 6 = .ok (.iload_n 1, 1) := by decide +kernel
theorem dX6_st_7 : decode cX6_st 7 = .ok (.imul, 1) := by decide +kernel
theorem dX6_st_8 : decode cX6_st 8 = .ok (.iload_n 2, 1) := by decide +kernel
theorem dX6_st_9 : decode cX6_st 9 = .ok (.iadd, 1) := by decide +kernel
theorem dX6_st_10 : decode cX6_st 10 = .ok (.iaload, 1) := by decide +kernel
theorem dX6_st_11 : decode cX6_st 11 = .ok (.ireturn, 1) := by decide +kernel
theorem dX6_tu_0 : decode cX6_tu 0 = .ok (.aload_n 0, 1) := by decide +kernel
theorem dX6_tu_1 : decode cX6_tu 1 = .ok (.getfield 13, 3) := by decide +kernel
theorem dX6_tu_4 : decode cX6_tu 4 = .ok (.bipush 8, 2) := by decide +kernel
theorem dX6_tu_6 : decode cX6_tu 6 = .ok (.iload_n 1, 1) := by decide +kernel
theorem dX6_tu_7 : decode cX6_tu 7 = .ok (.imul, 1) := by decide +kernel
theorem dX6_tu_8 : decode cX6_tu 8 = .ok (.iload_n 2, 1) := by decide +kernel
theorem dX6_tu_9 : decode cX6_tu 9 = .ok (.iadd, 1) := by decide +kernel
theorem dX6_tu_10 : decode cX6_tu 10 = .ok (.iaload, 1) := by decide +kernel
theorem dX6_tu_11 : decode cX6_tu 11 = .ok (.ireturn, 1) := by decide +kernel
theorem dX6_get_0 : decode cX6_get 0 = .ok (.aload_n 0, 1) := by decide +kernel
theorem dX6_get_1 : decode cX6_get 1 = .ok (.getfield 19, 3) := by decide +kernel
theorem dX6_get_4 : decode cX6_get 4 = .ok (.bipush 9, 2) := by decide +kernel
theorem dX6_get_6 : decode cX6_get 6 = .ok (.iload_n 1, 1) := by decide +kernel
theorem dX6_get_7 : decode cX6_get 7 = .ok (.imul, 1) := by decide +kernel
theorem dX6_get_8 : decode cX6_get 8 = .ok (.iload_n 2, 1) := by decide +kernel
theorem dX6_get_9 : decode cX6_get 9 = .ok (.iadd, 1) := by decide +kernel
theorem dX6_get_10 : decode cX6_get 10 = .ok (.iaload, 1) := by decide +kernel
theorem dX6_get_11 : decode cX6_get 11 = .ok (.ireturn, 1) := by decide +kernel
theorem dX6_set_0 : decode cX6_set 0 = .ok (.aload_n 0, 1) := by decide +kernel
theorem dX6_set_1 : decode cX6_set 1 = .ok (.getfield 19, 3) := by decide +kernel
theorem dX6_set_4 : decode cX6_set 4 = .ok (.bipush 9, 2) := by decide +kernel
theorem dX6_set_6 : decode cX6_set 6 = .ok (.iload_n 1, 1) := by decide +kernel
theorem dX6_set_7 : decode cX6_set 7 = .ok (.imul, 1) := by decide +kernel
theorem dX6_set_8 : decode cX6_set 8 = .ok (.iload_n 2, 1) := by decide +kernel
theorem dX6_set_9 : decode cX6_set 9 = .ok (.iadd, 1) := by decide +kernel
theorem dX6_set_10 : decode cX6_set 10 = .ok (.iload_n 3, 1) := by decide +kernel
theorem dX6_set_11 : decode cX6_set 11 = .ok (.iastore, 1) := by decide +kernel
theorem dX6_set_12 : decode cX6_set 12 = .ok (.return_, 1) := by decide +kernel
set_option maxRecDepth 20000 in
theorem ggX6_addStation_X6_isIn : GoodIn wsX6_addStation wsX6_isIn := goodIn_r _ [12] (by decide +kernel) (by decide +kernel)
set_option maxRecDepth 20000 in
theorem gX6_addStation_X6_isIn : GoodIn wsX6_addStation (va_wsS RX6 38 yX6_isIn wsX6_isIn) := goodIn_app (goodIn_of _ (by decide +kernel)) ggX6_addStation_X6_isIn
set_option maxRecDepth 20000 in
theorem ggX6_addStation_X6_fail : GoodIn wsX6_addStation wsX6_fail := goodIn_r _ [16, 1, 17, 18, 19, 20, 21, 22, 23, 24, 25, 26, 27, 28, 29, 30, 31, 32, 33] (by decide +kernel) (by decide +kernel)
set_option maxRecDepth 20000 in
theorem gX6_addStation_X6_fail : GoodIn wsX6_addStation (wsV RX6 45 RX6 yX6_fail wsX6_fail) := goodIn_app (goodIn_of _ (by decide +kernel)) ggX6_addStation_X6_fail
theorem dX6_addStation_0 : decode cX6_addStation 0 = .ok (.aload_n 0, 1) := by decide +kernel
theorem dX6_addStation_1 : decode cX6_addStation 1 = .ok (.iconst 0, 1) := by decide +kernel
theorem dX6_addStation_2 : decode cX6_addStation 2 = .ok (.putfield 31, 3) := by decide +kernel
theorem dX6_addStation_5 : decode cX6_addStation 5 = .ok (.iload_n 1, 1) := by decide +kernel
theorem dX6_addStation_6 : decode cX6_addStation 6 = .ok (.iconst 1, 1) := by decide +kernel
theorem dX6_addStation_7 : decode cX6_addStation 7 = .ok (.bipush 9, 2) := by decide +kernel
theorem dX6_addStation_9 : decode cX6_addStation 9 = .ok (.invokestatic 38, 3) := by decide +kernel
theorem dX6_addStation_12 : decode cX6_addStation 12 = .ok (.ifCond .eq 13, 3) := by decide +kernel
theorem dX6_addStation_15 : decode cX6_addStation 15 = .ok (.iload_n 2, 1) := by decide +kernel
theorem dX6_addStation_16 : decode cX6_addStation 16 = .ok (.iconst 0, 1) := by decide +kernel
theorem dX6_addStation_17 : decode cX6_addStation 17 = .ok (.bipush 20, 2) := by decide +kernel
theorem dX6_addStation_19 : decode cX6_addStation 19 = .ok (.invokestatic 38, 3) := by decide +kernel
theorem dX6_addStation_22 : decode cX6_addStation 22 = .ok (.ifCond .ne 9, 3) := by decide +kernel
theorem dX6_addStation_25 : decode cX6_addStation 25 = .ok (.aload_n 0, 1) := by decide +kernel
theorem dX6_addStation_26 : decode cX6_addStation 26 = .ok (.iconst 1, 1) := by decide +kernel
theorem dX6_addStation_27 : decode cX6_addStation 27 = .ok (.invokevirtual 45, 3) := by decide +kernel
theorem dX6_addStation_30 : decode cX6_addStation 30 = .ok (.ireturn, 1) := by decide +kernel
theorem dX6_addStation_31 : decode cX6_addStation 31 = .ok (.aload_n 0, 1) := by decide +kernel
theorem dX6_addStation_32 : decode cX6_addStation 32 = .ok (.getfield 35, 3) := by decide +kernel
theorem dX6_addStation_35 : decode cX6_addStation 35 = .ok (.bipush 14, 2) := by decide +kernel
theorem dX6_addStation_37 : decode cX6_addStation 37 = .ok (.if_icmp .ne 9, 3) := by decide +kernel
theorem dX6_addStation_40 : decode cX6_addStation 40 = .ok (.aload_n 0, 1) := by decide +kernel
theorem dX6_addStation_41 : decode cX6_addStation 41 = .ok (.iconst 2, 1) := by decide +kernel
theorem dX6_addStation_42 : decode cX6_addStation 42 = .ok (.invokevirtual 45, 3) := by decide +kernel
theorem dX6_addStation_45 : decode cX6_addStation 45 = .ok (.ireturn, 1) := by decide +kernel
theorem dX6_addStation_46 : decode cX6_addStation 46 = .ok (.iconst 5, 1) := by decide +kernel
theorem dX6_addStation_47 : decode cX6_addStation 47 = .ok (.newarray .int, 2) := by decide +kernel
theorem dX6_addStation_49 : decode cX6_addStation 49 = .ok (.dup, 1) := by decide +kernel
theorem dX6_addStation_50 : decode cX6_addStation 50 = .ok (.iconst 0, 1) := by decide +kernel
theorem dX6_addStation_51 : decode cX6_addStation 51 = .ok (.iload_n 1, 1) := by decide +kernel
theorem dX6_addStation_52 : decode cX6_addStation 52 = .ok (.iastore, 1) := by decide +kernel
theorem dX6_addStation_53 : decode cX6_addStation 53 = .ok (.dup, 1) := by decide +kernel
theorem dX6_addStation_54 : decode cX6_addStation 54 = .ok (.iconst 1, 1) := by decide +kernel
theorem dX6_addStation_55 : decode cX6_addStation 55 = .ok (.iload_n 2, 1) := by decide +kernel
theorem dX6_addStation_56 : decode cX6_addStation 56 = .ok (.iastore, 1) := by decide +kernel
theorem dX6_addStation_57 : decode cX6_addStation 57 = .ok (.dup, 1) := by decide +kernel
theorem dX6_addStation_58 : decode cX6_addStation 58 = .ok (.iconst 2, 1) := by decide +kernel
theorem dX6_addStation_59 : decode cX6_addStation 59 = .ok (.iconst 0, 1) := by decide +kernel
theorem dX6_addStation_60 : decode cX6_addStation 60 = .ok (.iastore, 1) := by decide +kernel
theorem dX6_addStation_61 : decode cX6_addStation 61 = .ok (.dup, 1) := by decide +kernel
theorem dX6_addStation_62 : decode cX6_addStation 62 = .ok (.iconst 3, 1) := by decide +kernel
theorem dX6_addStation_63 : decode cX6_addStation 63 = .ok (.iconst (-1), 1) := by decide +kernel
theorem dX6_addStation_64 : decode cX6_addStation 64 = .ok (.iastore, 1) := by decide +kernel
theorem dX6_addStation_65 : decode cX6_addStation 65 = .ok (.dup, 1) := by decide +kernel
theorem dX6_addStation_66 : decode cX6_addStation 66 = .ok (.iconst 4, 1) := by decide +kernel
theorem dX6_addStation_67 : decode cX6_addStation 67 = .ok (.iconst 0, 1) := by decide +kernel
theorem dX6_addStation_68 : decode cX6_addStation 68 = .ok (.iastore, 1) := by decide +kernel
theorem dX6_addStation_69 : decode cX6_addStation 69 = .ok (.astore_n 3, 1) := by decide +kernel
theorem dX6_addStation_70 : decode cX6_addStation 70 = .ok (.aload_n 3, 1) := by decide +kernel
theorem dX6_addStation_71 : decode cX6_addStation 71 = .ok (.iconst 0, 1) := by decide +kernel
theorem dX6_addStation_72 : decode cX6_addStation 72 = .ok (.aload_n 0, 1) := by decide +kernel
theorem dX6_addStation_73 : decode cX6_addStation 73 = .ok (.getfield 9, 3) := by decide +kernel
theorem dX6_addStation_76 : decode cX6_addStation 76 = .ok (.bipush 9, 2) := by decide +kernel
theorem dX6_addStation_78 : decode cX6_addStation 78 = .ok (.aload_n 0, 1) := by decide +kernel
theorem dX6_addStation_79 : decode cX6_addStation 79 = .ok (.getfield 35, 3) := by decide +kernel
theorem dX6_addStation_82 : decode cX6_addStation 82 = .ok (.imul, 1) := by decide +kernel
theorem dX6_addStation_83 : decode cX6_addStation 83 = .ok (.aload_n 3, 1) := by decide +kernel
theorem dX6_addStation_84 : decode cX6_addStation 84 = .ok (.arraylength, 1) := by decide +kernel
theorem dX6_addStation_85 : decode cX6_addStation 85 = .ok (.invokestatic 49, 3) := by decide +kernel
theorem dX6_addStation_88 : decode cX6_addStation 88 = .ok (.aload_n 0, 1) := by decide +kernel
theorem dX6_addStation_89 : decode cX6_addStation 89 = .ok (.dup, 1) := by decide +kernel
theorem dX6_addStation_90 : decode cX6_addStation 90 = .ok (.getfield 35, 3) := by decide +kernel
theorem dX6_addStation_93 : decode cX6_addStation 93 = .ok (.iconst 1, 1) := by decide +kernel
theorem dX6_addStation_94 : decode cX6_addStation 94 = .ok (.iadd, 1) := by decide +kernel
theorem dX6_addStation_95 : decode cX6_addStation 95 = .ok (.putfield 35, 3) := by decide +kernel
theorem dX6_addStation_98 : decode cX6_addStation 98 = .ok (.aload_n 0, 1) := by decide +kernel
theorem dX6_addStation_99 : decode cX6_addStation 99 = .ok (.getfield 35, 3) := by decide +kernel
theorem dX6_addStation_102 : decode cX6_addStation 102 = .ok (.iconst 1, 1) := by decide +kernel
theorem dX6_addStation_103 : decode cX6_addStation 103 = .ok (.isub, 1) := by decide +kernel
theorem dX6_addStation_104 : decode cX6_addStation 104 = .ok (.ireturn, 1) := by decide +kernel
set_option maxRecDepth 20000 in
theorem ggX6_addTube_X6_isStation : GoodIn wsX6_addTube wsX6_isStation := goodIn_r _ [14, 15, 16, 17, 13, 18, 27, 28, 29, 30, 31, 32, 33, 34, 35, 36, 37, 38, 39, 40, 41, 42, 43] (by decide +kernel) (by decide +kernel)
set_option maxRecDepth 20000 in
theorem gX6_addTube_X6_isStation : GoodIn wsX6_addTube (wsV RX6 55 RX6 yX6_isStation wsX6_isStation) := goodIn_app (goodIn_of _ (by decide +kernel)) ggX6_addTube_X6_isStation
set_option maxRecDepth 20000 in
theorem ggX6_addTube_X6_fail : GoodIn wsX6_addTube wsX6_fail := goodIn_r _ [22, 1, 27, 28, 29, 30, 31, 32, 33, 34, 35, 36, 37, 38, 39, 40, 41, 42, 43] (by decide +kernel) (by decide +kernel)
set_option maxRecDepth 20000 in
theorem gX6_addTube_X6_fail : GoodIn wsX6_addTube (wsV RX6 45 RX6 yX6_fail wsX6_fail) := goodIn_app (goodIn_of _ (by decide +kernel)) ggX6_addTube_X6_fail
set_option maxRecDepth 20000 in
theorem ggX6_addTube_X6_isIn : GoodIn wsX6_addTube wsX6_isIn := goodIn_r _ [18] (by decide +kernel) (by decide +kernel)
set_option maxRecDepth 20000 in
theorem gX6_addTube_X6_isIn : GoodIn wsX6_addTube (va_wsS RX6 38 yX6_isIn wsX6_isIn) := goodIn_app (goodIn_of _ (by decide +kernel)) ggX6_addTube_X6_isIn
set_option maxRecDepth 20000 in
theorem ggX6_addTube_X6_st : GoodIn wsX6_addTube wsX6_st := goodIn_r _ [26, 9, 27, 28, 29, 30, 31, 32, 33, 34, 35, 36, 37, 38, 39, 40, 41, 42, 43] (by decide +kernel) (by decide +kernel)
set_option maxRecDepth 20000 in
theorem gX6_addTube_X6_st : GoodIn wsX6_addTube (wsV RX6 59 RX6 yX6_st wsX6_st) := goodIn_app (goodIn_of _ (by decide +kernel)) ggX6_addTube_X6_st
theorem dX6_addTube_0 : decode cX6_addTube 0 = .ok (.aload_n 0, 1) := by decide +kernel
theorem dX6_addTube_1 : decode cX6_addTube 1 = .ok (.iconst 0, 1) := by decide +kernel
theorem dX6_addTube_2 : decode cX6_addTube 2 = .ok (.putfield 31, 3) := by decide +kernel
theorem dX6_addTube_5 : decode cX6_addTube 5 = .ok (.aload_n 0, 1) := by decide +kernel
theorem dX6_addTube_6 : decode cX6_addTube 6 = .ok (.iload_n 1, 1) := by decide +kernel
theorem dX6_addTube_7 : decode cX6_addTube 7 = .ok (.invokevirtual 55, 3) := by decide +kernel
theorem dX6_addTube_10 : decode cX6_addTube 10 = .ok (.ifCond .eq 11, 3) := by decide +kernel
theorem dX6_addTube_13 : decode cX6_addTube 13 = .ok (.aload_n 0, 1) := by decide +kernel
theorem dX6_addTube_14 : decode cX6_addTube 14 = .ok (.iload_n 2, 1) := by decide +kernel
theorem dX6_addTube_15 : decode cX6_addTube 15 = .ok (.invokevirtual 55, 3) := by decide +kernel
theorem dX6_addTube_18 : decode cX6_addTube 18 = .ok (.ifCond .ne 9, 3) := by decide +kernel
theorem dX6_addTube_21 : decode cX6_addTube 21 = .ok (.aload_n 0, 1) := by decide +kernel
theorem dX6_addTube_22 : decode cX6_addTube 22 = .ok (.iconst 1, 1) := by decide +kernel
theorem dX6_addTube_23 : decode cX6_addTube 23 = .ok (.invokevirtual 45, 3) := by decide +kernel
theorem dX6_addTube_26 : decode cX6_addTube 26 = .ok (.ireturn, 1) := by decide +kernel
theorem dX6_addTube_27 : decode cX6_addTube 27 = .ok (.iload_n 1, 1) := by decide +kernel
theorem dX6_addTube_28 : decode cX6_addTube 28 = .ok (.iload_n 2, 1) := by decide +kernel
theorem dX6_addTube_29 : decode cX6_addTube 29 = .ok (.if_icmp .eq 35, 3) := by decide +kernel
theorem dX6_addTube_32 : decode cX6_addTube 32 = .ok (.iload_n 3, 1) := by decide +kernel
theorem dX6_addTube_33 : decode cX6_addTube 33 = .ok (.iconst 1, 1) := by decide +kernel
theorem dX6_addTube_34 : decode cX6_addTube 34 = .ok (.bipush 60, 2) := by decide +kernel
theorem dX6_addTube_36 : decode cX6_addTube 36 = .ok (.invokestatic 38, 3) := by decide +kernel
theorem dX6_addTube_39 : decode cX6_addTube 39 = .ok (.ifCond .eq 25, 3) := by decide +kernel
theorem dX6_addTube_42 : decode cX6_addTube 42 = .ok (.iload 4, 2) := by decide +kernel
theorem dX6_addTube_44 : decode cX6_addTube 44 = .ok (.iconst 1, 1) := by decide +kernel
theorem dX6_addTube_45 : decode cX6_addTube 45 = .ok (.bipush 6, 2) := by decide +kernel
theorem dX6_addTube_47 : decode cX6_addTube 47 = .ok (.invokestatic 38, 3) := by decide +kernel
theorem dX6_addTube_50 : decode cX6_addTube 50 = .ok (.ifCond .eq 14, 3) := by decide +kernel
theorem dX6_addTube_53 : decode cX6_addTube 53 = .ok (.iload 5, 2) := by decide +kernel
theorem dX6_addTube_55 : decode cX6_addTube 55 = .ok (.iconst 1, 1) := by decide +kernel
theorem dX6_addTube_56 : decode cX6_addTube 56 = .ok (.bipush 8, 2) := by decide +kernel
theorem dX6_addTube_58 : decode cX6_addTube 58 = .ok (.invokestatic 38, 3) := by decide +kernel
theorem dX6_addTube_61 : decode cX6_addTube 61 = .ok (.ifCond .ne 9, 3) := by decide +kernel
theorem dX6_addTube_64 : decode cX6_addTube 64 = .ok (.aload_n 0, 1) := by decide +kernel
theorem dX6_addTube_65 : decode cX6_addTube 65 = .ok (.iconst 2, 1) := by decide +kernel
theorem dX6_addTube_66 : decode cX6_addTube 66 = .ok (.invokevirtual 45, 3) := by decide +kernel
theorem dX6_addTube_69 : decode cX6_addTube 69 = .ok (.ireturn, 1) := by decide +kernel
theorem dX6_addTube_70 : decode cX6_addTube 70 = .ok (.aload_n 0, 1) := by decide +kernel
theorem dX6_addTube_71 : decode cX6_addTube 71 = .ok (.getfield 42, 3) := by decide +kernel
theorem dX6_addTube_74 : decode cX6_addTube 74 = .ok (.bipush 30, 2) := by decide +kernel
theorem dX6_addTube_76 : decode cX6_addTube 76 = .ok (.if_icmp .eq 13, 3) := by decide +kernel
theorem dX6_addTube_79 : decode cX6_addTube 79 = .ok (.aload_n 0, 1) := by decide +kernel
theorem dX6_addTube_80 : decode cX6_addTube 80 = .ok (.iload_n 1, 1) := by decide +kernel
theorem dX6_addTube_81 : decode cX6_addTube 81 = .ok (.iconst 2, 1) := by decide +kernel
theorem dX6_addTube_82 : decode cX6_addTube 82 = .ok (.invokevirtual 59, 3) := by decide +kernel
theorem dX6_addTube_85 : decode cX6_addTube 85 = .ok (.iconst 4, 1) := by decide +kernel
theorem dX6_addTube_86 : decode cX6_addTube 86 = .ok (.if_icmp .ne 9, 3) := by decide +kernel
theorem dX6_addTube_89 : decode cX6_addTube 89 = .ok (.aload_n 0, 1) := by decide +kernel
theorem dX6_addTube_90 : decode cX6_addTube 90 = .ok (.iconst 3, 1) := by decide +kernel
theorem dX6_addTube_91 : decode cX6_addTube 91 = .ok (.invokevirtual 45, 3) := by decide +kernel
theorem dX6_addTube_94 : decode cX6_addTube 94 = .ok (.ireturn, 1) := by decide +kernel
theorem dX6_addTube_95 : decode cX6_addTube 95 = .ok (.bipush 8, 2) := by decide +kernel
theorem dX6_addTube_97 : decode cX6_addTube 97 = .ok (.newarray .int, 2) := by decide +kernel
theorem dX6_addTube_99 : decode cX6_addTube 99 = .ok (.dup, 1) := by decide +kernel
theorem dX6_addTube_100 : decode cX6_addTube 100 = .ok (.iconst 0, 1) := by decide +kernel
theorem dX6_addTube_101 : decode cX6_addTube 101 = .ok (.iload_n 1, 1) := by decide +kernel
theorem dX6_addTube_102 : decode cX6_addTube 102 = .ok (.iastore, 1) := by decide +kernel
theorem dX6_addTube_103 : decode cX6_addTube 103 = .ok (.dup, 1) := by decide +kernel
theorem dX6_addTube_104 : decode cX6_addTube 104 = .ok (.iconst 1, 1) := by decide +kernel
theorem dX6_addTube_105 : decode cX6_addTube 105 = .ok (.iload_n 2, 1) := by decide +kernel
theorem dX6_addTube_106 : decode cX6_addTube 106 = .ok (.iastore, 1) := by decide +kernel
theorem dX6_addTube_107 : decode cX6_addTube 107 = .ok (.dup, 1) := by decide +kernel
theorem dX6_addTube_108 : decode cX6_addTube 108 = .ok (.iconst 2, 1) := by decide +kernel
theorem dX6_addTube_109 : decode cX6_addTube 109 = .ok (.iload_n 3, 1) := by decide +kernel
theorem dX6_addTube_110 : decode cX6_addTube 110 = .ok (.iastore, 1) := by decide +kernel
theorem dX6_addTube_111 : decode cX6_addTube 111 = .ok (.dup, 1) := by decide +kernel
theorem dX6_addTube_112 : decode cX6_addTube 112 = .ok (.iconst 3, 1) := by decide +kernel
theorem dX6_addTube_113 : decode cX6_addTube 113 = .ok (.iload 4, 2) := by decide +kernel
theorem dX6_addTube_115 : decode cX6_addTube 115 = .ok (.iastore, 1) := by decide +kernel
theorem dX6_addTube_116 : decode cX6_addTube 116 = .ok (.dup, 1) := by decide +kernel
theorem dX6_addTube_117 : decode cX6_addTube 117 = .ok (.iconst 4, 1) := by decide +kernel
theorem dX6_addTube_118 : decode cX6_addTube 118 = .ok (.iload 5, 2) := by decide +kernel
theorem dX6_addTube_120 : decode cX6_addTube 120 = .ok (.iastore, 1) := by decide +kernel
theorem dX6_addTube_121 : decode cX6_addTube 121 = .ok (.dup, 1) := by decide +kernel
theorem dX6_addTube_122 : decode cX6_addTube 122 = .ok (.iconst 5, 1) := by decide +kernel
theorem dX6_addTube_123 : decode cX6_addTube 123 = .ok (.iconst 1, 1) := by decide +kernel
theorem dX6_addTube_124 : decode cX6_addTube 124 = .ok (.iastore, 1) := by decide +kernel
theorem dX6_addTube_125 : decode cX6_addTube 125 = .ok (.dup, 1) := by decide +kernel
theorem dX6_addTube_126 : decode cX6_addTube 126 = .ok (.bipush 6, 2) := by decide +kernel
theorem dX6_addTube_128 : decode cX6_addTube 128 = .ok (.iconst 0, 1) := by decide +kernel
theorem dX6_addTube_129 : decode cX6_addTube 129 = .ok (.iastore, 1) := by decide +kernel
theorem dX6_addTube_130 : decode cX6_addTube 130 = .ok (.dup, 1) := by decide +kernel
theorem dX6_addTube_131 : decode cX6_addTube 131 = .ok (.bipush 7, 2) := by decide +kernel
theorem dX6_addTube_133 : decode cX6_addTube 133 = .ok (.iconst (-1), 1) := by decide +kernel
theorem dX6_addTube_134 : decode cX6_addTube 134 = .ok (.iastore, 1) := by decide +kernel
theorem dX6_addTube_135 : decode cX6_addTube 135 = .ok (.astore 6, 2) := by decide +kernel
theorem dX6_addTube_137 : decode cX6_addTube 137 = .ok (.aload 6, 2) := by decide +kernel
theorem dX6_addTube_139 : decode cX6_addTube 139 = .ok (.iconst 0, 1) := by decide +kernel
theorem dX6_addTube_140 : decode cX6_addTube 140 = .ok (.aload_n 0, 1) := by decide +kernel
theorem dX6_addTube_141 : decode cX6_addTube 141 = .ok (.getfield 13, 3) := by decide +kernel
theorem dX6_addTube_144 : decode cX6_addTube 144 = .ok (.bipush 8, 2) := by decide +kernel
theorem dX6_addTube_146 : decode cX6_addTube 146 = .ok (.aload_n 0, 1) := by decide +kernel
theorem dX6_addTube_147 : decode cX6_addTube 147 = .ok (.getfield 42, 3) := by decide +kernel
theorem dX6_addTube_150 : decode cX6_addTube 150 = .ok (.imul, 1) := by decide +kernel
theorem dX6_addTube_151 : decode cX6_addTube 151 = .ok (.bipush 8, 2) := by decide +kernel
theorem dX6_addTube_153 : decode cX6_addTube 153 = .ok (.invokestatic 49, 3) := by decide +kernel
theorem dX6_addTube_156 : decode cX6_addTube 156 = .ok (.aload_n 0, 1) := by decide +kernel
theorem dX6_addTube_157 : decode cX6_addTube 157 = .ok (.getfield 9, 3) := by decide +kernel
theorem dX6_addTube_160 : decode cX6_addTube 160 = .ok (.bipush 9, 2) := by decide +kernel
theorem dX6_addTube_162 : decode cX6_addTube 162 = .ok (.iload_n 1, 1) := by decide +kernel
theorem dX6_addTube_163 : decode cX6_addTube 163 = .ok (.imul, 1) := by decide +kernel
theorem dX6_addTube_164 : decode cX6_addTube 164 = .ok (.iconst 5, 1) := by decide +kernel
theorem dX6_addTube_165 : decode cX6_addTube 165 = .ok (.iadd, 1) := by decide +kernel
theorem dX6_addTube_166 : decode cX6_addTube 166 = .ok (.aload_n 0, 1) := by decide +kernel
theorem dX6_addTube_167 : decode cX6_addTube 167 = .ok (.iload_n 1, 1) := by decide +kernel
theorem dX6_addTube_168 : decode cX6_addTube 168 = .ok (.iconst 2, 1) := by decide +kernel
theorem dX6_addTube_169 : decode cX6_addTube 169 = .ok (.invokevirtual 59, 3) := by decide +kernel
theorem dX6_addTube_172 : decode cX6_addTube 172 = .ok (.iadd, 1) := by decide +kernel
theorem dX6_addTube_173 : decode cX6_addTube 173 = .ok (.aload_n 0, 1) := by decide +kernel
theorem dX6_addTube_174 : decode cX6_addTube 174 = .ok (.getfield 42, 3) := by decide +kernel
theorem dX6_addTube_177 : decode cX6_addTube 177 = .ok (.iastore, 1) := by decide +kernel
theorem dX6_addTube_178 : decode cX6_addTube 178 = .ok (.aload_n 0, 1) := by decide +kernel
theorem dX6_addTube_179 : decode cX6_addTube 179 = .ok (.getfield 9, 3) := by decide +kernel
theorem dX6_addTube_182 : decode cX6_addTube 182 = .ok (.bipush 9, 2) := by decide +kernel
theorem dX6_addTube_184 : decode cX6_addTube 184 = .ok (.iload_n 1, 1) := by decide +kernel
theorem dX6_addTube_185 : decode cX6_addTube 185 = .ok (.imul, 1) := by decide +kernel
theorem dX6_addTube_186 : decode cX6_addTube 186 = .ok (.iconst 2, 1) := by decide +kernel
theorem dX6_addTube_187 : decode cX6_addTube 187 = .ok (.iadd, 1) := by decide +kernel
theorem dX6_addTube_188 : decode cX6_addTube 188 = .ok (.dup2, 1) := by decide +kernel
theorem dX6_addTube_189 : decode cX6_addTube 189 = .ok (.iaload, 1) := by decide +kernel
theorem dX6_addTube_190 : decode cX6_addTube 190 = .ok (.iconst 1, 1) := by decide +kernel
theorem dX6_addTube_191 : decode cX6_addTube 191 = .ok (.iadd, 1) := by decide +kernel
theorem dX6_addTube_192 : decode cX6_addTube 192 = .ok (.iastore, 1) := by decide +kernel
theorem dX6_addTube_193 : decode cX6_addTube 193 = .ok (.aload_n 0, 1) := by decide +kernel
theorem dX6_addTube_194 : decode cX6_addTube 194 = .ok (.dup, 1) := by decide +kernel
theorem dX6_addTube_195 : decode cX6_addTube 195 = .ok (.getfield 42, 3) := by decide +kernel
theorem dX6_addTube_198 : decode cX6_addTube 198 = .ok (.iconst 1, 1) := by decide +kernel
theorem dX6_addTube_199 : decode cX6_addTube 199 = .ok (.iadd, 1) := by decide +kernel
theorem dX6_addTube_200 : decode cX6_addTube 200 = .ok (.putfield 42, 3) := by decide +kernel
theorem dX6_addTube_203 : decode cX6_addTube 203 = .ok (.aload_n 0, 1) := by decide +kernel
theorem dX6_addTube_204 : decode cX6_addTube 204 = .ok (.getfield 42, 3) := by decide +kernel
theorem dX6_addTube_207 : decode cX6_addTube 207 = .ok (.iconst 1, 1) := by decide +kernel
theorem dX6_addTube_208 : decode cX6_addTube 208 = .ok (.isub, 1) := by decide +kernel
theorem dX6_addTube_209 : decode cX6_addTube 209 = .ok (.ireturn, 1) := by decide +kernel
set_option maxRecDepth 20000 in
theorem ggX6_turn_X6_isStation : GoodIn wsX6_turn wsX6_isStation := goodIn_r _ [7, 8, 9, 10, 6, 11, 20, 21, 22, 23, 24, 25, 26, 27, 28, 29, 30, 31, 32, 33, 34, 35, 36] (by decide +kernel) (by decide +kernel)
set_option maxRecDepth 20000 in
theorem gX6_turn_X6_isStation : GoodIn wsX6_turn (wsV RX6 55 RX6 yX6_isStation wsX6_isStation) := goodIn_app (goodIn_of _ (by decide +kernel)) ggX6_turn_X6_isStation
set_option maxRecDepth 20000 in
theorem ggX6_turn_X6_fail : GoodIn wsX6_turn wsX6_fail := goodIn_r _ [15, 1, 20, 21, 22, 23, 24, 25, 26, 27, 28, 29, 30, 31, 32, 33, 34, 35, 36] (by decide +kernel) (by decide +kernel)
set_option maxRecDepth 20000 in
theorem gX6_turn_X6_fail : GoodIn wsX6_turn (wsV RX6 45 RX6 yX6_fail wsX6_fail) := goodIn_app (goodIn_of _ (by decide +kernel)) ggX6_turn_X6_fail
set_option maxRecDepth 20000 in
theorem ggX6_turn_X6_st : GoodIn wsX6_turn wsX6_st := goodIn_r _ [19, 2, 20, 21, 22, 23, 24, 25, 26, 27, 28, 29, 30, 31, 32, 33, 34, 35, 36] (by decide +kernel) (by decide +kernel)
set_option maxRecDepth 20000 in
theorem gX6_turn_X6_st : GoodIn wsX6_turn (wsV RX6 59 RX6 yX6_st wsX6_st) := goodIn_app (goodIn_of _ (by decide +kernel)) ggX6_turn_X6_st
set_option maxRecDepth 20000 in
theorem ggX6_turn_X6_isIn : GoodIn wsX6_turn wsX6_isIn := goodIn_r _ [11] (by decide +kernel) (by decide +kernel)
set_option maxRecDepth 20000 in
theorem gX6_turn_X6_isIn : GoodIn wsX6_turn (va_wsS RX6 38 yX6_isIn wsX6_isIn) := goodIn_app (goodIn_of _ (by decide +kernel)) ggX6_turn_X6_isIn
theorem dX6_turn_0 : decode cX6_turn 0 = .ok (.aload_n 0, 1) := by decide +kernel
theorem dX6_turn_1 : decode cX6_turn 1 = .ok (.iconst 0, 1) := by decide +kernel
theorem dX6_turn_2 : decode cX6_turn 2 = .ok (.putfield 31, 3) := by decide +kernel
theorem dX6_turn_5 : decode cX6_turn 5 = .ok (.aload_n 0, 1) := by decide +kernel
theorem dX6_turn_6 : decode cX6_turn 6 = .ok (.iload_n 1, 1) := by decide +kernel
theorem dX6_turn_7 : decode cX6_turn 7 = .ok (.invokevirtual 55, 3) := by decide +kernel
theorem dX6_turn_10 : decode cX6_turn 10 = .ok (.ifCond .ne 9, 3) := by decide +kernel
theorem dX6_turn_13 : decode cX6_turn 13 = .ok (.aload_n 0, 1) := by decide +kernel
theorem dX6_turn_14 : decode cX6_turn 14 = .ok (.iconst 1, 1) := by decide +kernel
theorem dX6_turn_15 : decode cX6_turn 15 = .ok (.invokevirtual 45, 3) := by decide +kernel
theorem dX6_turn_18 : decode cX6_turn 18 = .ok (.ireturn, 1) := by decide +kernel
theorem dX6_turn_19 : decode cX6_turn 19 = .ok (.iload_n 2, 1) := by decide +kernel
theorem dX6_turn_20 : decode cX6_turn 20 = .ok (.iconst (-1), 1) := by decide +kernel
theorem dX6_turn_21 : decode cX6_turn 21 = .ok (.aload_n 0, 1) := by decide +kernel
theorem dX6_turn_22 : decode cX6_turn 22 = .ok (.iload_n 1, 1) := by decide +kernel
theorem dX6_turn_23 : decode cX6_turn 23 = .ok (.iconst 2, 1) := by decide +kernel
theorem dX6_turn_24 : decode cX6_turn 24 = .ok (.invokevirtual 59, 3) := by decide +kernel
theorem dX6_turn_27 : decode cX6_turn 27 = .ok (.iconst 1, 1) := by decide +kernel
theorem dX6_turn_28 : decode cX6_turn 28 = .ok (.isub, 1) := by decide +kernel
theorem dX6_turn_29 : decode cX6_turn 29 = .ok (.invokestatic 38, 3) := by decide +kernel
theorem dX6_turn_32 : decode cX6_turn 32 = .ok (.ifCond .ne 9, 3) := by decide +kernel
theorem dX6_turn_35 : decode cX6_turn 35 = .ok (.aload_n 0, 1) := by decide +kernel
theorem dX6_turn_36 : decode cX6_turn 36 = .ok (.iconst 2, 1) := by decide +kernel
theorem dX6_turn_37 : decode cX6_turn 37 = .ok (.invokevirtual 45, 3) := by decide +kernel
theorem dX6_turn_40 : decode cX6_turn 40 = .ok (.ireturn, 1) := by decide +kernel
theorem dX6_turn_41 : decode cX6_turn 41 = .ok (.aload_n 0, 1) := by decide +kernel
theorem dX6_turn_42 : decode cX6_turn 42 = .ok (.iload_n 1, 1) := by decide +kernel
theorem dX6_turn_43 : decode cX6_turn 43 = .ok (.iconst 3, 1) := by decide +kernel
theorem dX6_turn_44 : decode cX6_turn 44 = .ok (.invokevirtual 59, 3) := by decide +kernel
theorem dX6_turn_47 : decode cX6_turn 47 = .ok (.istore_n 3, 1) := by decide +kernel
theorem dX6_turn_48 : decode cX6_turn 48 = .ok (.aload_n 0, 1) := by decide +kernel
theorem dX6_turn_49 : decode cX6_turn 49 = .ok (.getfield 9, 3) := by decide +kernel
theorem dX6_turn_52 : decode cX6_turn 52 = .ok (.bipush 9, 2) := by decide +kernel
theorem dX6_turn_54 : decode cX6_turn 54 = .ok (.iload_n 1, 1) := by decide +kernel
theorem dX6_turn_55 : decode cX6_turn 55 = .ok (.imul, 1) := by decide +kernel
theorem dX6_turn_56 : decode cX6_turn 56 = .ok (.iconst 3, 1) := by decide +kernel
theorem dX6_turn_57 : decode cX6_turn 57 = .ok (.iadd, 1) := by decide +kernel
theorem dX6_turn_58 : decode cX6_turn 58 = .ok (.iload_n 2, 1) := by decide +kernel
theorem dX6_turn_59 : decode cX6_turn 59 = .ok (.iastore, 1) := by decide +kernel
theorem dX6_turn_60 : decode cX6_turn 60 = .ok (.iload_n 3, 1) := by decide +kernel
theorem dX6_turn_61 : decode cX6_turn 61 = .ok (.ireturn, 1) := by decide +kernel
set_option maxRecDepth 20000 in
theorem ggX6_setTube_X6_isTube : GoodIn wsX6_setTube wsX6_isTube := goodIn_r _ [7, 8, 9, 10, 6, 11, 20, 21, 22, 23, 24, 25, 26, 27, 28, 29, 30, 31, 32, 33, 34, 35, 36] (by decide +kernel) (by decide +kernel)
set_option maxRecDepth 20000 in
theorem gX6_setTube_X6_isTube : GoodIn wsX6_setTube (wsV RX6 63 RX6 yX6_isTube wsX6_isTube) := goodIn_app (goodIn_of _ (by decide +kernel)) ggX6_setTube_X6_isTube
set_option maxRecDepth 20000 in
theorem ggX6_setTube_X6_fail : GoodIn wsX6_setTube wsX6_fail := goodIn_r _ [15, 1, 20, 21, 22, 23, 24, 25, 26, 27, 28, 29, 30, 31, 32, 33, 34, 35, 36] (by decide +kernel) (by decide +kernel)
set_option maxRecDepth 20000 in
theorem gX6_setTube_X6_fail : GoodIn wsX6_setTube (wsV RX6 45 RX6 yX6_fail wsX6_fail) := goodIn_app (goodIn_of _ (by decide +kernel)) ggX6_setTube_X6_fail
set_option maxRecDepth 20000 in
theorem ggX6_setTube_X6_isIn : GoodIn wsX6_setTube wsX6_isIn := goodIn_r _ [11] (by decide +kernel) (by decide +kernel)
set_option maxRecDepth 20000 in
theorem gX6_setTube_X6_isIn : GoodIn wsX6_setTube (va_wsS RX6 38 yX6_isIn wsX6_isIn) := goodIn_app (goodIn_of _ (by decide +kernel)) ggX6_setTube_X6_isIn
set_option maxRecDepth 20000 in
theorem ggX6_setTube_X6_tu : GoodIn wsX6_setTube wsX6_tu := goodIn_r _ [19, 2, 20, 21, 22, 23, 24, 25, 26, 27, 28, 29, 30, 31, 32, 33, 34, 35, 36] (by decide +kernel) (by decide +kernel)
set_option maxRecDepth 20000 in
theorem gX6_setTube_X6_tu : GoodIn wsX6_setTube (wsV RX6 66 RX6 yX6_tu wsX6_tu) := goodIn_app (goodIn_of _ (by decide +kernel)) ggX6_setTube_X6_tu
theorem dX6_setTube_0 : decode cX6_setTube 0 = .ok (.aload_n 0, 1) := by decide +kernel
theorem dX6_setTube_1 : decode cX6_setTube 1 = .ok (.iconst 0, 1) := by decide +kernel
theorem dX6_setTube_2 : decode cX6_setTube 2 = .ok (.putfield 31, 3) := by decide +kernel
theorem dX6_setTube_5 : decode cX6_setTube 5 = .ok (.aload_n 0, 1) := by decide +kernel
theorem dX6_setTube_6 : decode cX6_setTube 6 = .ok (.iload_n 1, 1) := by decide +kernel
theorem dX6_setTube_7 : decode cX6_setTube 7 = .ok (.invokevirtual 63, 3) := by decide +kernel
theorem dX6_setTube_10 : decode cX6_setTube 10 = .ok (.ifCond .ne 9, 3) := by decide +kernel
theorem dX6_setTube_13 : decode cX6_setTube 13 = .ok (.aload_n 0, 1) := by decide +kernel
theorem dX6_setTube_14 : decode cX6_setTube 14 = .ok (.iconst 1, 1) := by decide +kernel
theorem dX6_setTube_15 : decode cX6_setTube 15 = .ok (.invokevirtual 45, 3) := by decide +kernel
theorem dX6_setTube_18 : decode cX6_setTube 18 = .ok (.ireturn, 1) := by decide +kernel
theorem dX6_setTube_19 : decode cX6_setTube 19 = .ok (.iload_n 2, 1) := by decide +kernel
theorem dX6_setTube_20 : decode cX6_setTube 20 = .ok (.iconst 1, 1) := by decide +kernel
theorem dX6_setTube_21 : decode cX6_setTube 21 = .ok (.bipush 6, 2) := by decide +kernel
theorem dX6_setTube_23 : decode cX6_setTube 23 = .ok (.invokestatic 38, 3) := by decide +kernel
theorem dX6_setTube_26 : decode cX6_setTube 26 = .ok (.ifCond .ne 9, 3) := by decide +kernel
theorem dX6_setTube_29 : decode cX6_setTube 29 = .ok (.aload_n 0, 1) := by decide +kernel
theorem dX6_setTube_30 : decode cX6_setTube 30 = .ok (.iconst 2, 1) := by decide +kernel
theorem dX6_setTube_31 : decode cX6_setTube 31 = .ok (.invokevirtual 45, 3) := by decide +kernel
theorem dX6_setTube_34 : decode cX6_setTube 34 = .ok (.ireturn, 1) := by decide +kernel
theorem dX6_setTube_35 : decode cX6_setTube 35 = .ok (.aload_n 0, 1) := by decide +kernel
theorem dX6_setTube_36 : decode cX6_setTube 36 = .ok (.iload_n 1, 1) := by decide +kernel
theorem dX6_setTube_37 : decode cX6_setTube 37 = .ok (.iconst 3, 1) := by decide +kernel
theorem dX6_setTube_38 : decode cX6_setTube 38 = .ok (.invokevirtual 66, 3) := by decide +kernel
theorem dX6_setTube_41 : decode cX6_setTube 41 = .ok (.istore 4, 2) := by decide +kernel
theorem dX6_setTube_43 : decode cX6_setTube 43 = .ok (.aload_n 0, 1) := by decide +kernel
theorem dX6_setTube_44 : decode cX6_setTube 44 = .ok (.getfield 13, 3) := by decide +kernel
theorem dX6_setTube_47 : decode cX6_setTube 47 = .ok (.bipush 8, 2) := by decide +kernel
theorem dX6_setTube_49 : decode cX6_setTube 49 = .ok (.iload_n 1, 1) := by decide +kernel
theorem dX6_setTube_50 : decode cX6_setTube 50 = .ok (.imul, 1) := by decide +kernel
theorem dX6_setTube_51 : decode cX6_setTube 51 = .ok (.iconst 3, 1) := by decide +kernel
theorem dX6_setTube_52 : decode cX6_setTube 52 = .ok (.iadd, 1) := by decide +kernel
theorem dX6_setTube_53 : decode cX6_setTube 53 = .ok (.iload_n 2, 1) := by decide +kernel
theorem dX6_setTube_54 : decode cX6_setTube 54 = .ok (.iastore, 1) := by decide +kernel
theorem dX6_setTube_55 : decode cX6_setTube 55 = .ok (.aload_n 0, 1) := by decide +kernel
theorem dX6_setTube_56 : decode cX6_setTube 56 = .ok (.getfield 13, 3) := by decide +kernel
theorem dX6_setTube_59 : decode cX6_setTube 59 = .ok (.bipush 8, 2) := by decide +kernel
theorem dX6_setTube_61 : decode cX6_setTube 61 = .ok (.iload_n 1, 1) := by decide +kernel
theorem dX6_setTube_62 : decode cX6_setTube 62 = .ok (.imul, 1) := by decide +kernel
theorem dX6_setTube_63 : decode cX6_setTube 63 = .ok (.iconst 5, 1) := by decide +kernel
theorem dX6_setTube_64 : decode cX6_setTube 64 = .ok (.iadd, 1) := by decide +kernel
theorem dX6_setTube_65 : decode cX6_setTube 65 = .ok (.iload_n 3, 1) := by decide +kernel
theorem dX6_setTube_66 : decode cX6_setTube 66 = .ok (.ifCond .eq 7, 3) := by decide +kernel
theorem dX6_setTube_69 : decode cX6_setTube 69 = .ok (.iconst 1, 1) := by decide +kernel
theorem dX6_setTube_70 : decode cX6_setTube 70 = .ok (.goto 4, 3) := by decide +kernel
theorem dX6_setTube_73 : decode cX6_setTube 73 = .ok (.iconst 0, 1) := by decide +kernel
theorem dX6_setTube_74 : decode cX6_setTube 74 = .ok (.iastore, 1) := by decide +kernel
theorem dX6_setTube_75 : decode cX6_setTube 75 = .ok (.iload 4, 2) := by decide +kernel
theorem dX6_setTube_77 : decode cX6_setTube 77 = .ok (.ireturn, 1) := by decide +kernel
set_option maxRecDepth 20000 in
theorem ggX6_addEntry_X6_isIn : GoodIn wsX6_addEntry wsX6_isIn := goodIn_r _ [14] (by decide +kernel) (by decide +kernel)
set_option maxRecDepth 20000 in
theorem gX6_addEntry_X6_isIn : GoodIn wsX6_addEntry (va_wsS RX6 38 yX6_isIn wsX6_isIn) := goodIn_app (goodIn_of _ (by decide +kernel)) ggX6_addEntry_X6_isIn
set_option maxRecDepth 20000 in
theorem ggX6_addEntry_X6_fail : GoodIn wsX6_addEntry wsX6_fail := goodIn_r _ [18, 1, 34, 35, 36, 37, 38, 39, 40, 41, 42, 43, 44, 45, 46, 47, 48, 49, 50] (by decide +kernel) (by decide +kernel)
set_option maxRecDepth 20000 in
theorem gX6_addEntry_X6_fail : GoodIn wsX6_addEntry (wsV RX6 45 RX6 yX6_fail wsX6_fail) := goodIn_app (goodIn_of _ (by decide +kernel)) ggX6_addEntry_X6_fail
set_option maxRecDepth 20000 in
theorem ggX6_addEntry_X6_isStation : GoodIn wsX6_addEntry wsX6_isStation := goodIn_r _ [22, 23, 11, 12, 13, 14, 34, 35, 36, 37, 38, 39, 40, 41, 42, 43, 44, 45, 46, 47, 48, 49, 50] (by decide +kernel) (by decide +kernel)
set_option maxRecDepth 20000 in
theorem gX6_addEntry_X6_isStation : GoodIn wsX6_addEntry (wsV RX6 55 RX6 yX6_isStation wsX6_isStation) := goodIn_app (goodIn_of _ (by decide +kernel)) ggX6_addEntry_X6_isStation
set_option maxRecDepth 20000 in
theorem ggX6_addEntry_X6_st : GoodIn wsX6_addEntry wsX6_st := goodIn_r _ [27, 28, 34, 35, 36, 37, 38, 39, 40, 41, 42, 43, 44, 45, 46, 47, 48, 49, 50] (by decide +kernel) (by decide +kernel)
set_option maxRecDepth 20000 in
theorem gX6_addEntry_X6_st : GoodIn wsX6_addEntry (wsV RX6 59 RX6 yX6_st wsX6_st) := goodIn_app (goodIn_of _ (by decide +kernel)) ggX6_addEntry_X6_st
set_option maxRecDepth 20000 in
theorem ggX6_addEntry_X6_isTube : GoodIn wsX6_addEntry wsX6_isTube := goodIn_r _ [32, 33, 11, 12, 13, 14, 34, 35, 36, 37, 38, 39, 40, 41, 42, 43, 44, 45, 46, 47, 48, 49, 50] (by decide +kernel) (by decide +kernel)
set_option maxRecDepth 20000 in
theorem gX6_addEntry_X6_isTube : GoodIn wsX6_addEntry (wsV RX6 63 RX6 yX6_isTube wsX6_isTube) := goodIn_app (goodIn_of _ (by decide +kernel)) ggX6_addEntry_X6_isTube
theorem dX6_addEntry_0 : decode cX6_addEntry 0 = .ok (.aload_n 0, 1) := by decide +kernel
theorem dX6_addEntry_1 : decode cX6_addEntry 1 = .ok (.iconst 0, 1) := by decide +kernel
theorem dX6_addEntry_2 : decode cX6_addEntry 2 = .ok (.putfield 31, 3) := by decide +kernel
theorem dX6_addEntry_5 : decode cX6_addEntry 5 = .ok (.iload_n 1, 1) := by decide +kernel
theorem dX6_addEntry_6 : decode cX6_addEntry 6 = .ok (.aload_n 0, 1) := by decide +kernel
theorem dX6_addEntry_7 : decode cX6_addEntry 7 = .ok (.getfield 69, 3) := by decide +kernel
theorem dX6_addEntry_10 : decode cX6_addEntry 10 = .ok (.if_icmp .le 29, 3) := by decide +kernel
theorem dX6_addEntry_13 : decode cX6_addEntry 13 = .ok (.iload_n 1, 1) := by decide +kernel
theorem dX6_addEntry_14 : decode cX6_addEntry 14 = .ok (.ldc 72, 2) := by decide +kernel
theorem dX6_addEntry_16 : decode cX6_addEntry 16 = .ok (.if_icmp .gt 23, 3) := by decide +kernel
theorem dX6_addEntry_19 : decode cX6_addEntry 19 = .ok (.iload_n 2, 1) := by decide +kernel
theorem dX6_addEntry_20 : decode cX6_addEntry 20 = .ok (.iconst 0, 1) := by decide +kernel
theorem dX6_addEntry_21 : decode cX6_addEntry 21 = .ok (.sipush 500, 3) := by decide +kernel
theorem dX6_addEntry_24 : decode cX6_addEntry 24 = .ok (.invokestatic 38, 3) := by decide +kernel
theorem dX6_addEntry_27 : decode cX6_addEntry 27 = .ok (.ifCond .eq 12, 3) := by decide +kernel
theorem dX6_addEntry_30 : decode cX6_addEntry 30 = .ok (.iload_n 3, 1) := by decide +kernel
theorem dX6_addEntry_31 : decode cX6_addEntry 31 = .ok (.iconst 0, 1) := by decide +kernel
theorem dX6_addEntry_32 : decode cX6_addEntry 32 = .ok (.iconst 2, 1) := by decide +kernel
theorem dX6_addEntry_33 : decode cX6_addEntry 33 = .ok (.invokestatic 38, 3) := by decide +kernel
theorem dX6_addEntry_36 : decode cX6_addEntry 36 = .ok (.ifCond .ne 9, 3) := by decide +kernel
theorem dX6_addEntry_39 : decode cX6_addEntry 39 = .ok (.aload_n 0, 1) := by decide +kernel
theorem dX6_addEntry_40 : decode cX6_addEntry 40 = .ok (.iconst 1, 1) := by decide +kernel
theorem dX6_addEntry_41 : decode cX6_addEntry 41 = .ok (.invokevirtual 45, 3) := by decide +kernel
theorem dX6_addEntry_44 : decode cX6_addEntry 44 = .ok (.ireturn, 1) := by decide +kernel
theorem dX6_addEntry_45 : decode cX6_addEntry 45 = .ok (.iload_n 3, 1) := by decide +kernel
theorem dX6_addEntry_46 : decode cX6_addEntry 46 = .ok (.ifCond .ne 38, 3) := by decide +kernel
theorem dX6_addEntry_49 : decode cX6_addEntry 49 = .ok (.aload_n 0, 1) := by decide +kernel
theorem dX6_addEntry_50 : decode cX6_addEntry 50 = .ok (.iload 4, 2) := by decide +kernel
theorem dX6_addEntry_52 : decode cX6_addEntry 52 = .ok (.invokevirtual 55, 3) := by decide +kernel
theorem dX6_addEntry_55 : decode cX6_addEntry 55 = .ok (.ifCond .eq 25, 3) := by decide +kernel
theorem dX6_addEntry_58 : decode cX6_addEntry 58 = .ok (.iload 5, 2) := by decide +kernel
theorem dX6_addEntry_60 : decode cX6_addEntry 60 = .ok (.iconst (-1), 1) := by decide +kernel
theorem dX6_addEntry_61 : decode cX6_addEntry 61 = .ok (.aload_n 0, 1) := by decide +kernel
theorem dX6_addEntry_62 : decode cX6_addEntry 62 = .ok (.iload 4, 2) := by decide +kernel
theorem dX6_addEntry_64 : decode cX6_addEntry 64 = .ok (.iconst 2, 1) := by decide +kernel
theorem dX6_addEntry_65 : decode cX6_addEntry 65 = .ok (.invokevirtual 59, 3) := by decide +kernel
theorem dX6_addEntry_68 : decode cX6_addEntry 68 = .ok (.iconst 1, 1) := by decide +kernel
theorem dX6_addEntry_69 : decode cX6_addEntry 69 = .ok (.isub, 1) := by decide +kernel
theorem dX6_addEntry_70 : decode cX6_addEntry 70 = .ok (.invokestatic 38, 3) := by decide +kernel
theorem dX6_addEntry_73 : decode cX6_addEntry 73 = .ok (.ifCond .eq 7, 3) := by decide +kernel
theorem dX6_addEntry_76 : decode cX6_addEntry 76 = .ok (.iconst 1, 1) := by decide +kernel
theorem dX6_addEntry_77 : decode cX6_addEntry 77 = .ok (.goto 62, 3) := by decide +kernel
theorem dX6_addEntry_80 : decode cX6_addEntry 80 = .ok (.iconst 0, 1) := by decide +kernel
theorem dX6_addEntry_81 : decode cX6_addEntry 81 = .ok (.goto 58, 3) := by decide +kernel
theorem dX6_addEntry_84 : decode cX6_addEntry 84 = .ok (.iload_n 3, 1) := by decide +kernel
theorem dX6_addEntry_85 : decode cX6_addEntry 85 = .ok (.iconst 1, 1) := by decide +kernel
theorem dX6_addEntry_86 : decode cX6_addEntry 86 = .ok (.if_icmp .ne 30, 3) := by decide +kernel
theorem dX6_addEntry_89 : decode cX6_addEntry 89 = .ok (.aload_n 0, 1) := by decide +kernel
theorem dX6_addEntry_90 : decode cX6_addEntry 90 = .ok (.iload 4, 2) := by decide +kernel
theorem dX6_addEntry_92 : decode cX6_addEntry 92 = .ok (.invokevirtual 63, 3) := by decide +kernel
theorem dX6_addEntry_95 : decode cX6_addEntry 95 = .ok (.ifCond .eq 17, 3) := by decide +kernel
theorem dX6_addEntry_98 : decode cX6_addEntry 98 = .ok (.iload 5, 2) := by decide +kernel
theorem dX6_addEntry_100 : decode cX6_addEntry 100 = .ok (.iconst 0, 1) := by decide +kernel
theorem dX6_addEntry_101 : decode cX6_addEntry 101 = .ok (.iconst 1, 1) := by decide +kernel
theorem dX6_addEntry_102 : decode cX6_addEntry 102 = .ok (.invokestatic 38, 3) := by decide +kernel
theorem dX6_addEntry_105 : decode cX6_addEntry 105 = .ok (.ifCond .eq 7, 3) := by decide +kernel
theorem dX6_addEntry_108 : decode cX6_addEntry 108 = .ok (.iconst 1, 1) := by decide +kernel
theorem dX6_addEntry_109 : decode cX6_addEntry 109 = .ok (.goto 30, 3) := by decide +kernel
theorem dX6_addEntry_112 : decode cX6_addEntry 112 = .ok (.iconst 0, 1) := by decide +kernel
theorem dX6_addEntry_113 : decode cX6_addEntry 113 = .ok (.goto 26, 3) := by decide +kernel
theorem dX6_addEntry_116 : decode cX6_addEntry 116 = .ok (.aload_n 0, 1) := by decide +kernel
theorem dX6_addEntry_117 : decode cX6_addEntry 117 = .ok (.iload 4, 2) := by decide +kernel
theorem dX6_addEntry_119 : decode cX6_addEntry 119 = .ok (.invokevirtual 55, 3) := by decide +kernel
theorem dX6_addEntry_122 : decode cX6_addEntry 122 = .ok (.ifCond .eq 16, 3) := by decide +kernel
theorem dX6_addEntry_125 : decode cX6_addEntry 125 = .ok (.aload_n 0, 1) := by decide +kernel
theorem dX6_addEntry_126 : decode cX6_addEntry 126 = .ok (.iload 5, 2) := by decide +kernel
theorem dX6_addEntry_128 : decode cX6_addEntry 128 = .ok (.invokevirtual 55, 3) := by decide +kernel
theorem dX6_addEntry_131 : decode cX6_addEntry 131 = .ok (.ifCond .eq 7, 3) := by decide +kernel
theorem dX6_addEntry_134 : decode cX6_addEntry 134 = .ok (.iconst 1, 1) := by decide +kernel
theorem dX6_addEntry_135 : decode cX6_addEntry 135 = .ok (.goto 4, 3) := by decide +kernel
theorem dX6_addEntry_138 : decode cX6_addEntry 138 = .ok (.iconst 0, 1) := by decide +kernel
theorem dX6_addEntry_139 : decode cX6_addEntry 139 = .ok (.istore 6, 2) := by decide +kernel
theorem dX6_addEntry_141 : decode cX6_addEntry 141 = .ok (.iload 6, 2) := by decide +kernel
theorem dX6_addEntry_143 : decode cX6_addEntry 143 = .ok (.ifCond .ne 9, 3) := by decide +kernel
theorem dX6_addEntry_146 : decode cX6_addEntry 146 = .ok (.aload_n 0, 1) := by decide +kernel
theorem dX6_addEntry_147 : decode cX6_addEntry 147 = .ok (.iconst 2, 1) := by decide +kernel
theorem dX6_addEntry_148 : decode cX6_addEntry 148 = .ok (.invokevirtual 45, 3) := by decide +kernel
theorem dX6_addEntry_151 : decode cX6_addEntry 151 = .ok (.ireturn, 1) := by decide +kernel
theorem dX6_addEntry_152 : decode cX6_addEntry 152 = .ok (.aload_n 0, 1) := by decide +kernel
theorem dX6_addEntry_153 : decode cX6_addEntry 153 = .ok (.getfield 73, 3) := by decide +kernel
theorem dX6_addEntry_156 : decode cX6_addEntry 156 = .ok (.bipush 12, 2) := by decide +kernel
theorem dX6_addEntry_158 : decode cX6_addEntry 158 = .ok (.if_icmp .ne 9, 3) := by decide +kernel
theorem dX6_addEntry_161 : decode cX6_addEntry 161 = .ok (.aload_n 0, 1) := by decide +kernel
theorem dX6_addEntry_162 : decode cX6_addEntry 162 = .ok (.iconst 3, 1) := by decide +kernel
theorem dX6_addEntry_163 : decode cX6_addEntry 163 = .ok (.invokevirtual 45, 3) := by decide +kernel
theorem dX6_addEntry_166 : decode cX6_addEntry 166 = .ok (.ireturn, 1) := by decide +kernel
theorem dX6_addEntry_167 : decode cX6_addEntry 167 = .ok (.iconst 5, 1) := by decide +kernel
theorem dX6_addEntry_168 : decode cX6_addEntry 168 = .ok (.newarray .int, 2) := by decide +kernel
theorem dX6_addEntry_170 : decode cX6_addEntry 170 = .ok (.dup, 1) := by decide +kernel
theorem dX6_addEntry_171 : decode cX6_addEntry 171 = .ok (.iconst 0, 1) := by decide +kernel
theorem dX6_addEntry_172 : decode cX6_addEntry 172 = .ok (.iload_n 1, 1) := by decide +kernel
theorem dX6_addEntry_173 : decode cX6_addEntry 173 = .ok (.iastore, 1) := by decide +kernel
theorem dX6_addEntry_174 : decode cX6_addEntry 174 = .ok (.dup, 1) := by decide +kernel
theorem dX6_addEntry_175 : decode cX6_addEntry 175 = .ok (.iconst 1, 1) := by decide +kernel
theorem dX6_addEntry_176 : decode cX6_addEntry 176 = .ok (.iload_n 2, 1) := by decide +kernel
theorem dX6_addEntry_177 : decode cX6_addEntry 177 = .ok (.iastore, 1) := by decide +kernel
theorem dX6_addEntry_178 : decode cX6_addEntry 178 = .ok (.dup, 1) := by decide +kernel
theorem dX6_addEntry_179 : decode cX6_addEntry 179 = .ok (.iconst 2, 1) := by decide +kernel
theorem dX6_addEntry_180 : decode cX6_addEntry 180 = .ok (.iload_n 3, 1) := by decide +kernel
theorem dX6_addEntry_181 : decode cX6_addEntry 181 = .ok (.iastore, 1) := by decide +kernel
theorem dX6_addEntry_182 : decode cX6_addEntry 182 = .ok (.dup, 1) := by decide +kernel
theorem dX6_addEntry_183 : decode cX6_addEntry 183 = .ok (.iconst 3, 1) := by decide +kernel
theorem dX6_addEntry_184 : decode cX6_addEntry 184 = .ok (.iload 4, 2) := by decide +kernel
theorem dX6_addEntry_186 : decode cX6_addEntry 186 = .ok (.iastore, 1) := by decide +kernel
theorem dX6_addEntry_187 : decode cX6_addEntry 187 = .ok (.dup, 1) := by decide +kernel
theorem dX6_addEntry_188 : decode cX6_addEntry 188 = .ok (.iconst 4, 1) := by decide +kernel
theorem dX6_addEntry_189 : decode cX6_addEntry 189 = .ok (.iload 5, 2) := by decide +kernel
theorem dX6_addEntry_191 : decode cX6_addEntry 191 = .ok (.iastore, 1) := by decide +kernel
theorem dX6_addEntry_192 : decode cX6_addEntry 192 = .ok (.astore 7, 2) := by decide +kernel
theorem dX6_addEntry_194 : decode cX6_addEntry 194 = .ok (.aload 7, 2) := by decide +kernel
theorem dX6_addEntry_196 : decode cX6_addEntry 196 = .ok (.iconst 0, 1) := by decide +kernel
theorem dX6_addEntry_197 : decode cX6_addEntry 197 = .ok (.aload_n 0, 1) := by decide +kernel
theorem dX6_addEntry_198 : decode cX6_addEntry 198 = .ok (.getfield 16, 3) := by decide +kernel
theorem dX6_addEntry_201 : decode cX6_addEntry 201 = .ok (.iconst 5, 1) := by decide +kernel
theorem dX6_addEntry_202 : decode cX6_addEntry 202 = .ok (.aload_n 0, 1) := by decide +kernel
theorem dX6_addEntry_203 : decode cX6_addEntry 203 = .ok (.getfield 73, 3) := by decide +kernel
theorem dX6_addEntry_206 : decode cX6_addEntry 206 = .ok (.imul, 1) := by decide +kernel
theorem dX6_addEntry_207 : decode cX6_addEntry 207 = .ok (.iconst 5, 1) := by decide +kernel
theorem dX6_addEntry_208 : decode cX6_addEntry 208 = .ok (.invokestatic 49, 3) := by decide +kernel
theorem dX6_addEntry_211 : decode cX6_addEntry 211 = .ok (.aload_n 0, 1) := by decide +kernel
theorem dX6_addEntry_212 : decode cX6_addEntry 212 = .ok (.dup, 1) := by decide +kernel
theorem dX6_addEntry_213 : decode cX6_addEntry 213 = .ok (.getfield 73, 3) := by decide +kernel
theorem dX6_addEntry_216 : decode cX6_addEntry 216 = .ok (.iconst 1, 1) := by decide +kernel
theorem dX6_addEntry_217 : decode cX6_addEntry 217 = .ok (.iadd, 1) := by decide +kernel
theorem dX6_addEntry_218 : decode cX6_addEntry 218 = .ok (.putfield 73, 3) := by decide +kernel
theorem dX6_addEntry_221 : decode cX6_addEntry 221 = .ok (.aload_n 0, 1) := by decide +kernel
theorem dX6_addEntry_222 : decode cX6_addEntry 222 = .ok (.getfield 73, 3) := by decide +kernel
theorem dX6_addEntry_225 : decode cX6_addEntry 225 = .ok (.iconst 1, 1) := by decide +kernel
theorem dX6_addEntry_226 : decode cX6_addEntry 226 = .ok (.isub, 1) := by decide +kernel
theorem dX6_addEntry_227 : decode cX6_addEntry 227 = .ok (.ireturn, 1) := by decide +kernel
set_option maxRecDepth 20000 in
theorem ggX6_manyAt_X6_get : GoodIn wsX6_manyAt wsX6_get := goodIn_r _ [7, 8, 9, 10, 11, 12, 13, 14, 15, 16, 17, 18, 19, 20, 21, 22, 23, 24, 25] (by decide +kernel) (by decide +kernel)
set_option maxRecDepth 20000 in
theorem gX6_manyAt_X6_get : GoodIn wsX6_manyAt (wsV RX6 79 RX6 yX6_get wsX6_get) := goodIn_app (goodIn_of _ (by decide +kernel)) ggX6_manyAt_X6_get
theorem dX6_manyAt_0 : decode cX6_manyAt 0 = .ok (.iconst 0, 1) := by decide +kernel
theorem dX6_manyAt_1 : decode cX6_manyAt 1 = .ok (.istore_n 3, 1) := by decide +kernel
theorem dX6_manyAt_2 : decode cX6_manyAt 2 = .ok (.iconst 0, 1) := by decide +kernel
theorem dX6_manyAt_3 : decode cX6_manyAt 3 = .ok (.istore 4, 2) := by decide +kernel
theorem dX6_manyAt_5 : decode cX6_manyAt 5 = .ok (.iload 4, 2) := by decide +kernel
theorem dX6_manyAt_7 : decode cX6_manyAt 7 = .ok (.aload_n 0, 1) := by decide +kernel
theorem dX6_manyAt_8 : decode cX6_manyAt 8 = .ok (.getfield 76, 3) := by decide +kernel
theorem dX6_manyAt_11 : decode cX6_manyAt 11 = .ok (.if_icmp .ge 49, 3) := by decide +kernel
theorem dX6_manyAt_14 : decode cX6_manyAt 14 = .ok (.iload_n 3, 1) := by decide +kernel
theorem dX6_manyAt_15 : decode cX6_manyAt 15 = .ok (.aload_n 0, 1) := by decide +kernel
theorem dX6_manyAt_16 : decode cX6_manyAt 16 = .ok (.aload_n 0, 1) := by decide +kernel
theorem dX6_manyAt_17 : decode cX6_manyAt 17 = .ok (.getfield 22, 3) := by decide +kernel
theorem dX6_manyAt_20 : decode cX6_manyAt 20 = .ok (.iload 4, 2) := by decide +kernel
theorem dX6_manyAt_22 : decode cX6_manyAt 22 = .ok (.iaload, 1) := by decide +kernel
theorem dX6_manyAt_23 : decode cX6_manyAt 23 = .ok (.iconst 0, 1) := by decide +kernel
theorem dX6_manyAt_24 : decode cX6_manyAt 24 = .ok (.invokevirtual 79, 3) := by decide +kernel
theorem dX6_manyAt_27 : decode cX6_manyAt 27 = .ok (.iload_n 1, 1) := by decide +kernel
theorem dX6_manyAt_28 : decode cX6_manyAt 28 = .ok (.if_icmp .ne 23, 3) := by decide +kernel
theorem dX6_manyAt_31 : decode cX6_manyAt 31 = .ok (.aload_n 0, 1) := by decide +kernel
theorem dX6_manyAt_32 : decode cX6_manyAt 32 = .ok (.aload_n 0, 1) := by decide +kernel
theorem dX6_manyAt_33 : decode cX6_manyAt 33 = .ok (.getfield 22, 3) := by decide +kernel
theorem dX6_manyAt_36 : decode cX6_manyAt 36 = .ok (.iload 4, 2) := by decide +kernel
theorem dX6_manyAt_38 : decode cX6_manyAt 38 = .ok (.iaload, 1) := by decide +kernel
theorem dX6_manyAt_39 : decode cX6_manyAt 39 = .ok (.iconst 1, 1) := by decide +kernel
theorem dX6_manyAt_40 : decode cX6_manyAt 40 = .ok (.invokevirtual 79, 3) := by decide +kernel
theorem dX6_manyAt_43 : decode cX6_manyAt 43 = .ok (.iload_n 2, 1) := by decide +kernel
theorem dX6_manyAt_44 : decode cX6_manyAt 44 = .ok (.if_icmp .ne 7, 3) := by decide +kernel
theorem dX6_manyAt_47 : decode cX6_manyAt 47 = .ok (.iconst 1, 1) := by decide +kernel
theorem dX6_manyAt_48 : decode cX6_manyAt 48 = .ok (.goto 4, 3) := by decide +kernel
theorem dX6_manyAt_51 : decode cX6_manyAt 51 = .ok (.iconst 0, 1) := by decide +kernel
theorem dX6_manyAt_52 : decode cX6_manyAt 52 = .ok (.iadd, 1) := by decide +kernel
theorem dX6_manyAt_53 : decode cX6_manyAt 53 = .ok (.istore_n 3, 1) := by decide +kernel
theorem dX6_manyAt_54 : decode cX6_manyAt 54 = .ok (.iinc 4 1, 3) := by decide +kernel
theorem dX6_manyAt_57 : decode cX6_manyAt 57 = .ok (.goto (-52), 3) := by decide +kernel
theorem dX6_manyAt_60 : decode cX6_manyAt 60 = .ok (.iload_n 3, 1) := by decide +kernel
theorem dX6_manyAt_61 : decode cX6_manyAt 61 = .ok (.ireturn, 1) := by decide +kernel
set_option maxRecDepth 20000 in
theorem ggX6_put_X6_set : GoodIn wsX6_put wsX6_set := goodIn_r _ [7, 8, 9, 10, 11, 12, 13, 14, 15, 16, 17, 18, 19, 20, 21, 22, 23, 24, 25] (by decide +kernel) (by decide +kernel)
set_option maxRecDepth 20000 in
theorem gX6_put_X6_set : GoodIn wsX6_put (wsV RX6 82 RX6 yX6_set wsX6_set) := goodIn_app (goodIn_of _ (by decide +kernel)) ggX6_put_X6_set
theorem dX6_put_0 : decode cX6_put 0 = .ok (.aload_n 0, 1) := by decide +kernel
theorem dX6_put_1 : decode cX6_put 1 = .ok (.iload_n 1, 1) := by decide +kernel
theorem dX6_put_2 : decode cX6_put 2 = .ok (.iconst 0, 1) := by decide +kernel
theorem dX6_put_3 : decode cX6_put 3 = .ok (.iload_n 2, 1) := by decide +kernel
theorem dX6_put_4 : decode cX6_put 4 = .ok (.invokevirtual 82, 3) := by decide +kernel
theorem dX6_put_7 : decode cX6_put 7 = .ok (.aload_n 0, 1) := by decide +kernel
theorem dX6_put_8 : decode cX6_put 8 = .ok (.iload_n 1, 1) := by decide +kernel
theorem dX6_put_9 : decode cX6_put 9 = .ok (.iconst 1, 1) := by decide +kernel
theorem dX6_put_10 : decode cX6_put 10 = .ok (.iload_n 3, 1) := by decide +kernel
theorem dX6_put_11 : decode cX6_put 11 = .ok (.invokevirtual 82, 3) := by decide +kernel
theorem dX6_put_14 : decode cX6_put 14 = .ok (.aload_n 0, 1) := by decide +kernel
theorem dX6_put_15 : decode cX6_put 15 = .ok (.iload_n 1, 1) := by decide +kernel
theorem dX6_put_16 : decode cX6_put 16 = .ok (.iconst 5, 1) := by decide +kernel
theorem dX6_put_17 : decode cX6_put 17 = .ok (.aload_n 0, 1) := by decide +kernel
theorem dX6_put_18 : decode cX6_put 18 = .ok (.getfield 69, 3) := by decide +kernel
theorem dX6_put_21 : decode cX6_put 21 = .ok (.invokevirtual 82, 3) := by decide +kernel
theorem dX6_put_24 : decode cX6_put 24 = .ok (.aload_n 0, 1) := by decide +kernel
theorem dX6_put_25 : decode cX6_put 25 = .ok (.iload_n 1, 1) := by decide +kernel
theorem dX6_put_26 : decode cX6_put 26 = .ok (.bipush 7, 2) := by decide +kernel
theorem dX6_put_28 : decode cX6_put 28 = .ok (.aload_n 0, 1) := by decide +kernel
theorem dX6_put_29 : decode cX6_put 29 = .ok (.getfield 86, 3) := by decide +kernel
theorem dX6_put_32 : decode cX6_put 32 = .ok (.invokevirtual 82, 3) := by decide +kernel
theorem dX6_put_35 : decode cX6_put 35 = .ok (.aload_n 0, 1) := by decide +kernel
theorem dX6_put_36 : decode cX6_put 36 = .ok (.dup, 1) := by decide +kernel
theorem dX6_put_37 : decode cX6_put 37 = .ok (.getfield 86, 3) := by decide +kernel
theorem dX6_put_40 : decode cX6_put 40 = .ok (.iconst 1, 1) := by decide +kernel
theorem dX6_put_41 : decode cX6_put 41 = .ok (.iadd, 1) := by decide +kernel
theorem dX6_put_42 : decode cX6_put 42 = .ok (.putfield 86, 3) := by decide +kernel
theorem dX6_put_45 : decode cX6_put 45 = .ok (.return_, 1) := by decide +kernel
set_option maxRecDepth 20000 in
theorem ggX6_canSend_X6_manyAt : GoodIn wsX6_canSend wsX6_manyAt := goodIn_r _ [7, 1, 8, 9, 10, 11, 6, 12, 13, 19, 20, 21, 22, 23, 24, 25, 26, 27, 28, 29, 30, 31, 32, 33, 34, 35] (by decide +kernel) (by decide +kernel)
set_option maxRecDepth 20000 in
theorem gX6_canSend_X6_manyAt : GoodIn wsX6_canSend (wsV RX6 89 RX6 yX6_manyAt wsX6_manyAt) := goodIn_app (goodIn_of _ (by decide +kernel)) ggX6_canSend_X6_manyAt
set_option maxRecDepth 20000 in
theorem ggX6_canSend_X6_st : GoodIn wsX6_canSend wsX6_st := goodIn_r _ [17, 18, 19, 20, 21, 22, 23, 24, 25, 26, 27, 28, 29, 30, 31, 32, 33, 34, 35] (by decide +kernel) (by decide +kernel)
set_option maxRecDepth 20000 in
theorem gX6_canSend_X6_st : GoodIn wsX6_canSend (wsV RX6 59 RX6 yX6_st wsX6_st) := goodIn_app (goodIn_of _ (by decide +kernel)) ggX6_canSend_X6_st
theorem dX6_canSend_0 : decode cX6_canSend 0 = .ok (.aload_n 0, 1) := by decide +kernel
theorem dX6_canSend_1 : decode cX6_canSend 1 = .ok (.iconst 1, 1) := by decide +kernel
theorem dX6_canSend_2 : decode cX6_canSend 2 = .ok (.iload_n 1, 1) := by decide +kernel
theorem dX6_canSend_3 : decode cX6_canSend 3 = .ok (.invokevirtual 89, 3) := by decide +kernel
theorem dX6_canSend_6 : decode cX6_canSend 6 = .ok (.aload_n 0, 1) := by decide +kernel
theorem dX6_canSend_7 : decode cX6_canSend 7 = .ok (.iload_n 1, 1) := by decide +kernel
theorem dX6_canSend_8 : decode cX6_canSend 8 = .ok (.iconst 0, 1) := by decide +kernel
theorem dX6_canSend_9 : decode cX6_canSend 9 = .ok (.invokevirtual 59, 3) := by decide +kernel
theorem dX6_canSend_12 : decode cX6_canSend 12 = .ok (.if_icmp .ge 26, 3) := by decide +kernel
theorem dX6_canSend_15 : decode cX6_canSend 15 = .ok (.aload_n 0, 1) := by decide +kernel
theorem dX6_canSend_16 : decode cX6_canSend 16 = .ok (.getfield 76, 3) := by decide +kernel
theorem dX6_canSend_19 : decode cX6_canSend 19 = .ok (.bipush 40, 2) := by decide +kernel
theorem dX6_canSend_21 : decode cX6_canSend 21 = .ok (.if_icmp .ge 17, 3) := by decide +kernel
theorem dX6_canSend_24 : decode cX6_canSend 24 = .ok (.aload_n 0, 1) := by decide +kernel
theorem dX6_canSend_25 : decode cX6_canSend 25 = .ok (.getfield 92, 3) := by decide +kernel
theorem dX6_canSend_28 : decode cX6_canSend 28 = .ok (.sipush 500, 3) := by decide +kernel
theorem dX6_canSend_31 : decode cX6_canSend 31 = .ok (.if_icmp .ge 7, 3) := by decide +kernel
theorem dX6_canSend_34 : decode cX6_canSend 34 = .ok (.iconst 1, 1) := by decide +kernel
theorem dX6_canSend_35 : decode cX6_canSend 35 = .ok (.goto 4, 3) := by decide +kernel
theorem dX6_canSend_38 : decode cX6_canSend 38 = .ok (.iconst 0, 1) := by decide +kernel
theorem dX6_canSend_39 : decode cX6_canSend 39 = .ok (.ireturn, 1) := by decide +kernel
set_option maxRecDepth 20000 in
theorem ggX6_sendOff_X6_set : GoodIn wsX6_sendOff wsX6_set := goodIn_r _ [9, 10, 16, 17, 18, 19, 20, 21, 22, 23, 24, 25, 26, 27, 28, 29, 30, 31, 32] (by decide +kernel) (by decide +kernel)
set_option maxRecDepth 20000 in
theorem gX6_sendOff_X6_set : GoodIn wsX6_sendOff (wsV RX6 82 RX6 yX6_set wsX6_set) := goodIn_app (goodIn_of _ (by decide +kernel)) ggX6_sendOff_X6_set
set_option maxRecDepth 20000 in
theorem ggX6_sendOff_X6_put : GoodIn wsX6_sendOff wsX6_put := goodIn_r _ [14, 2, 15, 5, 6, 7, 8, 9, 10, 16, 17, 18, 19, 20, 21, 22, 23, 24, 25, 26, 27, 28, 29, 30, 31, 32] (by decide +kernel) (by decide +kernel)
set_option maxRecDepth 20000 in
theorem gX6_sendOff_X6_put : GoodIn wsX6_sendOff (wsV RX6 95 RX6 yX6_put wsX6_put) := goodIn_app (goodIn_of _ (by decide +kernel)) ggX6_sendOff_X6_put
theorem dX6_sendOff_0 : decode cX6_sendOff 0 = .ok (.aload_n 0, 1) := by decide +kernel
theorem dX6_sendOff_1 : decode cX6_sendOff 1 = .ok (.getfield 92, 3) := by decide +kernel
theorem dX6_sendOff_4 : decode cX6_sendOff 4 = .ok (.istore 4, 2) := by decide +kernel
theorem dX6_sendOff_6 : decode cX6_sendOff 6 = .ok (.aload_n 0, 1) := by decide +kernel
theorem dX6_sendOff_7 : decode cX6_sendOff 7 = .ok (.dup, 1) := by decide +kernel
theorem dX6_sendOff_8 : decode cX6_sendOff 8 = .ok (.getfield 92, 3) := by decide +kernel
theorem dX6_sendOff_11 : decode cX6_sendOff 11 = .ok (.iconst 1, 1) := by decide +kernel
theorem dX6_sendOff_12 : decode cX6_sendOff 12 = .ok (.iadd, 1) := by decide +kernel
theorem dX6_sendOff_13 : decode cX6_sendOff 13 = .ok (.putfield 92, 3) := by decide +kernel
theorem dX6_sendOff_16 : decode cX6_sendOff 16 = .ok (.aload_n 0, 1) := by decide +kernel
theorem dX6_sendOff_17 : decode cX6_sendOff 17 = .ok (.iload 4, 2) := by decide +kernel
theorem dX6_sendOff_19 : decode cX6_sendOff 19 = .ok (.iconst 2, 1) := by decide +kernel
theorem dX6_sendOff_20 : decode cX6_sendOff 20 = .ok (.iload_n 2, 1) := by decide +kernel
theorem dX6_sendOff_21 : decode cX6_sendOff 21 = .ok (.invokevirtual 82, 3) := by decide +kernel
theorem dX6_sendOff_24 : decode cX6_sendOff 24 = .ok (.aload_n 0, 1) := by decide +kernel
theorem dX6_sendOff_25 : decode cX6_sendOff 25 = .ok (.iload 4, 2) := by decide +kernel
theorem dX6_sendOff_27 : decode cX6_sendOff 27 = .ok (.iconst 3, 1) := by decide +kernel
theorem dX6_sendOff_28 : decode cX6_sendOff 28 = .ok (.iload_n 3, 1) := by decide +kernel
theorem dX6_sendOff_29 : decode cX6_sendOff 29 = .ok (.invokevirtual 82, 3) := by decide +kernel
theorem dX6_sendOff_32 : decode cX6_sendOff 32 = .ok (.aload_n 0, 1) := by decide +kernel
theorem dX6_sendOff_33 : decode cX6_sendOff 33 = .ok (.iload 4, 2) := by decide +kernel
theorem dX6_sendOff_35 : decode cX6_sendOff 35 = .ok (.iconst 4, 1) := by decide +kernel
theorem dX6_sendOff_36 : decode cX6_sendOff 36 = .ok (.aload_n 0, 1) := by decide +kernel
theorem dX6_sendOff_37 : decode cX6_sendOff 37 = .ok (.getfield 69, 3) := by decide +kernel
theorem dX6_sendOff_40 : decode cX6_sendOff 40 = .ok (.invokevirtual 82, 3) := by decide +kernel
theorem dX6_sendOff_43 : decode cX6_sendOff 43 = .ok (.aload_n 0, 1) := by decide +kernel
theorem dX6_sendOff_44 : decode cX6_sendOff 44 = .ok (.iload 4, 2) := by decide +kernel
theorem dX6_sendOff_46 : decode cX6_sendOff 46 = .ok (.bipush 6, 2) := by decide +kernel
theorem dX6_sendOff_48 : decode cX6_sendOff 48 = .ok (.iconst 0, 1) := by decide +kernel
theorem dX6_sendOff_49 : decode cX6_sendOff 49 = .ok (.invokevirtual 82, 3) := by decide +kernel
theorem dX6_sendOff_52 : decode cX6_sendOff 52 = .ok (.aload_n 0, 1) := by decide +kernel
theorem dX6_sendOff_53 : decode cX6_sendOff 53 = .ok (.iload 4, 2) := by decide +kernel
theorem dX6_sendOff_55 : decode cX6_sendOff 55 = .ok (.iconst 1, 1) := by decide +kernel
theorem dX6_sendOff_56 : decode cX6_sendOff 56 = .ok (.iload_n 1, 1) := by decide +kernel
theorem dX6_sendOff_57 : decode cX6_sendOff 57 = .ok (.invokevirtual 95, 3) := by decide +kernel
theorem dX6_sendOff_60 : decode cX6_sendOff 60 = .ok (.aload_n 0, 1) := by decide +kernel
theorem dX6_sendOff_61 : decode cX6_sendOff 61 = .ok (.getfield 22, 3) := by decide +kernel
theorem dX6_sendOff_64 : decode cX6_sendOff 64 = .ok (.aload_n 0, 1) := by decide +kernel
theorem dX6_sendOff_65 : decode cX6_sendOff 65 = .ok (.getfield 76, 3) := by decide +kernel
theorem dX6_sendOff_68 : decode cX6_sendOff 68 = .ok (.iload 4, 2) := by decide +kernel
theorem dX6_sendOff_70 : decode cX6_sendOff 70 = .ok (.iastore, 1) := by decide +kernel
theorem dX6_sendOff_71 : decode cX6_sendOff 71 = .ok (.aload_n 0, 1) := by decide +kernel
theorem dX6_sendOff_72 : decode cX6_sendOff 72 = .ok (.dup, 1) := by decide +kernel
theorem dX6_sendOff_73 : decode cX6_sendOff 73 = .ok (.getfield 76, 3) := by decide +kernel
theorem dX6_sendOff_76 : decode cX6_sendOff 76 = .ok (.iconst 1, 1) := by decide +kernel
theorem dX6_sendOff_77 : decode cX6_sendOff 77 = .ok (.iadd, 1) := by decide +kernel
theorem dX6_sendOff_78 : decode cX6_sendOff 78 = .ok (.putfield 76, 3) := by decide +kernel
theorem dX6_sendOff_81 : decode cX6_sendOff 81 = .ok (.return_, 1) := by decide +kernel
set_option maxRecDepth 20000 in
theorem ggX6_send_X6_isStation : GoodIn wsX6_send wsX6_isStation := goodIn_r _ [7, 8, 9, 10, 6, 11, 50, 51, 52, 53, 54, 55, 56, 57, 58, 59, 60, 61, 62, 63, 64, 65, 66] (by decide +kernel) (by decide +kernel)
set_option maxRecDepth 20000 in
theorem gX6_send_X6_isStation : GoodIn wsX6_send (wsV RX6 55 RX6 yX6_isStation wsX6_isStation) := goodIn_app (goodIn_of _ (by decide +kernel)) ggX6_send_X6_isStation
set_option maxRecDepth 20000 in
theorem ggX6_send_X6_fail : GoodIn wsX6_send wsX6_fail := goodIn_r _ [15, 1, 50, 51, 52, 53, 54, 55, 56, 57, 58, 59, 60, 61, 62, 63, 64, 65, 66] (by decide +kernel) (by decide +kernel)
set_option maxRecDepth 20000 in
theorem gX6_send_X6_fail : GoodIn wsX6_send (wsV RX6 45 RX6 yX6_fail wsX6_fail) := goodIn_app (goodIn_of _ (by decide +kernel)) ggX6_send_X6_fail
set_option maxRecDepth 20000 in
theorem ggX6_send_X6_isIn : GoodIn wsX6_send wsX6_isIn := goodIn_r _ [11] (by decide +kernel) (by decide +kernel)
set_option maxRecDepth 20000 in
theorem gX6_send_X6_isIn : GoodIn wsX6_send (va_wsS RX6 38 yX6_isIn wsX6_isIn) := goodIn_app (goodIn_of _ (by decide +kernel)) ggX6_send_X6_isIn
set_option maxRecDepth 20000 in
theorem ggX6_send_X6_canSend : GoodIn wsX6_send wsX6_canSend := goodIn_r _ [19, 20, 2, 21, 22, 23, 6, 24, 25, 26, 27, 28, 29, 30, 31, 32, 33, 34, 35, 50, 51, 52, 53, 54, 55, 56, 57, 58, 59, 60, 61, 62, 63, 64, 65, 66] (by decide +kernel) (by decide +kernel)
set_option maxRecDepth 20000 in
theorem gX6_send_X6_canSend : GoodIn wsX6_send (wsV RX6 98 RX6 yX6_canSend wsX6_canSend) := goodIn_app (goodIn_of _ (by decide +kernel)) ggX6_send_X6_canSend
set_option maxRecDepth 20000 in
theorem ggX6_send_X6_sendOff : GoodIn wsX6_send wsX6_sendOff := goodIn_r _ [39, 2, 40, 25, 20, 41, 42, 43, 6, 44, 30, 45, 46, 47, 48, 49, 50, 51, 52, 53, 54, 55, 56, 57, 58, 59, 60, 61, 62, 63, 64, 65, 66] (by decide +kernel) (by decide +kernel)
set_option maxRecDepth 20000 in
theorem gX6_send_X6_sendOff : GoodIn wsX6_send (wsV RX6 101 RX6 yX6_sendOff wsX6_sendOff) := goodIn_app (goodIn_of _ (by decide +kernel)) ggX6_send_X6_sendOff
theorem dX6_send_0 : decode cX6_send 0 = .ok (.aload_n 0, 1) := by decide +kernel
theorem dX6_send_1 : decode cX6_send 1 = .ok (.iconst 0, 1) := by decide +kernel
theorem dX6_send_2 : decode cX6_send 2 = .ok (.putfield 31, 3) := by decide +kernel
theorem dX6_send_5 : decode cX6_send 5 = .ok (.aload_n 0, 1) := by decide +kernel
theorem dX6_send_6 : decode cX6_send 6 = .ok (.iload_n 1, 1) := by decide +kernel
theorem dX6_send_7 : decode cX6_send 7 = .ok (.invokevirtual 55, 3) := by decide +kernel
theorem dX6_send_10 : decode cX6_send 10 = .ok (.ifCond .eq 11, 3) := by decide +kernel
theorem dX6_send_13 : decode cX6_send 13 = .ok (.aload_n 0, 1) := by decide +kernel
theorem dX6_send_14 : decode cX6_send 14 = .ok (.iload_n 2, 1) := by decide +kernel
theorem dX6_send_15 : decode cX6_send 15 = .ok (.invokevirtual 55, 3) := by decide +kernel
theorem dX6_send_18 : decode cX6_send 18 = .ok (.ifCond .ne 9, 3) := by decide +kernel
theorem dX6_send_21 : decode cX6_send 21 = .ok (.aload_n 0, 1) := by decide +kernel
theorem dX6_send_22 : decode cX6_send 22 = .ok (.iconst 1, 1) := by decide +kernel
theorem dX6_send_23 : decode cX6_send 23 = .ok (.invokevirtual 45, 3) := by decide +kernel
theorem dX6_send_26 : decode cX6_send 26 = .ok (.ireturn, 1) := by decide +kernel
theorem dX6_send_27 : decode cX6_send 27 = .ok (.iload_n 1, 1) := by decide +kernel
theorem dX6_send_28 : decode cX6_send 28 = .ok (.iload_n 2, 1) := by decide +kernel
theorem dX6_send_29 : decode cX6_send 29 = .ok (.if_icmp .eq 12, 3) := by decide +kernel
theorem dX6_send_32 : decode cX6_send 32 = .ok (.iload_n 3, 1) := by decide +kernel
theorem dX6_send_33 : decode cX6_send 33 = .ok (.iconst 0, 1) := by decide +kernel
theorem dX6_send_34 : decode cX6_send 34 = .ok (.iconst 3, 1) := by decide +kernel
theorem dX6_send_35 : decode cX6_send 35 = .ok (.invokestatic 38, 3) := by decide +kernel
theorem dX6_send_38 : decode cX6_send 38 = .ok (.ifCond .ne 9, 3) := by decide +kernel
theorem dX6_send_41 : decode cX6_send 41 = .ok (.aload_n 0, 1) := by decide +kernel
theorem dX6_send_42 : decode cX6_send 42 = .ok (.iconst 2, 1) := by decide +kernel
theorem dX6_send_43 : decode cX6_send 43 = .ok (.invokevirtual 45, 3) := by decide +kernel
theorem dX6_send_46 : decode cX6_send 46 = .ok (.ireturn, 1) := by decide +kernel
theorem dX6_send_47 : decode cX6_send 47 = .ok (.aload_n 0, 1) := by decide +kernel
theorem dX6_send_48 : decode cX6_send 48 = .ok (.iload_n 1, 1) := by decide +kernel
theorem dX6_send_49 : decode cX6_send 49 = .ok (.invokevirtual 98, 3) := by decide +kernel
theorem dX6_send_52 : decode cX6_send 52 = .ok (.ifCond .ne 9, 3) := by decide +kernel
theorem dX6_send_55 : decode cX6_send 55 = .ok (.aload_n 0, 1) := by decide +kernel
theorem dX6_send_56 : decode cX6_send 56 = .ok (.iconst 3, 1) := by decide +kernel
theorem dX6_send_57 : decode cX6_send 57 = .ok (.invokevirtual 45, 3) := by decide +kernel
theorem dX6_send_60 : decode cX6_send 60 = .ok (.ireturn, 1) := by decide +kernel
theorem dX6_send_61 : decode cX6_send 61 = .ok (.aload_n 0, 1) := by decide +kernel
theorem dX6_send_62 : decode cX6_send 62 = .ok (.iload_n 1, 1) := by decide +kernel
theorem dX6_send_63 : decode cX6_send 63 = .ok (.iload_n 2, 1) := by decide +kernel
theorem dX6_send_64 : decode cX6_send 64 = .ok (.iload_n 3, 1) := by decide +kernel
theorem dX6_send_65 : decode cX6_send 65 = .ok (.invokevirtual 101, 3) := by decide +kernel
theorem dX6_send_68 : decode cX6_send 68 = .ok (.aload_n 0, 1) := by decide +kernel
theorem dX6_send_69 : decode cX6_send 69 = .ok (.getfield 92, 3) := by decide +kernel
theorem dX6_send_72 : decode cX6_send 72 = .ok (.iconst 1, 1) := by decide +kernel
theorem dX6_send_73 : decode cX6_send 73 = .ok (.isub, 1) := by decide +kernel
theorem dX6_send_74 : decode cX6_send 74 = .ok (.ireturn, 1) := by decide +kernel
set_option maxRecDepth 20000 in
theorem ggX6_through_X6_tu : GoodIn wsX6_through wsX6_tu := goodIn_r _ [5, 6, 7, 8, 9, 10, 11, 12, 13, 14, 15, 16, 17, 18, 19, 20, 21, 22, 23] (by decide +kernel) (by decide +kernel)
set_option maxRecDepth 20000 in
theorem gX6_through_X6_tu : GoodIn wsX6_through (wsV RX6 66 RX6 yX6_tu wsX6_tu) := goodIn_app (goodIn_of _ (by decide +kernel)) ggX6_through_X6_tu
theorem dX6_through_0 : decode cX6_through 0 = .ok (.aload_n 0, 1) := by decide +kernel
theorem dX6_through_1 : decode cX6_through 1 = .ok (.iload_n 1, 1) := by decide +kernel
theorem dX6_through_2 : decode cX6_through 2 = .ok (.iconst 2, 1) := by decide +kernel
theorem dX6_through_3 : decode cX6_through 3 = .ok (.invokevirtual 66, 3) := by decide +kernel
theorem dX6_through_6 : decode cX6_through 6 = .ok (.aload_n 0, 1) := by decide +kernel
theorem dX6_through_7 : decode cX6_through 7 = .ok (.iload_n 1, 1) := by decide +kernel
theorem dX6_through_8 : decode cX6_through 8 = .ok (.iconst 3, 1) := by decide +kernel
theorem dX6_through_9 : decode cX6_through 9 = .ok (.invokevirtual 66, 3) := by decide +kernel
theorem dX6_through_12 : decode cX6_through 12 = .ok (.iadd, 1) := by decide +kernel
theorem dX6_through_13 : decode cX6_through 13 = .ok (.iconst 1, 1) := by decide +kernel
theorem dX6_through_14 : decode cX6_through 14 = .ok (.isub, 1) := by decide +kernel
theorem dX6_through_15 : decode cX6_through 15 = .ok (.aload_n 0, 1) := by decide +kernel
theorem dX6_through_16 : decode cX6_through 16 = .ok (.iload_n 1, 1) := by decide +kernel
theorem dX6_through_17 : decode cX6_through 17 = .ok (.iconst 3, 1) := by decide +kernel
theorem dX6_through_18 : decode cX6_through 18 = .ok (.invokevirtual 66, 3) := by decide +kernel
theorem dX6_through_21 : decode cX6_through 21 = .ok (.idiv, 1) := by decide +kernel
theorem dX6_through_22 : decode cX6_through 22 = .ok (.ireturn, 1) := by decide +kernel
set_option maxRecDepth 20000 in
theorem ggX6_timeBy_X6_tu : GoodIn wsX6_timeBy wsX6_tu := goodIn_r _ [6, 7, 17, 18, 19, 20, 21, 22, 23, 24, 25, 26, 27, 28, 29, 30, 31, 32, 33] (by decide +kernel) (by decide +kernel)
set_option maxRecDepth 20000 in
theorem gX6_timeBy_X6_tu : GoodIn wsX6_timeBy (wsV RX6 66 RX6 yX6_tu wsX6_tu) := goodIn_app (goodIn_of _ (by decide +kernel)) ggX6_timeBy_X6_tu
set_option maxRecDepth 20000 in
theorem ggX6_timeBy_X6_through : GoodIn wsX6_timeBy wsX6_through := goodIn_r _ [11, 2, 3, 4, 5, 6, 7, 17, 18, 19, 20, 21, 22, 23, 24, 25, 26, 27, 28, 29, 30, 31, 32, 33] (by decide +kernel) (by decide +kernel)
set_option maxRecDepth 20000 in
theorem gX6_timeBy_X6_through : GoodIn wsX6_timeBy (wsV RX6 104 RX6 yX6_through wsX6_through) := goodIn_app (goodIn_of _ (by decide +kernel)) ggX6_timeBy_X6_through
set_option maxRecDepth 20000 in
theorem ggX6_timeBy_X6_st : GoodIn wsX6_timeBy wsX6_st := goodIn_r _ [15, 16, 17, 18, 19, 20, 21, 22, 23, 24, 25, 26, 27, 28, 29, 30, 31, 32, 33] (by decide +kernel) (by decide +kernel)
set_option maxRecDepth 20000 in
theorem gX6_timeBy_X6_st : GoodIn wsX6_timeBy (wsV RX6 59 RX6 yX6_st wsX6_st) := goodIn_app (goodIn_of _ (by decide +kernel)) ggX6_timeBy_X6_st
theorem dX6_timeBy_0 : decode cX6_timeBy 0 = .ok (.aload_n 0, 1) := by decide +kernel
theorem dX6_timeBy_1 : decode cX6_timeBy 1 = .ok (.iload_n 1, 1) := by decide +kernel
theorem dX6_timeBy_2 : decode cX6_timeBy 2 = .ok (.iconst 1, 1) := by decide +kernel
theorem dX6_timeBy_3 : decode cX6_timeBy 3 = .ok (.invokevirtual 66, 3) := by decide +kernel
theorem dX6_timeBy_6 : decode cX6_timeBy 6 = .ok (.istore_n 3, 1) := by decide +kernel
theorem dX6_timeBy_7 : decode cX6_timeBy 7 = .ok (.aload_n 0, 1) := by decide +kernel
theorem dX6_timeBy_8 : decode cX6_timeBy 8 = .ok (.iload_n 1, 1) := by decide +kernel
theorem dX6_timeBy_9 : decode cX6_timeBy 9 = .ok (.iconst 5, 1) := by decide +kernel
theorem dX6_timeBy_10 : decode cX6_timeBy 10 = .ok (.invokevirtual 66, 3) := by decide +kernel
theorem dX6_timeBy_13 : decode cX6_timeBy 13 = .ok (.ifCond .eq 13, 3) := by decide +kernel
theorem dX6_timeBy_16 : decode cX6_timeBy 16 = .ok (.aload_n 0, 1) := by decide +kernel
theorem dX6_timeBy_17 : decode cX6_timeBy 17 = .ok (.getfield 25, 3) := by decide +kernel
theorem dX6_timeBy_20 : decode cX6_timeBy 20 = .ok (.iload_n 3, 1) := by decide +kernel
theorem dX6_timeBy_21 : decode cX6_timeBy 21 = .ok (.iaload, 1) := by decide +kernel
theorem dX6_timeBy_22 : decode cX6_timeBy 22 = .ok (.iconst (-1), 1) := by decide +kernel
theorem dX6_timeBy_23 : decode cX6_timeBy 23 = .ok (.if_icmp .ne 5, 3) := by decide +kernel
theorem dX6_timeBy_26 : decode cX6_timeBy 26 = .ok (.iconst (-1), 1) := by decide +kernel
theorem dX6_timeBy_27 : decode cX6_timeBy 27 = .ok (.ireturn, 1) := by decide +kernel
theorem dX6_timeBy_28 : decode cX6_timeBy 28 = .ok (.aload_n 0, 1) := by decide +kernel
theorem dX6_timeBy_29 : decode cX6_timeBy 29 = .ok (.iload_n 1, 1) := by decide +kernel
theorem dX6_timeBy_30 : decode cX6_timeBy 30 = .ok (.invokevirtual 104, 3) := by decide +kernel
theorem dX6_timeBy_33 : decode cX6_timeBy 33 = .ok (.aload_n 0, 1) := by decide +kernel
theorem dX6_timeBy_34 : decode cX6_timeBy 34 = .ok (.getfield 25, 3) := by decide +kernel
theorem dX6_timeBy_37 : decode cX6_timeBy 37 = .ok (.iload_n 3, 1) := by decide +kernel
theorem dX6_timeBy_38 : decode cX6_timeBy 38 = .ok (.iaload, 1) := by decide +kernel
theorem dX6_timeBy_39 : decode cX6_timeBy 39 = .ok (.iadd, 1) := by decide +kernel
theorem dX6_timeBy_40 : decode cX6_timeBy 40 = .ok (.iload_n 3, 1) := by decide +kernel
theorem dX6_timeBy_41 : decode cX6_timeBy 41 = .ok (.iload_n 2, 1) := by decide +kernel
theorem dX6_timeBy_42 : decode cX6_timeBy 42 = .ok (.if_icmp .ne 7, 3) := by decide +kernel
theorem dX6_timeBy_45 : decode cX6_timeBy 45 = .ok (.iconst 0, 1) := by decide +kernel
theorem dX6_timeBy_46 : decode cX6_timeBy 46 = .ok (.goto 9, 3) := by decide +kernel
theorem dX6_timeBy_49 : decode cX6_timeBy 49 = .ok (.aload_n 0, 1) := by decide +kernel
theorem dX6_timeBy_50 : decode cX6_timeBy 50 = .ok (.iload_n 3, 1) := by decide +kernel
theorem dX6_timeBy_51 : decode cX6_timeBy 51 = .ok (.iconst 1, 1) := by decide +kernel
theorem dX6_timeBy_52 : decode cX6_timeBy 52 = .ok (.invokevirtual 59, 3) := by decide +kernel
theorem dX6_timeBy_55 : decode cX6_timeBy 55 = .ok (.iadd, 1) := by decide +kernel
theorem dX6_timeBy_56 : decode cX6_timeBy 56 = .ok (.ireturn, 1) := by decide +kernel
set_option maxRecDepth 20000 in
theorem ggX6_findTimes_X6_tu : GoodIn wsX6_findTimes wsX6_tu := goodIn_r _ [8, 9, 23, 24, 25, 26, 27, 28, 29, 30, 31, 32, 33, 34, 35, 36, 37, 38, 39] (by decide +kernel) (by decide +kernel)
set_option maxRecDepth 20000 in
theorem gX6_findTimes_X6_tu : GoodIn wsX6_findTimes (wsV RX6 66 RX6 yX6_tu wsX6_tu) := goodIn_app (goodIn_of _ (by decide +kernel)) ggX6_findTimes_X6_tu
set_option maxRecDepth 20000 in
theorem ggX6_findTimes_X6_timeBy : GoodIn wsX6_findTimes wsX6_timeBy := goodIn_r _ [13, 2, 4, 5, 6, 7, 8, 9, 14, 15, 16, 17, 18, 19, 20, 21, 22, 23, 24, 25, 26, 27, 28, 29, 30, 31, 32, 33, 34, 35, 36, 37, 38, 39] (by decide +kernel) (by decide +kernel)
set_option maxRecDepth 20000 in
theorem gX6_findTimes_X6_timeBy : GoodIn wsX6_findTimes (wsV RX6 107 RX6 yX6_timeBy wsX6_timeBy) := goodIn_app (goodIn_of _ (by decide +kernel)) ggX6_findTimes_X6_timeBy
theorem dX6_findTimes_0 : decode cX6_findTimes 0 = .ok (.iconst 0, 1) := by decide +kernel
theorem dX6_findTimes_1 : decode cX6_findTimes 1 = .ok (.istore_n 2, 1) := by decide +kernel
theorem dX6_findTimes_2 : decode cX6_findTimes 2 = .ok (.iload_n 2, 1) := by decide +kernel
theorem dX6_findTimes_3 : decode cX6_findTimes 3 = .ok (.aload_n 0, 1) := by decide +kernel
theorem dX6_findTimes_4 : decode cX6_findTimes 4 = .ok (.getfield 35, 3) := by decide +kernel
theorem dX6_findTimes_7 : decode cX6_findTimes 7 = .ok (.if_icmp .ge 25, 3) := by decide +kernel
theorem dX6_findTimes_10 : decode cX6_findTimes 10 = .ok (.aload_n 0, 1) := by decide +kernel
theorem dX6_findTimes_11 : decode cX6_findTimes 11 = .ok (.getfield 25, 3) := by decide +kernel
theorem dX6_findTimes_14 : decode cX6_findTimes 14 = .ok (.iload_n 2, 1) := by decide +kernel
theorem dX6_findTimes_15 : decode cX6_findTimes 15 = .ok (.iload_n 2, 1) := by decide +kernel
theorem dX6_findTimes_16 : decode cX6_findTimes 16 = .ok (.iload_n 1, 1) := by decide +kernel
theorem dX6_findTimes_17 : decode cX6_findTimes 17 = .ok (.if_icmp .ne 7, 3) := by decide +kernel
theorem dX6_findTimes_20 : decode cX6_findTimes 20 = .ok (.iconst 0, 1) := by decide +kernel
theorem dX6_findTimes_21 : decode cX6_findTimes 21 = .ok (.goto 4, 3) := by decide +kernel
theorem dX6_findTimes_24 : decode cX6_findTimes 24 = .ok (.iconst (-1), 1) := by decide +kernel
theorem dX6_findTimes_25 : decode cX6_findTimes 25 = .ok (.iastore, 1) := by decide +kernel
theorem dX6_findTimes_26 : decode cX6_findTimes 26 = .ok (.iinc 2 1, 3) := by decide +kernel
theorem dX6_findTimes_29 : decode cX6_findTimes 29 = .ok (.goto (-27), 3) := by decide +kernel
theorem dX6_findTimes_32 : decode cX6_findTimes 32 = .ok (.iconst 1, 1) := by decide +kernel
theorem dX6_findTimes_33 : decode cX6_findTimes 33 = .ok (.istore_n 2, 1) := by decide +kernel
theorem dX6_findTimes_34 : decode cX6_findTimes 34 = .ok (.iload_n 2, 1) := by decide +kernel
theorem dX6_findTimes_35 : decode cX6_findTimes 35 = .ok (.ifCond .eq 83, 3) := by decide +kernel
theorem dX6_findTimes_38 : decode cX6_findTimes 38 = .ok (.iconst 0, 1) := by decide +kernel
theorem dX6_findTimes_39 : decode cX6_findTimes 39 = .ok (.istore_n 2, 1) := by decide +kernel
theorem dX6_findTimes_40 : decode cX6_findTimes 40 = .ok (.iconst 0, 1) := by decide +kernel
theorem dX6_findTimes_41 : decode cX6_findTimes 41 = .ok (.istore_n 3, 1) := by decide +kernel
theorem dX6_findTimes_42 : decode cX6_findTimes 42 = .ok (.iload_n 3, 1) := by decide +kernel
theorem dX6_findTimes_43 : decode cX6_findTimes 43 = .ok (.aload_n 0, 1) := by decide +kernel
theorem dX6_findTimes_44 : decode cX6_findTimes 44 = .ok (.getfield 42, 3) := by decide +kernel
theorem dX6_findTimes_47 : decode cX6_findTimes 47 = .ok (.if_icmp .ge 68, 3) := by decide +kernel
theorem dX6_findTimes_50 : decode cX6_findTimes 50 = .ok (.aload_n 0, 1) := by decide +kernel
theorem dX6_findTimes_51 : decode cX6_findTimes 51 = .ok (.iload_n 3, 1) := by decide +kernel
theorem dX6_findTimes_52 : decode cX6_findTimes 52 = .ok (.iconst 0, 1) := by decide +kernel
theorem dX6_findTimes_53 : decode cX6_findTimes 53 = .ok (.invokevirtual 66, 3) := by decide +kernel
theorem dX6_findTimes_56 : decode cX6_findTimes 56 = .ok (.istore 4, 2) := by decide +kernel
theorem dX6_findTimes_58 : decode cX6_findTimes 58 = .ok (.aload_n 0, 1) := by decide +kernel
theorem dX6_findTimes_59 : decode cX6_findTimes 59 = .ok (.iload_n 3, 1) := by decide +kernel
theorem dX6_findTimes_60 : decode cX6_findTimes 60 = .ok (.iload_n 1, 1) := by decide +kernel
theorem dX6_findTimes_61 : decode cX6_findTimes 61 = .ok (.invokevirtual 107, 3) := by decide +kernel
theorem dX6_findTimes_64 : decode cX6_findTimes 64 = .ok (.istore 5, 2) := by decide +kernel
theorem dX6_findTimes_66 : decode cX6_findTimes 66 = .ok (.iload 5, 2) := by decide +kernel
theorem dX6_findTimes_68 : decode cX6_findTimes 68 = .ok (.iconst (-1), 1) := by decide +kernel
theorem dX6_findTimes_69 : decode cX6_findTimes 69 = .ok (.if_icmp .eq 40, 3) := by decide +kernel
theorem dX6_findTimes_72 : decode cX6_findTimes 72 = .ok (.aload_n 0, 1) := by decide +kernel
theorem dX6_findTimes_73 : decode cX6_findTimes 73 = .ok (.getfield 25, 3) := by decide +kernel
theorem dX6_findTimes_76 : decode cX6_findTimes 76 = .ok (.iload 4, 2) := by decide +kernel
theorem dX6_findTimes_78 : decode cX6_findTimes 78 = .ok (.iaload, 1) := by decide +kernel
theorem dX6_findTimes_79 : decode cX6_findTimes 79 = .ok (.iconst (-1), 1) := by decide +kernel
theorem dX6_findTimes_80 : decode cX6_findTimes 80 = .ok (.if_icmp .eq 18, 3) := by decide +kernel
theorem dX6_findTimes_83 : decode cX6_findTimes 83 = .ok (.aload_n 0, 1) := by decide +kernel
theorem dX6_findTimes_84 : decode cX6_findTimes 84 = .ok (.getfield 25, 3) := by decide +kernel
theorem dX6_findTimes_87 : decode cX6_findTimes 87 = .ok (.iload 4, 2) := by decide +kernel
theorem dX6_findTimes_89 : decode cX6_findTimes 89 = .ok (.iaload, 1) := by decide +kernel
theorem dX6_findTimes_90 : decode cX6_findTimes 90 = .ok (.iload 5, 2) := by decide +kernel
theorem dX6_findTimes_92 : decode cX6_findTimes 92 = .ok (.if_icmp .gt 6, 3) := by decide +kernel
theorem dX6_findTimes_95 : decode cX6_findTimes 95 = .ok (.goto 14, 3) := by decide +kernel
theorem dX6_findTimes_98 : decode cX6_findTimes 98 = .ok (.aload_n 0, 1) := by decide +kernel
theorem dX6_findTimes_99 : decode cX6_findTimes 99 = .ok (.getfield 25, 3) := by decide +kernel
theorem dX6_findTimes_102 : decode cX6_findTimes 102 = .ok (.iload 4, 2) := by decide +kernel
theorem dX6_findTimes_104 : decode cX6_findTimes 104 = .ok (.iload 5, 2) := by decide +kernel
theorem dX6_findTimes_106 : decode cX6_findTimes 106 = .ok (.iastore, 1) := by decide +kernel
theorem dX6_findTimes_107 : decode cX6_findTimes 107 = .ok (.iconst 1, 1) := by decide +kernel
theorem dX6_findTimes_108 : decode cX6_findTimes 108 = .ok (.istore_n 2, 1) := by decide +kernel
theorem dX6_findTimes_109 : decode cX6_findTimes 109 = .ok (.iinc 3 1, 3) := by decide +kernel
theorem dX6_findTimes_112 : decode cX6_findTimes 112 = .ok (.goto (-70), 3) := by decide +kernel
theorem dX6_findTimes_115 : decode cX6_findTimes 115 = .ok (.goto (-81), 3) := by decide +kernel
theorem dX6_findTimes_118 : decode cX6_findTimes 118 = .ok (.return_, 1) := by decide +kernel
set_option maxRecDepth 20000 in
theorem ggX6_chosen_X6_st : GoodIn wsX6_chosen wsX6_st := goodIn_r _ [5, 6, 27, 28, 29, 30, 31, 32, 33, 34, 35, 36, 37, 38, 39, 40, 41, 42, 43] (by decide +kernel) (by decide +kernel)
set_option maxRecDepth 20000 in
theorem gX6_chosen_X6_st : GoodIn wsX6_chosen (wsV RX6 59 RX6 yX6_st wsX6_st) := goodIn_app (goodIn_of _ (by decide +kernel)) ggX6_chosen_X6_st
set_option maxRecDepth 20000 in
theorem ggX6_chosen_X6_findTimes : GoodIn wsX6_chosen wsX6_findTimes := goodIn_r _ [10, 11, 12, 13, 14, 15, 16, 4, 17, 18, 19, 20, 21, 22, 23, 24, 25, 26, 1, 2, 3, 5, 6, 27, 28, 29, 30, 31, 32, 33, 34, 35, 36, 37, 38, 39, 40, 41, 42, 43] (by decide +kernel) (by decide +kernel)
set_option maxRecDepth 20000 in
theorem gX6_chosen_X6_findTimes : GoodIn wsX6_chosen (wsV RX6 110 RX6 yX6_findTimes wsX6_findTimes) := goodIn_app (goodIn_of _ (by decide +kernel)) ggX6_chosen_X6_findTimes
set_option maxRecDepth 20000 in
theorem ggX6_chosen_X6_timeBy : GoodIn wsX6_chosen wsX6_timeBy := goodIn_r _ [22, 12, 14, 15, 16, 4, 17, 18, 23, 24, 25, 26, 1, 2, 3, 5, 6, 27, 28, 29, 30, 31, 32, 33, 34, 35, 36, 37, 38, 39, 40, 41, 42, 43] (by decide +kernel) (by decide +kernel)
set_option maxRecDepth 20000 in
theorem gX6_chosen_X6_timeBy : GoodIn wsX6_chosen (wsV RX6 107 RX6 yX6_timeBy wsX6_timeBy) := goodIn_app (goodIn_of _ (by decide +kernel)) ggX6_chosen_X6_timeBy
theorem dX6_chosen_0 : decode cX6_chosen 0 = .ok (.aload_n 0, 1) := by decide +kernel
theorem dX6_chosen_1 : decode cX6_chosen 1 = .ok (.iload_n 1, 1) := by decide +kernel
theorem dX6_chosen_2 : decode cX6_chosen 2 = .ok (.iconst 3, 1) := by decide +kernel
theorem dX6_chosen_3 : decode cX6_chosen 3 = .ok (.invokevirtual 59, 3) := by decide +kernel
theorem dX6_chosen_6 : decode cX6_chosen 6 = .ok (.iconst (-1), 1) := by decide +kernel
theorem dX6_chosen_7 : decode cX6_chosen 7 = .ok (.if_icmp .eq 10, 3) := by decide +kernel
theorem dX6_chosen_10 : decode cX6_chosen 10 = .ok (.aload_n 0, 1) := by decide +kernel
theorem dX6_chosen_11 : decode cX6_chosen 11 = .ok (.iload_n 1, 1) := by decide +kernel
theorem dX6_chosen_12 : decode cX6_chosen 12 = .ok (.iconst 3, 1) := by decide +kernel
theorem dX6_chosen_13 : decode cX6_chosen 13 = .ok (.invokevirtual 59, 3) := by decide +kernel
theorem dX6_chosen_16 : decode cX6_chosen 16 = .ok (.ireturn, 1) := by decide +kernel
theorem dX6_chosen_17 : decode cX6_chosen 17 = .ok (.aload_n 0, 1) := by decide +kernel
theorem dX6_chosen_18 : decode cX6_chosen 18 = .ok (.iload_n 2, 1) := by decide +kernel
theorem dX6_chosen_19 : decode cX6_chosen 19 = .ok (.invokevirtual 110, 3) := by decide +kernel
theorem dX6_chosen_22 : decode cX6_chosen 22 = .ok (.iconst (-1), 1) := by decide +kernel
theorem dX6_chosen_23 : decode cX6_chosen 23 = .ok (.istore_n 3, 1) := by decide +kernel
theorem dX6_chosen_24 : decode cX6_chosen 24 = .ok (.iconst 0, 1) := by decide +kernel
theorem dX6_chosen_25 : decode cX6_chosen 25 = .ok (.istore 4, 2) := by decide +kernel
theorem dX6_chosen_27 : decode cX6_chosen 27 = .ok (.iconst 0, 1) := by decide +kernel
theorem dX6_chosen_28 : decode cX6_chosen 28 = .ok (.istore 5, 2) := by decide +kernel
theorem dX6_chosen_30 : decode cX6_chosen 30 = .ok (.iload 5, 2) := by decide +kernel
theorem dX6_chosen_32 : decode cX6_chosen 32 = .ok (.aload_n 0, 1) := by decide +kernel
theorem dX6_chosen_33 : decode cX6_chosen 33 = .ok (.iload_n 1, 1) := by decide +kernel
theorem dX6_chosen_34 : decode cX6_chosen 34 = .ok (.iconst 2, 1) := by decide +kernel
theorem dX6_chosen_35 : decode cX6_chosen 35 = .ok (.invokevirtual 59, 3) := by decide +kernel
theorem dX6_chosen_38 : decode cX6_chosen 38 = .ok (.if_icmp .ge 53, 3) := by decide +kernel
theorem dX6_chosen_41 : decode cX6_chosen 41 = .ok (.aload_n 0, 1) := by decide +kernel
theorem dX6_chosen_42 : decode cX6_chosen 42 = .ok (.aload_n 0, 1) := by decide +kernel
theorem dX6_chosen_43 : decode cX6_chosen 43 = .ok (.iload_n 1, 1) := by decide +kernel
theorem dX6_chosen_44 : decode cX6_chosen 44 = .ok (.iconst 5, 1) := by decide +kernel
theorem dX6_chosen_45 : decode cX6_chosen 45 = .ok (.iload 5, 2) := by decide +kernel
theorem dX6_chosen_47 : decode cX6_chosen 47 = .ok (.iadd, 1) := by decide +kernel
theorem dX6_chosen_48 : decode cX6_chosen 48 = .ok (.invokevirtual 59, 3) := by decide +kernel
theorem dX6_chosen_51 : decode cX6_chosen 51 = .ok (.iload_n 2, 1) := by decide +kernel
theorem dX6_chosen_52 : decode cX6_chosen 52 = .ok (.invokevirtual 107, 3) := by decide +kernel
theorem dX6_chosen_55 : decode cX6_chosen 55 = .ok (.istore 6, 2) := by decide +kernel
theorem dX6_chosen_57 : decode cX6_chosen 57 = .ok (.iload 6, 2) := by decide +kernel
theorem dX6_chosen_59 : decode cX6_chosen 59 = .ok (.iconst (-1), 1) := by decide +kernel
theorem dX6_chosen_60 : decode cX6_chosen 60 = .ok (.if_icmp .eq 25, 3) := by decide +kernel
theorem dX6_chosen_63 : decode cX6_chosen 63 = .ok (.iload_n 3, 1) := by decide +kernel
theorem dX6_chosen_64 : decode cX6_chosen 64 = .ok (.iconst (-1), 1) := by decide +kernel
theorem dX6_chosen_65 : decode cX6_chosen 65 = .ok (.if_icmp .eq 13, 3) := by decide +kernel
theorem dX6_chosen_68 : decode cX6_chosen 68 = .ok (.iload 6, 2) := by decide +kernel
theorem dX6_chosen_70 : decode cX6_chosen 70 = .ok (.iload 4, 2) := by decide +kernel
theorem dX6_chosen_72 : decode cX6_chosen 72 = .ok (.if_icmp .lt 6, 3) := by decide +kernel
theorem dX6_chosen_75 : decode cX6_chosen 75 = .ok (.goto 10, 3) := by decide +kernel
theorem dX6_chosen_78 : decode cX6_chosen 78 = .ok (.iload 5, 2) := by decide +kernel
theorem dX6_chosen_80 : decode cX6_chosen 80 = .ok (.istore_n 3, 1) := by decide +kernel
theorem dX6_chosen_81 : decode cX6_chosen 81 = .ok (.iload 6, 2) := by decide +kernel
theorem dX6_chosen_83 : decode cX6_chosen 83 = .ok (.istore 4, 2) := by decide +kernel
theorem dX6_chosen_85 : decode cX6_chosen 85 = .ok (.iinc 5 1, 3) := by decide +kernel
theorem dX6_chosen_88 : decode cX6_chosen 88 = .ok (.goto (-58), 3) := by decide +kernel
theorem dX6_chosen_91 : decode cX6_chosen 91 = .ok (.iload_n 3, 1) := by decide +kernel
theorem dX6_chosen_92 : decode cX6_chosen 92 = .ok (.ireturn, 1) := by decide +kernel
set_option maxRecDepth 20000 in
theorem ggX6_clock_X6_canSend : GoodIn wsX6_clock wsX6_canSend := goodIn_r _ [10, 11, 12, 13, 14, 15, 9, 16, 17, 18, 19, 20, 21, 22, 23, 24, 25, 26, 4, 40, 41, 42, 43, 44, 45, 46, 47, 48, 49, 50, 51, 52, 53, 54, 55, 56] (by decide +kernel) (by decide +kernel)
set_option maxRecDepth 20000 in
theorem gX6_clock_X6_canSend : GoodIn wsX6_clock (wsV RX6 98 RX6 yX6_canSend wsX6_canSend) := goodIn_app (goodIn_of _ (by decide +kernel)) ggX6_clock_X6_canSend
set_option maxRecDepth 20000 in
theorem ggX6_clock_X6_sendOff : GoodIn wsX6_clock wsX6_sendOff := goodIn_r _ [30, 12, 3, 17, 11, 31, 32, 33, 9, 34, 22, 35, 36, 37, 38, 39, 40, 41, 42, 43, 44, 45, 46, 47, 48, 49, 50, 51, 52, 53, 54, 55, 56] (by decide +kernel) (by decide +kernel)
set_option maxRecDepth 20000 in
theorem gX6_clock_X6_sendOff : GoodIn wsX6_clock (wsV RX6 101 RX6 yX6_sendOff wsX6_sendOff) := goodIn_app (goodIn_of _ (by decide +kernel)) ggX6_clock_X6_sendOff
theorem dX6_clock_0 : decode cX6_clock 0 = .ok (.iconst 0, 1) := by decide +kernel
theorem dX6_clock_1 : decode cX6_clock 1 = .ok (.istore_n 1, 1) := by decide +kernel
theorem dX6_clock_2 : decode cX6_clock 2 = .ok (.iload_n 1, 1) := by decide +kernel
theorem dX6_clock_3 : decode cX6_clock 3 = .ok (.aload_n 0, 1) := by decide +kernel
theorem dX6_clock_4 : decode cX6_clock 4 = .ok (.getfield 73, 3) := by decide +kernel
theorem dX6_clock_7 : decode cX6_clock 7 = .ok (.if_icmp .ge 169, 3) := by decide +kernel
theorem dX6_clock_10 : decode cX6_clock 10 = .ok (.aload_n 0, 1) := by decide +kernel
theorem dX6_clock_11 : decode cX6_clock 11 = .ok (.getfield 16, 3) := by decide +kernel
theorem dX6_clock_14 : decode cX6_clock 14 = .ok (.iconst 5, 1) := by decide +kernel
theorem dX6_clock_15 : decode cX6_clock 15 = .ok (.iload_n 1, 1) := by decide +kernel
theorem dX6_clock_16 : decode cX6_clock 16 = .ok (.imul, 1) := by decide +kernel
theorem dX6_clock_17 : decode cX6_clock 17 = .ok (.iaload, 1) := by decide +kernel
theorem dX6_clock_18 : decode cX6_clock 18 = .ok (.istore_n 2, 1) := by decide +kernel
theorem dX6_clock_19 : decode cX6_clock 19 = .ok (.aload_n 0, 1) := by decide +kernel
theorem dX6_clock_20 : decode cX6_clock 20 = .ok (.getfield 16, 3) := by decide +kernel
theorem dX6_clock_23 : decode cX6_clock 23 = .ok (.iconst 5, 1) := by decide +kernel
theorem dX6_clock_24 : decode cX6_clock 24 = .ok (.iload_n 1, 1) := by decide +kernel
theorem dX6_clock_25 : decode cX6_clock 25 = .ok (.imul, 1) := by decide +kernel
theorem dX6_clock_26 : decode cX6_clock 26 = .ok (.iconst 1, 1) := by decide +kernel
theorem dX6_clock_27 : decode cX6_clock 27 = .ok (.iadd, 1) := by decide +kernel
theorem dX6_clock_28 : decode cX6_clock 28 = .ok (.iaload, 1) := by decide +kernel
theorem dX6_clock_29 : decode cX6_clock 29 = .ok (.istore_n 3, 1) := by decide +kernel
theorem dX6_clock_30 : decode cX6_clock 30 = .ok (.aload_n 0, 1) := by decide +kernel
theorem dX6_clock_31 : decode cX6_clock 31 = .ok (.getfield 69, 3) := by decide +kernel
theorem dX6_clock_34 : decode cX6_clock 34 = .ok (.iload_n 2, 1) := by decide +kernel
theorem dX6_clock_35 : decode cX6_clock 35 = .ok (.if_icmp .eq 29, 3) := by decide +kernel
theorem dX6_clock_38 : decode cX6_clock 38 = .ok (.iload_n 3, 1) := by decide +kernel
theorem dX6_clock_39 : decode cX6_clock 39 = .ok (.ifCond .eq 131, 3) := by decide +kernel
theorem dX6_clock_42 : decode cX6_clock 42 = .ok (.aload_n 0, 1) := by decide +kernel
theorem dX6_clock_43 : decode cX6_clock 43 = .ok (.getfield 69, 3) := by decide +kernel
theorem dX6_clock_46 : decode cX6_clock 46 = .ok (.iload_n 2, 1) := by decide +kernel
theorem dX6_clock_47 : decode cX6_clock 47 = .ok (.if_icmp .lt 123, 3) := by decide +kernel
theorem dX6_clock_50 : decode cX6_clock 50 = .ok (.aload_n 0, 1) := by decide +kernel
theorem dX6_clock_51 : decode cX6_clock 51 = .ok (.getfield 69, 3) := by decide +kernel
theorem dX6_clock_54 : decode cX6_clock 54 = .ok (.iload_n 2, 1) := by decide +kernel
theorem dX6_clock_55 : decode cX6_clock 55 = .ok (.isub, 1) := by decide +kernel
theorem dX6_clock_56 : decode cX6_clock 56 = .ok (.iload_n 3, 1) := by decide +kernel
theorem dX6_clock_57 : decode cX6_clock 57 = .ok (.irem, 1) := by decide +kernel
theorem dX6_clock_58 : decode cX6_clock 58 = .ok (.ifCond .eq 6, 3) := by decide +kernel
theorem dX6_clock_61 : decode cX6_clock 61 = .ok (.goto 109, 3) := by decide +kernel
theorem dX6_clock_64 : decode cX6_clock 64 = .ok (.aload_n 0, 1) := by decide +kernel
theorem dX6_clock_65 : decode cX6_clock 65 = .ok (.getfield 16, 3) := by decide +kernel
theorem dX6_clock_68 : decode cX6_clock 68 = .ok (.iconst 5, 1) := by decide +kernel
theorem dX6_clock_69 : decode cX6_clock 69 = .ok (.iload_n 1, 1) := by decide +kernel
theorem dX6_clock_70 : decode cX6_clock 70 = .ok (.imul, 1) := by decide +kernel
theorem dX6_clock_71 : decode cX6_clock 71 = .ok (.iconst 2, 1) := by decide +kernel
theorem dX6_clock_72 : decode cX6_clock 72 = .ok (.iadd, 1) := by decide +kernel
theorem dX6_clock_73 : decode cX6_clock 73 = .ok (.iaload, 1) := by decide +kernel
theorem dX6_clock_74 : decode cX6_clock 74 = .ok (.istore 4, 2) := by decide +kernel
theorem dX6_clock_76 : decode cX6_clock 76 = .ok (.aload_n 0, 1) := by decide +kernel
theorem dX6_clock_77 : decode cX6_clock 77 = .ok (.getfield 16, 3) := by decide +kernel
theorem dX6_clock_80 : decode cX6_clock 80 = .ok (.iconst 5, 1) := by decide +kernel
theorem dX6_clock_81 : decode cX6_clock 81 = .ok (.iload_n 1, 1) := by decide +kernel
theorem dX6_clock_82 : decode cX6_clock 82 = .ok (.imul, 1) := by decide +kernel
theorem dX6_clock_83 : decode cX6_clock 83 = .ok (.iconst 3, 1) := by decide +kernel
theorem dX6_clock_84 : decode cX6_clock 84 = .ok (.iadd, 1) := by decide +kernel
theorem dX6_clock_85 : decode cX6_clock 85 = .ok (.iaload, 1) := by decide +kernel
theorem dX6_clock_86 : decode cX6_clock 86 = .ok (.istore 5, 2) := by decide +kernel
theorem dX6_clock_88 : decode cX6_clock 88 = .ok (.aload_n 0, 1) := by decide +kernel
theorem dX6_clock_89 : decode cX6_clock 89 = .ok (.getfield 16, 3) := by decide +kernel
theorem dX6_clock_92 : decode cX6_clock 92 = .ok (.iconst 5, 1) := by decide +kernel
theorem dX6_clock_93 : decode cX6_clock 93 = .ok (.iload_n 1, 1) := by decide +kernel
theorem dX6_clock_94 : decode cX6_clock 94 = .ok (.imul, 1) := by decide +kernel
theorem dX6_clock_95 : decode cX6_clock 95 = .ok (.iconst 4, 1) := by decide +kernel
theorem dX6_clock_96 : decode cX6_clock 96 = .ok (.iadd, 1) := by decide +kernel
theorem dX6_clock_97 : decode cX6_clock 97 = .ok (.iaload, 1) := by decide +kernel
theorem dX6_clock_98 : decode cX6_clock 98 = .ok (.istore 6, 2) := by decide +kernel
theorem dX6_clock_100 : decode cX6_clock 100 = .ok (.iload 4, 2) := by decide +kernel
theorem dX6_clock_102 : decode cX6_clock 102 = .ok (.ifCond .ne 17, 3) := by decide +kernel
theorem dX6_clock_105 : decode cX6_clock 105 = .ok (.aload_n 0, 1) := by decide +kernel
theorem dX6_clock_106 : decode cX6_clock 106 = .ok (.getfield 9, 3) := by decide +kernel
theorem dX6_clock_109 : decode cX6_clock 109 = .ok (.bipush 9, 2) := by decide +kernel
theorem dX6_clock_111 : decode cX6_clock 111 = .ok (.iload 5, 2) := by decide +kernel
theorem dX6_clock_113 : decode cX6_clock 113 = .ok (.imul, 1) := by decide +kernel
theorem dX6_clock_114 : decode cX6_clock 114 = .ok (.iconst 3, 1) := by decide +kernel
theorem dX6_clock_115 : decode cX6_clock 115 = .ok (.iadd, 1) := by decide +kernel
theorem dX6_clock_116 : decode cX6_clock 116 = .ok (.iload 6, 2) := by decide +kernel
theorem dX6_clock_118 : decode cX6_clock 118 = .ok (.iastore, 1) := by decide +kernel
theorem dX6_clock_119 : decode cX6_clock 119 = .ok (.iload 4, 2) := by decide +kernel
theorem dX6_clock_121 : decode cX6_clock 121 = .ok (.iconst 1, 1) := by decide +kernel
theorem dX6_clock_122 : decode cX6_clock 122 = .ok (.if_icmp .ne 17, 3) := by decide +kernel
theorem dX6_clock_125 : decode cX6_clock 125 = .ok (.aload_n 0, 1) := by decide +kernel
theorem dX6_clock_126 : decode cX6_clock 126 = .ok (.getfield 13, 3) := by decide +kernel
theorem dX6_clock_129 : decode cX6_clock 129 = .ok (.bipush 8, 2) := by decide +kernel
theorem dX6_clock_131 : decode cX6_clock 131 = .ok (.iload 5, 2) := by decide +kernel
theorem dX6_clock_133 : decode cX6_clock 133 = .ok (.imul, 1) := by decide +kernel
theorem dX6_clock_134 : decode cX6_clock 134 = .ok (.iconst 5, 1) := by decide +kernel
theorem dX6_clock_135 : decode cX6_clock 135 = .ok (.iadd, 1) := by decide +kernel
theorem dX6_clock_136 : decode cX6_clock 136 = .ok (.iload 6, 2) := by decide +kernel
theorem dX6_clock_138 : decode cX6_clock 138 = .ok (.iastore, 1) := by decide +kernel
theorem dX6_clock_139 : decode cX6_clock 139 = .ok (.iload 4, 2) := by decide +kernel
theorem dX6_clock_141 : decode cX6_clock 141 = .ok (.iconst 2, 1) := by decide +kernel
theorem dX6_clock_142 : decode cX6_clock 142 = .ok (.if_icmp .ne 28, 3) := by decide +kernel
theorem dX6_clock_145 : decode cX6_clock 145 = .ok (.iload 5, 2) := by decide +kernel
theorem dX6_clock_147 : decode cX6_clock 147 = .ok (.iload 6, 2) := by decide +kernel
theorem dX6_clock_149 : decode cX6_clock 149 = .ok (.if_icmp .eq 21, 3) := by decide +kernel
theorem dX6_clock_152 : decode cX6_clock 152 = .ok (.aload_n 0, 1) := by decide +kernel
theorem dX6_clock_153 : decode cX6_clock 153 = .ok (.iload 5, 2) := by decide +kernel
theorem dX6_clock_155 : decode cX6_clock 155 = .ok (.invokevirtual 98, 3) := by decide +kernel
theorem dX6_clock_158 : decode cX6_clock 158 = .ok (.ifCond .eq 12, 3) := by decide +kernel
theorem dX6_clock_161 : decode cX6_clock 161 = .ok (.aload_n 0, 1) := by decide +kernel
theorem dX6_clock_162 : decode cX6_clock 162 = .ok (.iload 5, 2) := by decide +kernel
theorem dX6_clock_164 : decode cX6_clock 164 = .ok (.iload 6, 2) := by decide +kernel
theorem dX6_clock_166 : decode cX6_clock 166 = .ok (.iconst 1, 1) := by decide +kernel
theorem dX6_clock_167 : decode cX6_clock 167 = .ok (.invokevirtual 101, 3) := by decide +kernel
theorem dX6_clock_170 : decode cX6_clock 170 = .ok (.iinc 1 1, 3) := by decide +kernel
theorem dX6_clock_173 : decode cX6_clock 173 = .ok (.goto (-171), 3) := by decide +kernel
theorem dX6_clock_176 : decode cX6_clock 176 = .ok (.return_, 1) := by decide +kernel
set_option maxRecDepth 20000 in
theorem ggX6_firstIn_X6_get : GoodIn wsX6_firstIn wsX6_get := goodIn_r _ [7, 8, 9, 10, 11, 12, 13, 14, 15, 16, 17, 18, 19, 20, 21, 22, 23, 24, 25] (by decide +kernel) (by decide +kernel)
set_option maxRecDepth 20000 in
theorem gX6_firstIn_X6_get : GoodIn wsX6_firstIn (wsV RX6 79 RX6 yX6_get wsX6_get) := goodIn_app (goodIn_of _ (by decide +kernel)) ggX6_firstIn_X6_get
theorem dX6_firstIn_0 : decode cX6_firstIn 0 = .ok (.iconst (-1), 1) := by decide +kernel
theorem dX6_firstIn_1 : decode cX6_firstIn 1 = .ok (.istore_n 2, 1) := by decide +kernel
theorem dX6_firstIn_2 : decode cX6_firstIn 2 = .ok (.iconst 0, 1) := by decide +kernel
theorem dX6_firstIn_3 : decode cX6_firstIn 3 = .ok (.istore_n 3, 1) := by decide +kernel
theorem dX6_firstIn_4 : decode cX6_firstIn 4 = .ok (.iload_n 3, 1) := by decide +kernel
theorem dX6_firstIn_5 : decode cX6_firstIn 5 = .ok (.aload_n 0, 1) := by decide +kernel
theorem dX6_firstIn_6 : decode cX6_firstIn 6 = .ok (.getfield 76, 3) := by decide +kernel
theorem dX6_firstIn_9 : decode cX6_firstIn 9 = .ok (.if_icmp .ge 65, 3) := by decide +kernel
theorem dX6_firstIn_12 : decode cX6_firstIn 12 = .ok (.aload_n 0, 1) := by decide +kernel
theorem dX6_firstIn_13 : decode cX6_firstIn 13 = .ok (.getfield 22, 3) := by decide +kernel
theorem dX6_firstIn_16 : decode cX6_firstIn 16 = .ok (.iload_n 3, 1) := by decide +kernel
theorem dX6_firstIn_17 : decode cX6_firstIn 17 = .ok (.iaload, 1) := by decide +kernel
theorem dX6_firstIn_18 : decode cX6_firstIn 18 = .ok (.istore 4, 2) := by decide +kernel
theorem dX6_firstIn_20 : decode cX6_firstIn 20 = .ok (.aload_n 0, 1) := by decide +kernel
theorem dX6_firstIn_21 : decode cX6_firstIn 21 = .ok (.iload 4, 2) := by decide +kernel
theorem dX6_firstIn_23 : decode cX6_firstIn 23 = .ok (.iconst 0, 1) := by decide +kernel
theorem dX6_firstIn_24 : decode cX6_firstIn 24 = .ok (.invokevirtual 79, 3) := by decide +kernel
theorem dX6_firstIn_27 : decode cX6_firstIn 27 = .ok (.iconst 2, 1) := by decide +kernel
theorem dX6_firstIn_28 : decode cX6_firstIn 28 = .ok (.if_icmp .ne 40, 3) := by decide +kernel
theorem dX6_firstIn_31 : decode cX6_firstIn 31 = .ok (.aload_n 0, 1) := by decide +kernel
theorem dX6_firstIn_32 : decode cX6_firstIn 32 = .ok (.iload 4, 2) := by decide +kernel
theorem dX6_firstIn_34 : decode cX6_firstIn 34 = .ok (.iconst 1, 1) := by decide +kernel
theorem dX6_firstIn_35 : decode cX6_firstIn 35 = .ok (.invokevirtual 79, 3) := by decide +kernel
theorem dX6_firstIn_38 : decode cX6_firstIn 38 = .ok (.iload_n 1, 1) := by decide +kernel
theorem dX6_firstIn_39 : decode cX6_firstIn 39 = .ok (.if_icmp .ne 29, 3) := by decide +kernel
theorem dX6_firstIn_42 : decode cX6_firstIn 42 = .ok (.iload_n 2, 1) := by decide +kernel
theorem dX6_firstIn_43 : decode cX6_firstIn 43 = .ok (.iconst (-1), 1) := by decide +kernel
theorem dX6_firstIn_44 : decode cX6_firstIn 44 = .ok (.if_icmp .eq 21, 3) := by decide +kernel
theorem dX6_firstIn_47 : decode cX6_firstIn 47 = .ok (.aload_n 0, 1) := by decide +kernel
theorem dX6_firstIn_48 : decode cX6_firstIn 48 = .ok (.iload 4, 2) := by decide +kernel
theorem dX6_firstIn_50 : decode cX6_firstIn 50 = .ok (.bipush 7, 2) := by decide +kernel
theorem dX6_firstIn_52 : decode cX6_firstIn 52 = .ok (.invokevirtual 79, 3) := by decide +kernel
theorem dX6_firstIn_55 : decode cX6_firstIn 55 = .ok (.aload_n 0, 1) := by decide +kernel
theorem dX6_firstIn_56 : decode cX6_firstIn 56 = .ok (.iload_n 2, 1) := by decide +kernel
theorem dX6_firstIn_57 : decode cX6_firstIn 57 = .ok (.bipush 7, 2) := by decide +kernel
theorem dX6_firstIn_59 : decode cX6_firstIn 59 = .ok (.invokevirtual 79, 3) := by decide +kernel
theorem dX6_firstIn_62 : decode cX6_firstIn 62 = .ok (.if_icmp .ge 6, 3) := by decide +kernel
theorem dX6_firstIn_65 : decode cX6_firstIn 65 = .ok (.iload 4, 2) := by decide +kernel
theorem dX6_firstIn_67 : decode cX6_firstIn 67 = .ok (.istore_n 2, 1) := by decide +kernel
theorem dX6_firstIn_68 : decode cX6_firstIn 68 = .ok (.iinc 3 1, 3) := by decide +kernel
theorem dX6_firstIn_71 : decode cX6_firstIn 71 = .ok (.goto (-67), 3) := by decide +kernel
theorem dX6_firstIn_74 : decode cX6_firstIn 74 = .ok (.iload_n 2, 1) := by decide +kernel
theorem dX6_firstIn_75 : decode cX6_firstIn 75 = .ok (.ireturn, 1) := by decide +kernel
set_option maxRecDepth 20000 in
theorem ggX6_isDue_X6_get : GoodIn wsX6_isDue wsX6_get := goodIn_r _ [6, 7, 8, 9, 10, 11, 12, 13, 14, 15, 16, 17, 18, 19, 20, 21, 22, 23, 24] (by decide +kernel) (by decide +kernel)
set_option maxRecDepth 20000 in
theorem gX6_isDue_X6_get : GoodIn wsX6_isDue (wsV RX6 79 RX6 yX6_get wsX6_get) := goodIn_app (goodIn_of _ (by decide +kernel)) ggX6_isDue_X6_get
theorem dX6_isDue_0 : decode cX6_isDue 0 = .ok (.iload_n 1, 1) := by decide +kernel
theorem dX6_isDue_1 : decode cX6_isDue 1 = .ok (.iconst (-1), 1) := by decide +kernel
theorem dX6_isDue_2 : decode cX6_isDue 2 = .ok (.if_icmp .eq 28, 3) := by decide +kernel
theorem dX6_isDue_5 : decode cX6_isDue 5 = .ok (.aload_n 0, 1) := by decide +kernel
theorem dX6_isDue_6 : decode cX6_isDue 6 = .ok (.getfield 69, 3) := by decide +kernel
theorem dX6_isDue_9 : decode cX6_isDue 9 = .ok (.aload_n 0, 1) := by decide +kernel
theorem dX6_isDue_10 : decode cX6_isDue 10 = .ok (.iload_n 1, 1) := by decide +kernel
theorem dX6_isDue_11 : decode cX6_isDue 11 = .ok (.iconst 5, 1) := by decide +kernel
theorem dX6_isDue_12 : decode cX6_isDue 12 = .ok (.invokevirtual 79, 3) := by decide +kernel
theorem dX6_isDue_15 : decode cX6_isDue 15 = .ok (.isub, 1) := by decide +kernel
theorem dX6_isDue_16 : decode cX6_isDue 16 = .ok (.aload_n 0, 1) := by decide +kernel
theorem dX6_isDue_17 : decode cX6_isDue 17 = .ok (.iload_n 1, 1) := by decide +kernel
theorem dX6_isDue_18 : decode cX6_isDue 18 = .ok (.bipush 8, 2) := by decide +kernel
theorem dX6_isDue_20 : decode cX6_isDue 20 = .ok (.invokevirtual 79, 3) := by decide +kernel
theorem dX6_isDue_23 : decode cX6_isDue 23 = .ok (.if_icmp .lt 7, 3) := by decide +kernel
theorem dX6_isDue_26 : decode cX6_isDue 26 = .ok (.iconst 1, 1) := by decide +kernel
theorem dX6_isDue_27 : decode cX6_isDue 27 = .ok (.goto 4, 3) := by decide +kernel
theorem dX6_isDue_30 : decode cX6_isDue 30 = .ok (.iconst 0, 1) := by decide +kernel
theorem dX6_isDue_31 : decode cX6_isDue 31 = .ok (.ireturn, 1) := by decide +kernel
set_option maxRecDepth 20000 in
theorem ggX6_deliver_X6_get : GoodIn wsX6_deliver wsX6_get := goodIn_r _ [11, 12, 22, 23, 24, 25, 26, 27, 28, 29, 30, 31, 32, 33, 34, 35, 36, 37, 38] (by decide +kernel) (by decide +kernel)
set_option maxRecDepth 20000 in
theorem gX6_deliver_X6_get : GoodIn wsX6_deliver (wsV RX6 79 RX6 yX6_get wsX6_get) := goodIn_app (goodIn_of _ (by decide +kernel)) ggX6_deliver_X6_get
set_option maxRecDepth 20000 in
theorem ggX6_deliver_X6_put : GoodIn wsX6_deliver wsX6_put := goodIn_r _ [16, 4, 17, 18, 19, 20, 10, 21, 12, 22, 23, 24, 25, 26, 27, 28, 29, 30, 31, 32, 33, 34, 35, 36, 37, 38] (by decide +kernel) (by decide +kernel)
set_option maxRecDepth 20000 in
theorem gX6_deliver_X6_put : GoodIn wsX6_deliver (wsV RX6 95 RX6 yX6_put wsX6_put) := goodIn_app (goodIn_of _ (by decide +kernel)) ggX6_deliver_X6_put
theorem dX6_deliver_0 : decode cX6_deliver 0 = .ok (.aload_n 0, 1) := by decide +kernel
theorem dX6_deliver_1 : decode cX6_deliver 1 = .ok (.iload_n 1, 1) := by decide +kernel
theorem dX6_deliver_2 : decode cX6_deliver 2 = .ok (.iconst 2, 1) := by decide +kernel
theorem dX6_deliver_3 : decode cX6_deliver 3 = .ok (.invokevirtual 79, 3) := by decide +kernel
theorem dX6_deliver_6 : decode cX6_deliver 6 = .ok (.istore_n 2, 1) := by decide +kernel
theorem dX6_deliver_7 : decode cX6_deliver 7 = .ok (.aload_n 0, 1) := by decide +kernel
theorem dX6_deliver_8 : decode cX6_deliver 8 = .ok (.iload_n 1, 1) := by decide +kernel
theorem dX6_deliver_9 : decode cX6_deliver 9 = .ok (.iconst 3, 1) := by decide +kernel
theorem dX6_deliver_10 : decode cX6_deliver 10 = .ok (.iload_n 2, 1) := by decide +kernel
theorem dX6_deliver_11 : decode cX6_deliver 11 = .ok (.invokevirtual 95, 3) := by decide +kernel
theorem dX6_deliver_14 : decode cX6_deliver 14 = .ok (.aload_n 0, 1) := by decide +kernel
theorem dX6_deliver_15 : decode cX6_deliver 15 = .ok (.getfield 9, 3) := by decide +kernel
theorem dX6_deliver_18 : decode cX6_deliver 18 = .ok (.bipush 9, 2) := by decide +kernel
theorem dX6_deliver_20 : decode cX6_deliver 20 = .ok (.iload_n 2, 1) := by decide +kernel
theorem dX6_deliver_21 : decode cX6_deliver 21 = .ok (.imul, 1) := by decide +kernel
theorem dX6_deliver_22 : decode cX6_deliver 22 = .ok (.iconst 4, 1) := by decide +kernel
theorem dX6_deliver_23 : decode cX6_deliver 23 = .ok (.iadd, 1) := by decide +kernel
theorem dX6_deliver_24 : decode cX6_deliver 24 = .ok (.dup2, 1) := by decide +kernel
theorem dX6_deliver_25 : decode cX6_deliver 25 = .ok (.iaload, 1) := by decide +kernel
theorem dX6_deliver_26 : decode cX6_deliver 26 = .ok (.iconst 1, 1) := by decide +kernel
theorem dX6_deliver_27 : decode cX6_deliver 27 = .ok (.iadd, 1) := by decide +kernel
theorem dX6_deliver_28 : decode cX6_deliver 28 = .ok (.iastore, 1) := by decide +kernel
theorem dX6_deliver_29 : decode cX6_deliver 29 = .ok (.aload_n 0, 1) := by decide +kernel
theorem dX6_deliver_30 : decode cX6_deliver 30 = .ok (.dup, 1) := by decide +kernel
theorem dX6_deliver_31 : decode cX6_deliver 31 = .ok (.getfield 114, 3) := by decide +kernel
theorem dX6_deliver_34 : decode cX6_deliver 34 = .ok (.iconst 1, 1) := by decide +kernel
theorem dX6_deliver_35 : decode cX6_deliver 35 = .ok (.iadd, 1) := by decide +kernel
theorem dX6_deliver_36 : decode cX6_deliver 36 = .ok (.putfield 114, 3) := by decide +kernel
theorem dX6_deliver_39 : decode cX6_deliver 39 = .ok (.aload_n 0, 1) := by decide +kernel
theorem dX6_deliver_40 : decode cX6_deliver 40 = .ok (.dup, 1) := by decide +kernel
theorem dX6_deliver_41 : decode cX6_deliver 41 = .ok (.getfield 117, 3) := by decide +kernel
theorem dX6_deliver_44 : decode cX6_deliver 44 = .ok (.aload_n 0, 1) := by decide +kernel
theorem dX6_deliver_45 : decode cX6_deliver 45 = .ok (.getfield 69, 3) := by decide +kernel
theorem dX6_deliver_48 : decode cX6_deliver 48 = .ok (.aload_n 0, 1) := by decide +kernel
theorem dX6_deliver_49 : decode cX6_deliver 49 = .ok (.iload_n 1, 1) := by decide +kernel
theorem dX6_deliver_50 : decode cX6_deliver 50 = .ok (.iconst 4, 1) := by decide +kernel
theorem dX6_deliver_51 : decode cX6_deliver 51 = .ok (.invokevirtual 79, 3) := by decide +kernel
theorem dX6_deliver_54 : decode cX6_deliver 54 = .ok (.isub, 1) := by decide +kernel
theorem dX6_deliver_55 : decode cX6_deliver 55 = .ok (.iadd, 1) := by decide +kernel
theorem dX6_deliver_56 : decode cX6_deliver 56 = .ok (.putfield 117, 3) := by decide +kernel
theorem dX6_deliver_59 : decode cX6_deliver 59 = .ok (.iconst 0, 1) := by decide +kernel
theorem dX6_deliver_60 : decode cX6_deliver 60 = .ok (.istore_n 3, 1) := by decide +kernel
theorem dX6_deliver_61 : decode cX6_deliver 61 = .ok (.iconst 0, 1) := by decide +kernel
theorem dX6_deliver_62 : decode cX6_deliver 62 = .ok (.istore 4, 2) := by decide +kernel
theorem dX6_deliver_64 : decode cX6_deliver 64 = .ok (.iload 4, 2) := by decide +kernel
theorem dX6_deliver_66 : decode cX6_deliver 66 = .ok (.aload_n 0, 1) := by decide +kernel
theorem dX6_deliver_67 : decode cX6_deliver 67 = .ok (.getfield 76, 3) := by decide +kernel
theorem dX6_deliver_70 : decode cX6_deliver 70 = .ok (.if_icmp .ge 39, 3) := by decide +kernel
theorem dX6_deliver_73 : decode cX6_deliver 73 = .ok (.aload_n 0, 1) := by decide +kernel
theorem dX6_deliver_74 : decode cX6_deliver 74 = .ok (.getfield 22, 3) := by decide +kernel
theorem dX6_deliver_77 : decode cX6_deliver 77 = .ok (.iload 4, 2) := by decide +kernel
theorem dX6_deliver_79 : decode cX6_deliver 79 = .ok (.iaload, 1) := by decide +kernel
theorem dX6_deliver_80 : decode cX6_deliver 80 = .ok (.iload_n 1, 1) := by decide +kernel
theorem dX6_deliver_81 : decode cX6_deliver 81 = .ok (.if_icmp .ne 6, 3) := by decide +kernel
theorem dX6_deliver_84 : decode cX6_deliver 84 = .ok (.goto 19, 3) := by decide +kernel
theorem dX6_deliver_87 : decode cX6_deliver 87 = .ok (.aload_n 0, 1) := by decide +kernel
theorem dX6_deliver_88 : decode cX6_deliver 88 = .ok (.getfield 22, 3) := by decide +kernel
theorem dX6_deliver_91 : decode cX6_deliver 91 = .ok (.iload_n 3, 1) := by decide +kernel
theorem dX6_deliver_92 : decode cX6_deliver 92 = .ok (.aload_n 0, 1) := by decide +kernel
theorem dX6_deliver_93 : decode cX6_deliver 93 = .ok (.getfield 22, 3) := by decide +kernel
theorem dX6_deliver_96 : decode cX6_deliver 96 = .ok (.iload 4, 2) := by decide +kernel
theorem dX6_deliver_98 : decode cX6_deliver 98 = .ok (.iaload, 1) := by decide +kernel
theorem dX6_deliver_99 : decode cX6_deliver 99 = .ok (.iastore, 1) := by decide +kernel
theorem dX6_deliver_100 : decode cX6_deliver 100 = .ok (.iinc 3 1, 3) := by decide +kernel
theorem dX6_deliver_103 : decode cX6_deliver 103 = .ok (.iinc 4 1, 3) := by decide +kernel
theorem dX6_deliver_106 : decode cX6_deliver 106 = .ok (.goto (-42), 3) := by decide +kernel
theorem dX6_deliver_109 : decode cX6_deliver 109 = .ok (.aload_n 0, 1) := by decide +kernel
theorem dX6_deliver_110 : decode cX6_deliver 110 = .ok (.iload_n 3, 1) := by decide +kernel
theorem dX6_deliver_111 : decode cX6_deliver 111 = .ok (.putfield 76, 3) := by decide +kernel
theorem dX6_deliver_114 : decode cX6_deliver 114 = .ok (.return_, 1) := by decide +kernel
set_option maxRecDepth 20000 in
theorem ggX6_arrivals_X6_tu : GoodIn wsX6_arrivals wsX6_tu := goodIn_r _ [5, 6, 47, 48, 49, 50, 51, 52, 53, 54, 55, 56, 57, 58, 59, 60, 61, 62, 63] (by decide +kernel) (by decide +kernel)
set_option maxRecDepth 20000 in
theorem gX6_arrivals_X6_tu : GoodIn wsX6_arrivals (wsV RX6 66 RX6 yX6_tu wsX6_tu) := goodIn_app (goodIn_of _ (by decide +kernel)) ggX6_arrivals_X6_tu
set_option maxRecDepth 20000 in
theorem ggX6_arrivals_X6_firstIn : GoodIn wsX6_arrivals wsX6_firstIn := goodIn_r _ [10, 11, 12, 13, 14, 15, 4, 16, 17, 47, 48, 49, 50, 51, 52, 53, 54, 55, 56, 57, 58, 59, 60, 61, 62, 63] (by decide +kernel) (by decide +kernel)
set_option maxRecDepth 20000 in
theorem gX6_arrivals_X6_firstIn : GoodIn wsX6_arrivals (wsV RX6 120 RX6 yX6_firstIn wsX6_firstIn) := goodIn_app (goodIn_of _ (by decide +kernel)) ggX6_arrivals_X6_firstIn
set_option maxRecDepth 20000 in
theorem ggX6_arrivals_X6_isDue : GoodIn wsX6_arrivals wsX6_isDue := goodIn_r _ [21, 22, 13, 14, 15, 4, 16, 17, 47, 48, 49, 50, 51, 52, 53, 54, 55, 56, 57, 58, 59, 60, 61, 62, 63] (by decide +kernel) (by decide +kernel)
set_option maxRecDepth 20000 in
theorem gX6_arrivals_X6_isDue : GoodIn wsX6_arrivals (wsV RX6 123 RX6 yX6_isDue wsX6_isDue) := goodIn_app (goodIn_of _ (by decide +kernel)) ggX6_arrivals_X6_isDue
set_option maxRecDepth 20000 in
theorem ggX6_arrivals_X6_get : GoodIn wsX6_arrivals wsX6_get := goodIn_r _ [16, 17, 47, 48, 49, 50, 51, 52, 53, 54, 55, 56, 57, 58, 59, 60, 61, 62, 63] (by decide +kernel) (by decide +kernel)
set_option maxRecDepth 20000 in
theorem gX6_arrivals_X6_get : GoodIn wsX6_arrivals (wsV RX6 79 RX6 yX6_get wsX6_get) := goodIn_app (goodIn_of _ (by decide +kernel)) ggX6_arrivals_X6_get
set_option maxRecDepth 20000 in
theorem ggX6_arrivals_X6_deliver : GoodIn wsX6_arrivals wsX6_deliver := goodIn_r _ [26, 27, 28, 29, 22, 11, 12, 13, 14, 15, 4, 16, 17, 30, 31, 32, 33, 34, 35, 36, 37, 38, 47, 48, 49, 50, 51, 52, 53, 54, 55, 56, 57, 58, 59, 60, 61, 62, 63] (by decide +kernel) (by decide +kernel)
set_option maxRecDepth 20000 in
theorem gX6_arrivals_X6_deliver : GoodIn wsX6_arrivals (wsV RX6 126 RX6 yX6_deliver wsX6_deliver) := goodIn_app (goodIn_of _ (by decide +kernel)) ggX6_arrivals_X6_deliver
set_option maxRecDepth 20000 in
theorem ggX6_arrivals_X6_manyAt : GoodIn wsX6_arrivals wsX6_manyAt := goodIn_r _ [42, 11, 12, 13, 14, 15, 4, 16, 17, 47, 48, 49, 50, 51, 52, 53, 54, 55, 56, 57, 58, 59, 60, 61, 62, 63] (by decide +kernel) (by decide +kernel)
set_option maxRecDepth 20000 in
theorem gX6_arrivals_X6_manyAt : GoodIn wsX6_arrivals (wsV RX6 89 RX6 yX6_manyAt wsX6_manyAt) := goodIn_app (goodIn_of _ (by decide +kernel)) ggX6_arrivals_X6_manyAt
set_option maxRecDepth 20000 in
theorem ggX6_arrivals_X6_st : GoodIn wsX6_arrivals wsX6_st := goodIn_r _ [46, 27, 47, 48, 49, 50, 51, 52, 53, 54, 55, 56, 57, 58, 59, 60, 61, 62, 63] (by decide +kernel) (by decide +kernel)
set_option maxRecDepth 20000 in
theorem gX6_arrivals_X6_st : GoodIn wsX6_arrivals (wsV RX6 59 RX6 yX6_st wsX6_st) := goodIn_app (goodIn_of _ (by decide +kernel)) ggX6_arrivals_X6_st
set_option maxRecDepth 20000 in
theorem ggX6_arrivals_X6_put : GoodIn wsX6_arrivals wsX6_put := goodIn_r _ [33, 22, 34, 35, 36, 37, 4, 38, 17, 47, 48, 49, 50, 51, 52, 53, 54, 55, 56, 57, 58, 59, 60, 61, 62, 63] (by decide +kernel) (by decide +kernel)
set_option maxRecDepth 20000 in
theorem gX6_arrivals_X6_put : GoodIn wsX6_arrivals (wsV RX6 95 RX6 yX6_put wsX6_put) := goodIn_app (goodIn_of _ (by decide +kernel)) ggX6_arrivals_X6_put
theorem dX6_arrivals_0 : decode cX6_arrivals 0 = .ok (.aload_n 0, 1) := by decide +kernel
theorem dX6_arrivals_1 : decode cX6_arrivals 1 = .ok (.iload_n 1, 1) := by decide +kernel
theorem dX6_arrivals_2 : decode cX6_arrivals 2 = .ok (.iconst 1, 1) := by decide +kernel
theorem dX6_arrivals_3 : decode cX6_arrivals 3 = .ok (.invokevirtual 66, 3) := by decide +kernel
theorem dX6_arrivals_6 : decode cX6_arrivals 6 = .ok (.istore_n 2, 1) := by decide +kernel
theorem dX6_arrivals_7 : decode cX6_arrivals 7 = .ok (.aload_n 0, 1) := by decide +kernel
theorem dX6_arrivals_8 : decode cX6_arrivals 8 = .ok (.iload_n 1, 1) := by decide +kernel
theorem dX6_arrivals_9 : decode cX6_arrivals 9 = .ok (.invokevirtual 120, 3) := by decide +kernel
theorem dX6_arrivals_12 : decode cX6_arrivals 12 = .ok (.istore_n 3, 1) := by decide +kernel
theorem dX6_arrivals_13 : decode cX6_arrivals 13 = .ok (.aload_n 0, 1) := by decide +kernel
theorem dX6_arrivals_14 : decode cX6_arrivals 14 = .ok (.iload_n 3, 1) := by decide +kernel
theorem dX6_arrivals_15 : decode cX6_arrivals 15 = .ok (.invokevirtual 123, 3) := by decide +kernel
theorem dX6_arrivals_18 : decode cX6_arrivals 18 = .ok (.ifCond .eq 56, 3) := by decide +kernel
theorem dX6_arrivals_21 : decode cX6_arrivals 21 = .ok (.aload_n 0, 1) := by decide +kernel
theorem dX6_arrivals_22 : decode cX6_arrivals 22 = .ok (.iload_n 3, 1) := by decide +kernel
theorem dX6_arrivals_23 : decode cX6_arrivals 23 = .ok (.iconst 2, 1) := by decide +kernel
theorem dX6_arrivals_24 : decode cX6_arrivals 24 = .ok (.invokevirtual 79, 3) := by decide +kernel
theorem dX6_arrivals_27 : decode cX6_arrivals 27 = .ok (.iload_n 2, 1) := by decide +kernel
theorem dX6_arrivals_28 : decode cX6_arrivals 28 = .ok (.if_icmp .ne 11, 3) := by decide +kernel
theorem dX6_arrivals_31 : decode cX6_arrivals 31 = .ok (.aload_n 0, 1) := by decide +kernel
theorem dX6_arrivals_32 : decode cX6_arrivals 32 = .ok (.iload_n 3, 1) := by decide +kernel
theorem dX6_arrivals_33 : decode cX6_arrivals 33 = .ok (.invokevirtual 126, 3) := by decide +kernel
theorem dX6_arrivals_36 : decode cX6_arrivals 36 = .ok (.goto 29, 3) := by decide +kernel
theorem dX6_arrivals_39 : decode cX6_arrivals 39 = .ok (.aload_n 0, 1) := by decide +kernel
theorem dX6_arrivals_40 : decode cX6_arrivals 40 = .ok (.iconst 1, 1) := by decide +kernel
theorem dX6_arrivals_41 : decode cX6_arrivals 41 = .ok (.iload_n 2, 1) := by decide +kernel
theorem dX6_arrivals_42 : decode cX6_arrivals 42 = .ok (.invokevirtual 89, 3) := by decide +kernel
theorem dX6_arrivals_45 : decode cX6_arrivals 45 = .ok (.aload_n 0, 1) := by decide +kernel
theorem dX6_arrivals_46 : decode cX6_arrivals 46 = .ok (.iload_n 2, 1) := by decide +kernel
theorem dX6_arrivals_47 : decode cX6_arrivals 47 = .ok (.iconst 0, 1) := by decide +kernel
theorem dX6_arrivals_48 : decode cX6_arrivals 48 = .ok (.invokevirtual 59, 3) := by decide +kernel
theorem dX6_arrivals_51 : decode cX6_arrivals 51 = .ok (.if_icmp .ge 13, 3) := by decide +kernel
theorem dX6_arrivals_54 : decode cX6_arrivals 54 = .ok (.aload_n 0, 1) := by decide +kernel
theorem dX6_arrivals_55 : decode cX6_arrivals 55 = .ok (.iload_n 3, 1) := by decide +kernel
theorem dX6_arrivals_56 : decode cX6_arrivals 56 = .ok (.iconst 1, 1) := by decide +kernel
theorem dX6_arrivals_57 : decode cX6_arrivals 57 = .ok (.iload_n 2, 1) := by decide +kernel
theorem dX6_arrivals_58 : decode cX6_arrivals 58 = .ok (.invokevirtual 95, 3) := by decide +kernel
theorem dX6_arrivals_61 : decode cX6_arrivals 61 = .ok (.goto 4, 3) := by decide +kernel
theorem dX6_arrivals_64 : decode cX6_arrivals 64 = .ok (.return_, 1) := by decide +kernel
theorem dX6_arrivals_65 : decode cX6_arrivals 65 = .ok (.aload_n 0, 1) := by decide +kernel
theorem dX6_arrivals_66 : decode cX6_arrivals 66 = .ok (.iload_n 1, 1) := by decide +kernel
theorem dX6_arrivals_67 : decode cX6_arrivals 67 = .ok (.invokevirtual 120, 3) := by decide +kernel
theorem dX6_arrivals_70 : decode cX6_arrivals 70 = .ok (.istore_n 3, 1) := by decide +kernel
theorem dX6_arrivals_71 : decode cX6_arrivals 71 = .ok (.goto (-58), 3) := by decide +kernel
theorem dX6_arrivals_74 : decode cX6_arrivals 74 = .ok (.return_, 1) := by decide +kernel
set_option maxRecDepth 20000 in
theorem ggX6_isAhead_X6_get : GoodIn wsX6_isAhead wsX6_get := goodIn_r _ [5, 6, 7, 8, 9, 10, 11, 12, 13, 14, 15, 16, 17, 18, 19, 20, 21, 22, 23] (by decide +kernel) (by decide +kernel)
set_option maxRecDepth 20000 in
theorem gX6_isAhead_X6_get : GoodIn wsX6_isAhead (wsV RX6 79 RX6 yX6_get wsX6_get) := goodIn_app (goodIn_of _ (by decide +kernel)) ggX6_isAhead_X6_get
theorem dX6_isAhead_0 : decode cX6_isAhead 0 = .ok (.aload_n 0, 1) := by decide +kernel
theorem dX6_isAhead_1 : decode cX6_isAhead 1 = .ok (.iload_n 1, 1) := by decide +kernel
theorem dX6_isAhead_2 : decode cX6_isAhead 2 = .ok (.iconst 3, 1) := by decide +kernel
theorem dX6_isAhead_3 : decode cX6_isAhead 3 = .ok (.invokevirtual 79, 3) := by decide +kernel
theorem dX6_isAhead_6 : decode cX6_isAhead 6 = .ok (.aload_n 0, 1) := by decide +kernel
theorem dX6_isAhead_7 : decode cX6_isAhead 7 = .ok (.iload_n 2, 1) := by decide +kernel
theorem dX6_isAhead_8 : decode cX6_isAhead 8 = .ok (.iconst 3, 1) := by decide +kernel
theorem dX6_isAhead_9 : decode cX6_isAhead 9 = .ok (.invokevirtual 79, 3) := by decide +kernel
theorem dX6_isAhead_12 : decode cX6_isAhead 12 = .ok (.if_icmp .eq 26, 3) := by decide +kernel
theorem dX6_isAhead_15 : decode cX6_isAhead 15 = .ok (.aload_n 0, 1) := by decide +kernel
theorem dX6_isAhead_16 : decode cX6_isAhead 16 = .ok (.iload_n 1, 1) := by decide +kernel
theorem dX6_isAhead_17 : decode cX6_isAhead 17 = .ok (.iconst 3, 1) := by decide +kernel
theorem dX6_isAhead_18 : decode cX6_isAhead 18 = .ok (.invokevirtual 79, 3) := by decide +kernel
theorem dX6_isAhead_21 : decode cX6_isAhead 21 = .ok (.aload_n 0, 1) := by decide +kernel
theorem dX6_isAhead_22 : decode cX6_isAhead 22 = .ok (.iload_n 2, 1) := by decide +kernel
theorem dX6_isAhead_23 : decode cX6_isAhead 23 = .ok (.iconst 3, 1) := by decide +kernel
theorem dX6_isAhead_24 : decode cX6_isAhead 24 = .ok (.invokevirtual 79, 3) := by decide +kernel
theorem dX6_isAhead_27 : decode cX6_isAhead 27 = .ok (.if_icmp .le 7, 3) := by decide +kernel
theorem dX6_isAhead_30 : decode cX6_isAhead 30 = .ok (.iconst 1, 1) := by decide +kernel
theorem dX6_isAhead_31 : decode cX6_isAhead 31 = .ok (.goto 29, 3) := by decide +kernel
theorem dX6_isAhead_34 : decode cX6_isAhead 34 = .ok (.iconst 0, 1) := by decide +kernel
theorem dX6_isAhead_35 : decode cX6_isAhead 35 = .ok (.goto 25, 3) := by decide +kernel
theorem dX6_isAhead_38 : decode cX6_isAhead 38 = .ok (.aload_n 0, 1) := by decide +kernel
theorem dX6_isAhead_39 : decode cX6_isAhead 39 = .ok (.iload_n 1, 1) := by decide +kernel
theorem dX6_isAhead_40 : decode cX6_isAhead 40 = .ok (.bipush 7, 2) := by decide +kernel
theorem dX6_isAhead_42 : decode cX6_isAhead 42 = .ok (.invokevirtual 79, 3) := by decide +kernel
theorem dX6_isAhead_45 : decode cX6_isAhead 45 = .ok (.aload_n 0, 1) := by decide +kernel
theorem dX6_isAhead_46 : decode cX6_isAhead 46 = .ok (.iload_n 2, 1) := by decide +kernel
theorem dX6_isAhead_47 : decode cX6_isAhead 47 = .ok (.bipush 7, 2) := by decide +kernel
theorem dX6_isAhead_49 : decode cX6_isAhead 49 = .ok (.invokevirtual 79, 3) := by decide +kernel
theorem dX6_isAhead_52 : decode cX6_isAhead 52 = .ok (.if_icmp .ge 7, 3) := by decide +kernel
theorem dX6_isAhead_55 : decode cX6_isAhead 55 = .ok (.iconst 1, 1) := by decide +kernel
theorem dX6_isAhead_56 : decode cX6_isAhead 56 = .ok (.goto 4, 3) := by decide +kernel
theorem dX6_isAhead_59 : decode cX6_isAhead 59 = .ok (.iconst 0, 1) := by decide +kernel
theorem dX6_isAhead_60 : decode cX6_isAhead 60 = .ok (.ireturn, 1) := by decide +kernel
set_option maxRecDepth 20000 in
theorem ggX6_line_X6_get : GoodIn wsX6_line wsX6_get := goodIn_r _ [8, 9, 14, 15, 16, 17, 18, 19, 20, 21, 22, 23, 24, 25, 26, 27, 28, 29, 30] (by decide +kernel) (by decide +kernel)
set_option maxRecDepth 20000 in
theorem gX6_line_X6_get : GoodIn wsX6_line (wsV RX6 79 RX6 yX6_get wsX6_get) := goodIn_app (goodIn_of _ (by decide +kernel)) ggX6_line_X6_get
set_option maxRecDepth 20000 in
theorem ggX6_line_X6_isAhead : GoodIn wsX6_line wsX6_isAhead := goodIn_r _ [13, 4, 5, 6, 7, 8, 9, 14, 15, 16, 17, 18, 19, 20, 21, 22, 23, 24, 25, 26, 27, 28, 29, 30] (by decide +kernel) (by decide +kernel)
set_option maxRecDepth 20000 in
theorem gX6_line_X6_isAhead : GoodIn wsX6_line (wsV RX6 129 RX6 yX6_isAhead wsX6_isAhead) := goodIn_app (goodIn_of _ (by decide +kernel)) ggX6_line_X6_isAhead
theorem dX6_line_0 : decode cX6_line 0 = .ok (.iconst 0, 1) := by decide +kernel
theorem dX6_line_1 : decode cX6_line 1 = .ok (.istore_n 2, 1) := by decide +kernel
theorem dX6_line_2 : decode cX6_line 2 = .ok (.iconst 0, 1) := by decide +kernel
theorem dX6_line_3 : decode cX6_line 3 = .ok (.istore_n 3, 1) := by decide +kernel
theorem dX6_line_4 : decode cX6_line 4 = .ok (.iload_n 3, 1) := by decide +kernel
theorem dX6_line_5 : decode cX6_line 5 = .ok (.aload_n 0, 1) := by decide +kernel
theorem dX6_line_6 : decode cX6_line 6 = .ok (.getfield 76, 3) := by decide +kernel
theorem dX6_line_9 : decode cX6_line 9 = .ok (.if_icmp .ge 102, 3) := by decide +kernel
theorem dX6_line_12 : decode cX6_line 12 = .ok (.aload_n 0, 1) := by decide +kernel
theorem dX6_line_13 : decode cX6_line 13 = .ok (.getfield 22, 3) := by decide +kernel
theorem dX6_line_16 : decode cX6_line 16 = .ok (.iload_n 3, 1) := by decide +kernel
theorem dX6_line_17 : decode cX6_line 17 = .ok (.iaload, 1) := by decide +kernel
theorem dX6_line_18 : decode cX6_line 18 = .ok (.istore 4, 2) := by decide +kernel
theorem dX6_line_20 : decode cX6_line 20 = .ok (.aload_n 0, 1) := by decide +kernel
theorem dX6_line_21 : decode cX6_line 21 = .ok (.iload 4, 2) := by decide +kernel
theorem dX6_line_23 : decode cX6_line 23 = .ok (.iconst 0, 1) := by decide +kernel
theorem dX6_line_24 : decode cX6_line 24 = .ok (.invokevirtual 79, 3) := by decide +kernel
theorem dX6_line_27 : decode cX6_line 27 = .ok (.iconst 1, 1) := by decide +kernel
theorem dX6_line_28 : decode cX6_line 28 = .ok (.if_icmp .ne 77, 3) := by decide +kernel
theorem dX6_line_31 : decode cX6_line 31 = .ok (.aload_n 0, 1) := by decide +kernel
theorem dX6_line_32 : decode cX6_line 32 = .ok (.iload 4, 2) := by decide +kernel
theorem dX6_line_34 : decode cX6_line 34 = .ok (.iconst 1, 1) := by decide +kernel
theorem dX6_line_35 : decode cX6_line 35 = .ok (.invokevirtual 79, 3) := by decide +kernel
theorem dX6_line_38 : decode cX6_line 38 = .ok (.iload_n 1, 1) := by decide +kernel
theorem dX6_line_39 : decode cX6_line 39 = .ok (.if_icmp .eq 6, 3) := by decide +kernel
theorem dX6_line_42 : decode cX6_line 42 = .ok (.goto 63, 3) := by decide +kernel
theorem dX6_line_45 : decode cX6_line 45 = .ok (.iload_n 2, 1) := by decide +kernel
theorem dX6_line_46 : decode cX6_line 46 = .ok (.istore 5, 2) := by decide +kernel
theorem dX6_line_48 : decode cX6_line 48 = .ok (.iload 5, 2) := by decide +kernel
theorem dX6_line_50 : decode cX6_line 50 = .ok (.ifCond .le 43, 3) := by decide +kernel
theorem dX6_line_53 : decode cX6_line 53 = .ok (.aload_n 0, 1) := by decide +kernel
theorem dX6_line_54 : decode cX6_line 54 = .ok (.iload 4, 2) := by decide +kernel
theorem dX6_line_56 : decode cX6_line 56 = .ok (.aload_n 0, 1) := by decide +kernel
theorem dX6_line_57 : decode cX6_line 57 = .ok (.getfield 28, 3) := by decide +kernel
theorem dX6_line_60 : decode cX6_line 60 = .ok (.iload 5, 2) := by decide +kernel
theorem dX6_line_62 : decode cX6_line 62 = .ok (.iconst 1, 1) := by decide +kernel
theorem dX6_line_63 : decode cX6_line 63 = .ok (.isub, 1) := by decide +kernel
theorem dX6_line_64 : decode cX6_line 64 = .ok (.iaload, 1) := by decide +kernel
theorem dX6_line_65 : decode cX6_line 65 = .ok (.invokevirtual 129, 3) := by decide +kernel
theorem dX6_line_68 : decode cX6_line 68 = .ok (.ifCond .eq 25, 3) := by decide +kernel
theorem dX6_line_71 : decode cX6_line 71 = .ok (.aload_n 0, 1) := by decide +kernel
theorem dX6_line_72 : decode cX6_line 72 = .ok (.getfield 28, 3) := by decide +kernel
theorem dX6_line_75 : decode cX6_line 75 = .ok (.iload 5, 2) := by decide +kernel
theorem dX6_line_77 : decode cX6_line 77 = .ok (.aload_n 0, 1) := by decide +kernel
theorem dX6_line_78 : decode cX6_line 78 = .ok (.getfield 28, 3) := by decide +kernel
theorem dX6_line_81 : decode cX6_line 81 = .ok (.iload 5, 2) := by decide +kernel
theorem dX6_line_83 : decode cX6_line 83 = .ok (.iconst 1, 1) := by decide +kernel
theorem dX6_line_84 : decode cX6_line 84 = .ok (.isub, 1) := by decide +kernel
theorem dX6_line_85 : decode cX6_line 85 = .ok (.iaload, 1) := by decide +kernel
theorem dX6_line_86 : decode cX6_line 86 = .ok (.iastore, 1) := by decide +kernel
theorem dX6_line_87 : decode cX6_line 87 = .ok (.iinc 5 (-1), 3) := by decide +kernel
theorem dX6_line_90 : decode cX6_line 90 = .ok (.goto (-42), 3) := by decide +kernel
theorem dX6_line_93 : decode cX6_line 93 = .ok (.aload_n 0, 1) := by decide +kernel
theorem dX6_line_94 : decode cX6_line 94 = .ok (.getfield 28, 3) := by decide +kernel
theorem dX6_line_97 : decode cX6_line 97 = .ok (.iload 5, 2) := by decide +kernel
theorem dX6_line_99 : decode cX6_line 99 = .ok (.iload 4, 2) := by decide +kernel
theorem dX6_line_101 : decode cX6_line 101 = .ok (.iastore, 1) := by decide +kernel
theorem dX6_line_102 : decode cX6_line 102 = .ok (.iinc 2 1, 3) := by decide +kernel
theorem dX6_line_105 : decode cX6_line 105 = .ok (.iinc 3 1, 3) := by decide +kernel
theorem dX6_line_108 : decode cX6_line 108 = .ok (.goto (-104), 3) := by decide +kernel
theorem dX6_line_111 : decode cX6_line 111 = .ok (.iload_n 2, 1) := by decide +kernel
theorem dX6_line_112 : decode cX6_line 112 = .ok (.ireturn, 1) := by decide +kernel
set_option maxRecDepth 20000 in
theorem ggX6_departures_X6_line : GoodIn wsX6_departures wsX6_line := goodIn_r _ [8, 9, 10, 1, 11, 12, 13, 7, 14, 15, 16, 17, 18, 19, 61, 62, 63, 64, 65, 66, 67, 68, 69, 70, 71, 72, 73, 74, 75, 76, 77] (by decide +kernel) (by decide +kernel)
set_option maxRecDepth 20000 in
theorem gX6_departures_X6_line : GoodIn wsX6_departures (wsV RX6 133 RX6 yX6_line wsX6_line) := goodIn_app (goodIn_of _ (by decide +kernel)) ggX6_departures_X6_line
set_option maxRecDepth 20000 in
theorem ggX6_departures_X6_get : GoodIn wsX6_departures wsX6_get := goodIn_r _ [14, 15, 61, 62, 63, 64, 65, 66, 67, 68, 69, 70, 71, 72, 73, 74, 75, 76, 77] (by decide +kernel) (by decide +kernel)
set_option maxRecDepth 20000 in
theorem gX6_departures_X6_get : GoodIn wsX6_departures (wsV RX6 79 RX6 yX6_get wsX6_get) := goodIn_app (goodIn_of _ (by decide +kernel)) ggX6_departures_X6_get
set_option maxRecDepth 20000 in
theorem ggX6_departures_X6_st : GoodIn wsX6_departures wsX6_st := goodIn_r _ [23, 24, 61, 62, 63, 64, 65, 66, 67, 68, 69, 70, 71, 72, 73, 74, 75, 76, 77] (by decide +kernel) (by decide +kernel)
set_option maxRecDepth 20000 in
theorem gX6_departures_X6_st : GoodIn wsX6_departures (wsV RX6 59 RX6 yX6_st wsX6_st) := goodIn_app (goodIn_of _ (by decide +kernel)) ggX6_departures_X6_st
set_option maxRecDepth 20000 in
theorem ggX6_departures_X6_chosen : GoodIn wsX6_departures wsX6_chosen := goodIn_r _ [28, 20, 21, 22, 7, 23, 24, 29, 30, 31, 32, 33, 34, 35, 36, 37, 38, 39, 3, 40, 41, 42, 43, 44, 45, 46, 47, 61, 62, 63, 64, 65, 66, 67, 68, 69, 70, 71, 72, 73, 74, 75, 76, 77] (by decide +kernel) (by decide +kernel)
set_option maxRecDepth 20000 in
theorem gX6_departures_X6_chosen : GoodIn wsX6_departures (wsV RX6 136 RX6 yX6_chosen wsX6_chosen) := goodIn_app (goodIn_of _ (by decide +kernel)) ggX6_departures_X6_chosen
set_option maxRecDepth 20000 in
theorem ggX6_departures_X6_tu : GoodIn wsX6_departures wsX6_tu := goodIn_r _ [39, 3, 61, 62, 63, 64, 65, 66, 67, 68, 69, 70, 71, 72, 73, 74, 75, 76, 77] (by decide +kernel) (by decide +kernel)
set_option maxRecDepth 20000 in
theorem gX6_departures_X6_tu : GoodIn wsX6_departures (wsV RX6 66 RX6 yX6_tu wsX6_tu) := goodIn_app (goodIn_of _ (by decide +kernel)) ggX6_departures_X6_tu
set_option maxRecDepth 20000 in
theorem ggX6_departures_X6_manyAt : GoodIn wsX6_departures wsX6_manyAt := goodIn_r _ [51, 9, 10, 11, 12, 13, 7, 14, 15, 61, 62, 63, 64, 65, 66, 67, 68, 69, 70, 71, 72, 73, 74, 75, 76, 77] (by decide +kernel) (by decide +kernel)
set_option maxRecDepth 20000 in
theorem gX6_departures_X6_manyAt : GoodIn wsX6_departures (wsV RX6 89 RX6 yX6_manyAt wsX6_manyAt) := goodIn_app (goodIn_of _ (by decide +kernel)) ggX6_departures_X6_manyAt
set_option maxRecDepth 20000 in
theorem ggX6_departures_X6_put : GoodIn wsX6_departures wsX6_put := goodIn_r _ [55, 2, 56, 57, 58, 59, 7, 60, 15, 61, 62, 63, 64, 65, 66, 67, 68, 69, 70, 71, 72, 73, 74, 75, 76, 77] (by decide +kernel) (by decide +kernel)
set_option maxRecDepth 20000 in
theorem gX6_departures_X6_put : GoodIn wsX6_departures (wsV RX6 95 RX6 yX6_put wsX6_put) := goodIn_app (goodIn_of _ (by decide +kernel)) ggX6_departures_X6_put
set_option maxRecDepth 20000 in
theorem ggX6_departures_X6_through : GoodIn wsX6_departures wsX6_through := goodIn_r _ [47, 36, 37, 38, 7, 39, 3, 61, 62, 63, 64, 65, 66, 67, 68, 69, 70, 71, 72, 73, 74, 75, 76, 77] (by decide +kernel) (by decide +kernel)
set_option maxRecDepth 20000 in
theorem gX6_departures_X6_through : GoodIn wsX6_departures (wsV RX6 104 RX6 yX6_through wsX6_through) := goodIn_app (goodIn_of _ (by decide +kernel)) ggX6_departures_X6_through
set_option maxRecDepth 20000 in
theorem ggX6_departures_X6_set : GoodIn wsX6_departures wsX6_set := goodIn_r _ [60, 15, 61, 62, 63, 64, 65, 66, 67, 68, 69, 70, 71, 72, 73, 74, 75, 76, 77] (by decide +kernel) (by decide +kernel)
set_option maxRecDepth 20000 in
theorem gX6_departures_X6_set : GoodIn wsX6_departures (wsV RX6 82 RX6 yX6_set wsX6_set) := goodIn_app (goodIn_of _ (by decide +kernel)) ggX6_departures_X6_set
theorem dX6_departures_0 : decode cX6_departures 0 = .ok (.aload_n 0, 1) := by decide +kernel
theorem dX6_departures_1 : decode cX6_departures 1 = .ok (.iload_n 1, 1) := by decide +kernel
theorem dX6_departures_2 : decode cX6_departures 2 = .ok (.invokevirtual 133, 3) := by decide +kernel
theorem dX6_departures_5 : decode cX6_departures 5 = .ok (.istore_n 2, 1) := by decide +kernel
theorem dX6_departures_6 : decode cX6_departures 6 = .ok (.iconst 0, 1) := by decide +kernel
theorem dX6_departures_7 : decode cX6_departures 7 = .ok (.istore_n 3, 1) := by decide +kernel
theorem dX6_departures_8 : decode cX6_departures 8 = .ok (.iload_n 3, 1) := by decide +kernel
theorem dX6_departures_9 : decode cX6_departures 9 = .ok (.iload_n 2, 1) := by decide +kernel
theorem dX6_departures_10 : decode cX6_departures 10 = .ok (.if_icmp .ge 195, 3) := by decide +kernel
theorem dX6_departures_13 : decode cX6_departures 13 = .ok (.aload_n 0, 1) := by decide +kernel
theorem dX6_departures_14 : decode cX6_departures 14 = .ok (.getfield 28, 3) := by decide +kernel
theorem dX6_departures_17 : decode cX6_departures 17 = .ok (.iload_n 3, 1) := by decide +kernel
theorem dX6_departures_18 : decode cX6_departures 18 = .ok (.iaload, 1) := by decide +kernel
theorem dX6_departures_19 : decode cX6_departures 19 = .ok (.istore 4, 2) := by decide +kernel
theorem dX6_departures_21 : decode cX6_departures 21 = .ok (.aload_n 0, 1) := by decide +kernel
theorem dX6_departures_22 : decode cX6_departures 22 = .ok (.iload 4, 2) := by decide +kernel
theorem dX6_departures_24 : decode cX6_departures 24 = .ok (.iconst 5, 1) := by decide +kernel
theorem dX6_departures_25 : decode cX6_departures 25 = .ok (.invokevirtual 79, 3) := by decide +kernel
theorem dX6_departures_28 : decode cX6_departures 28 = .ok (.aload_n 0, 1) := by decide +kernel
theorem dX6_departures_29 : decode cX6_departures 29 = .ok (.iload_n 1, 1) := by decide +kernel
theorem dX6_departures_30 : decode cX6_departures 30 = .ok (.iconst 1, 1) := by decide +kernel
theorem dX6_departures_31 : decode cX6_departures 31 = .ok (.invokevirtual 59, 3) := by decide +kernel
theorem dX6_departures_34 : decode cX6_departures 34 = .ok (.iadd, 1) := by decide +kernel
theorem dX6_departures_35 : decode cX6_departures 35 = .ok (.aload_n 0, 1) := by decide +kernel
theorem dX6_departures_36 : decode cX6_departures 36 = .ok (.getfield 69, 3) := by decide +kernel
theorem dX6_departures_39 : decode cX6_departures 39 = .ok (.if_icmp .le 6, 3) := by decide +kernel
theorem dX6_departures_42 : decode cX6_departures 42 = .ok (.goto 157, 3) := by decide +kernel
theorem dX6_departures_45 : decode cX6_departures 45 = .ok (.aload_n 0, 1) := by decide +kernel
theorem dX6_departures_46 : decode cX6_departures 46 = .ok (.iload_n 1, 1) := by decide +kernel
theorem dX6_departures_47 : decode cX6_departures 47 = .ok (.aload_n 0, 1) := by decide +kernel
theorem dX6_departures_48 : decode cX6_departures 48 = .ok (.iload 4, 2) := by decide +kernel
theorem dX6_departures_50 : decode cX6_departures 50 = .ok (.iconst 2, 1) := by decide +kernel
theorem dX6_departures_51 : decode cX6_departures 51 = .ok (.invokevirtual 79, 3) := by decide +kernel
theorem dX6_departures_54 : decode cX6_departures 54 = .ok (.invokevirtual 136, 3) := by decide +kernel
theorem dX6_departures_57 : decode cX6_departures 57 = .ok (.istore 5, 2) := by decide +kernel
theorem dX6_departures_59 : decode cX6_departures 59 = .ok (.iload 5, 2) := by decide +kernel
theorem dX6_departures_61 : decode cX6_departures 61 = .ok (.iconst (-1), 1) := by decide +kernel
theorem dX6_departures_62 : decode cX6_departures 62 = .ok (.if_icmp .ne 6, 3) := by decide +kernel
theorem dX6_departures_65 : decode cX6_departures 65 = .ok (.goto 134, 3) := by decide +kernel
theorem dX6_departures_68 : decode cX6_departures 68 = .ok (.aload_n 0, 1) := by decide +kernel
theorem dX6_departures_69 : decode cX6_departures 69 = .ok (.iload_n 1, 1) := by decide +kernel
theorem dX6_departures_70 : decode cX6_departures 70 = .ok (.iconst 5, 1) := by decide +kernel
theorem dX6_departures_71 : decode cX6_departures 71 = .ok (.iload 5, 2) := by decide +kernel
theorem dX6_departures_73 : decode cX6_departures 73 = .ok (.iadd, 1) := by decide +kernel
theorem dX6_departures_74 : decode cX6_departures 74 = .ok (.invokevirtual 59, 3) := by decide +kernel
theorem dX6_departures_77 : decode cX6_departures 77 = .ok (.istore 6, 2) := by decide +kernel
theorem dX6_departures_79 : decode cX6_departures 79 = .ok (.aload_n 0, 1) := by decide +kernel
theorem dX6_departures_80 : decode cX6_departures 80 = .ok (.iload 6, 2) := by decide +kernel
theorem dX6_departures_82 : decode cX6_departures 82 = .ok (.iconst 5, 1) := by decide +kernel
theorem dX6_departures_83 : decode cX6_departures 83 = .ok (.invokevirtual 66, 3) := by decide +kernel
theorem dX6_departures_86 : decode cX6_departures 86 = .ok (.ifCond .eq 113, 3) := by decide +kernel
theorem dX6_departures_89 : decode cX6_departures 89 = .ok (.aload_n 0, 1) := by decide +kernel
theorem dX6_departures_90 : decode cX6_departures 90 = .ok (.iconst 2, 1) := by decide +kernel
theorem dX6_departures_91 : decode cX6_departures 91 = .ok (.iload 6, 2) := by decide +kernel
theorem dX6_departures_93 : decode cX6_departures 93 = .ok (.invokevirtual 89, 3) := by decide +kernel
theorem dX6_departures_96 : decode cX6_departures 96 = .ok (.aload_n 0, 1) := by decide +kernel
theorem dX6_departures_97 : decode cX6_departures 97 = .ok (.iload 6, 2) := by decide +kernel
theorem dX6_departures_99 : decode cX6_departures 99 = .ok (.iconst 4, 1) := by decide +kernel
theorem dX6_departures_100 : decode cX6_departures 100 = .ok (.invokevirtual 66, 3) := by decide +kernel
theorem dX6_departures_103 : decode cX6_departures 103 = .ok (.if_icmp .ge 96, 3) := by decide +kernel
theorem dX6_departures_106 : decode cX6_departures 106 = .ok (.aload_n 0, 1) := by decide +kernel
theorem dX6_departures_107 : decode cX6_departures 107 = .ok (.iload 6, 2) := by decide +kernel
theorem dX6_departures_109 : decode cX6_departures 109 = .ok (.bipush 7, 2) := by decide +kernel
theorem dX6_departures_111 : decode cX6_departures 111 = .ok (.invokevirtual 66, 3) := by decide +kernel
theorem dX6_departures_114 : decode cX6_departures 114 = .ok (.aload_n 0, 1) := by decide +kernel
theorem dX6_departures_115 : decode cX6_departures 115 = .ok (.getfield 69, 3) := by decide +kernel
theorem dX6_departures_118 : decode cX6_departures 118 = .ok (.if_icmp .ne 6, 3) := by decide +kernel
theorem dX6_departures_121 : decode cX6_departures 121 = .ok (.goto 78, 3) := by decide +kernel
theorem dX6_departures_124 : decode cX6_departures 124 = .ok (.aload_n 0, 1) := by decide +kernel
theorem dX6_departures_125 : decode cX6_departures 125 = .ok (.iload 4, 2) := by decide +kernel
theorem dX6_departures_127 : decode cX6_departures 127 = .ok (.iconst 2, 1) := by decide +kernel
theorem dX6_departures_128 : decode cX6_departures 128 = .ok (.iload 6, 2) := by decide +kernel
theorem dX6_departures_130 : decode cX6_departures 130 = .ok (.invokevirtual 95, 3) := by decide +kernel
theorem dX6_departures_133 : decode cX6_departures 133 = .ok (.aload_n 0, 1) := by decide +kernel
theorem dX6_departures_134 : decode cX6_departures 134 = .ok (.iload 4, 2) := by decide +kernel
theorem dX6_departures_136 : decode cX6_departures 136 = .ok (.bipush 8, 2) := by decide +kernel
theorem dX6_departures_138 : decode cX6_departures 138 = .ok (.aload_n 0, 1) := by decide +kernel
theorem dX6_departures_139 : decode cX6_departures 139 = .ok (.iload 6, 2) := by decide +kernel
theorem dX6_departures_141 : decode cX6_departures 141 = .ok (.invokevirtual 104, 3) := by decide +kernel
theorem dX6_departures_144 : decode cX6_departures 144 = .ok (.invokevirtual 82, 3) := by decide +kernel
theorem dX6_departures_147 : decode cX6_departures 147 = .ok (.aload_n 0, 1) := by decide +kernel
theorem dX6_departures_148 : decode cX6_departures 148 = .ok (.iload 4, 2) := by decide +kernel
theorem dX6_departures_150 : decode cX6_departures 150 = .ok (.bipush 6, 2) := by decide +kernel
theorem dX6_departures_152 : decode cX6_departures 152 = .ok (.aload_n 0, 1) := by decide +kernel
theorem dX6_departures_153 : decode cX6_departures 153 = .ok (.iload 4, 2) := by decide +kernel
theorem dX6_departures_155 : decode cX6_departures 155 = .ok (.bipush 6, 2) := by decide +kernel
theorem dX6_departures_157 : decode cX6_departures 157 = .ok (.invokevirtual 79, 3) := by decide +kernel
theorem dX6_departures_160 : decode cX6_departures 160 = .ok (.iconst 1, 1) := by decide +kernel
theorem dX6_departures_161 : decode cX6_departures 161 = .ok (.iadd, 1) := by decide +kernel
theorem dX6_departures_162 : decode cX6_departures 162 = .ok (.invokevirtual 82, 3) := by decide +kernel
theorem dX6_departures_165 : decode cX6_departures 165 = .ok (.aload_n 0, 1) := by decide +kernel
theorem dX6_departures_166 : decode cX6_departures 166 = .ok (.getfield 13, 3) := by decide +kernel
theorem dX6_departures_169 : decode cX6_departures 169 = .ok (.bipush 8, 2) := by decide +kernel
theorem dX6_departures_171 : decode cX6_departures 171 = .ok (.iload 6, 2) := by decide +kernel
theorem dX6_departures_173 : decode cX6_departures 173 = .ok (.imul, 1) := by decide +kernel
theorem dX6_departures_174 : decode cX6_departures 174 = .ok (.bipush 6, 2) := by decide +kernel
theorem dX6_departures_176 : decode cX6_departures 176 = .ok (.iadd, 1) := by decide +kernel
theorem dX6_departures_177 : decode cX6_departures 177 = .ok (.dup2, 1) := by decide +kernel
theorem dX6_departures_178 : decode cX6_departures 178 = .ok (.iaload, 1) := by decide +kernel
theorem dX6_departures_179 : decode cX6_departures 179 = .ok (.iconst 1, 1) := by decide +kernel
theorem dX6_departures_180 : decode cX6_departures 180 = .ok (.iadd, 1) := by decide +kernel
theorem dX6_departures_181 : decode cX6_departures 181 = .ok (.iastore, 1) := by decide +kernel
theorem dX6_departures_182 : decode cX6_departures 182 = .ok (.aload_n 0, 1) := by decide +kernel
theorem dX6_departures_183 : decode cX6_departures 183 = .ok (.getfield 13, 3) := by decide +kernel
theorem dX6_departures_186 : decode cX6_departures 186 = .ok (.bipush 8, 2) := by decide +kernel
theorem dX6_departures_188 : decode cX6_departures 188 = .ok (.iload 6, 2) := by decide +kernel
theorem dX6_departures_190 : decode cX6_departures 190 = .ok (.imul, 1) := by decide +kernel
theorem dX6_departures_191 : decode cX6_departures 191 = .ok (.bipush 7, 2) := by decide +kernel
theorem dX6_departures_193 : decode cX6_departures 193 = .ok (.iadd, 1) := by decide +kernel
theorem dX6_departures_194 : decode cX6_departures 194 = .ok (.aload_n 0, 1) := by decide +kernel
theorem dX6_departures_195 : decode cX6_departures 195 = .ok (.getfield 69, 3) := by decide +kernel
theorem dX6_departures_198 : decode cX6_departures 198 = .ok (.iastore, 1) := by decide +kernel
theorem dX6_departures_199 : decode cX6_departures 199 = .ok (.iinc 3 1, 3) := by decide +kernel
theorem dX6_departures_202 : decode cX6_departures 202 = .ok (.goto (-194), 3) := by decide +kernel
theorem dX6_departures_205 : decode cX6_departures 205 = .ok (.return_, 1) := by decide +kernel
set_option maxRecDepth 20000 in
theorem ggX6_run_X6_isIn : GoodIn wsX6_run wsX6_isIn := goodIn_r _ [9] (by decide +kernel) (by decide +kernel)
set_option maxRecDepth 20000 in
theorem gX6_run_X6_isIn : GoodIn wsX6_run (va_wsS RX6 38 yX6_isIn wsX6_isIn) := goodIn_app (goodIn_of _ (by decide +kernel)) ggX6_run_X6_isIn
set_option maxRecDepth 20000 in
theorem ggX6_run_X6_fail : GoodIn wsX6_run wsX6_fail := goodIn_r _ [13, 1, 106, 107, 108, 109, 110, 111, 112, 113, 114, 115, 116, 117, 118, 119, 120, 121, 122] (by decide +kernel) (by decide +kernel)
set_option maxRecDepth 20000 in
theorem gX6_run_X6_fail : GoodIn wsX6_run (wsV RX6 45 RX6 yX6_fail wsX6_fail) := goodIn_app (goodIn_of _ (by decide +kernel)) ggX6_run_X6_fail
set_option maxRecDepth 20000 in
theorem ggX6_run_X6_clock : GoodIn wsX6_run wsX6_clock := goodIn_r _ [17, 18, 19, 3, 20, 21, 22, 23, 24, 8, 25, 26, 27, 28, 29, 30, 31, 32, 33, 34, 35, 36, 37, 38, 39, 40, 41, 42, 43, 44, 45, 46, 47, 48, 49, 50, 51, 52, 53, 54, 106, 107, 108, 109, 110, 111, 112, 113, 114, 115, 116, 117, 118, 119, 120, 121, 122] (by decide +kernel) (by decide +kernel)
set_option maxRecDepth 20000 in
theorem gX6_run_X6_clock : GoodIn wsX6_run (wsV RX6 139 RX6 yX6_clock wsX6_clock) := goodIn_app (goodIn_of _ (by decide +kernel)) ggX6_run_X6_clock
set_option maxRecDepth 20000 in
theorem ggX6_run_X6_arrivals : GoodIn wsX6_run wsX6_arrivals := goodIn_r _ [58, 59, 60, 61, 8, 62, 21, 63, 64, 65, 66, 26, 32, 33, 34, 35, 36, 37, 67, 68, 69, 70, 3, 71, 72, 73, 74, 20, 2, 75, 50, 51, 52, 53, 54, 46, 47, 48, 49, 28, 29, 30, 31, 38, 39, 40, 41, 106, 107, 108, 109, 110, 111, 112, 113, 114, 115, 116, 117, 118, 119, 120, 121, 122] (by decide +kernel) (by decide +kernel)
set_option maxRecDepth 20000 in
theorem gX6_run_X6_arrivals : GoodIn wsX6_run (wsV RX6 142 RX6 yX6_arrivals wsX6_arrivals) := goodIn_app (goodIn_of _ (by decide +kernel)) ggX6_run_X6_arrivals
set_option maxRecDepth 20000 in
theorem ggX6_run_X6_departures : GoodIn wsX6_run wsX6_departures := goodIn_r _ [79, 80, 3, 21, 81, 82, 83, 8, 84, 26, 32, 33, 34, 35, 36, 37, 85, 86, 87, 88, 38, 39, 40, 41, 20, 89, 90, 91, 92, 93, 94, 95, 96, 5, 97, 4, 59, 60, 61, 62, 98, 99, 100, 101, 102, 103, 104, 105, 28, 29, 30, 31, 50, 51, 52, 53, 54, 46, 47, 48, 49, 106, 107, 108, 109, 110, 111, 112, 113, 114, 115, 116, 117, 118, 119, 120, 121, 122] (by decide +kernel) (by decide +kernel)
set_option maxRecDepth 20000 in
theorem gX6_run_X6_departures : GoodIn wsX6_run (wsV RX6 145 RX6 yX6_departures wsX6_departures) := goodIn_app (goodIn_of _ (by decide +kernel)) ggX6_run_X6_departures
theorem dX6_run_0 : decode cX6_run 0 = .ok (.aload_n 0, 1) := by decide +kernel
theorem dX6_run_1 : decode cX6_run 1 = .ok (.iconst 0, 1) := by decide +kernel
theorem dX6_run_2 : decode cX6_run 2 = .ok (.putfield 31, 3) := by decide +kernel
theorem dX6_run_5 : decode cX6_run 5 = .ok (.iload_n 1, 1) := by decide +kernel
theorem dX6_run_6 : decode cX6_run 6 = .ok (.iconst 1, 1) := by decide +kernel
theorem dX6_run_7 : decode cX6_run 7 = .ok (.sipush 500, 3) := by decide +kernel
theorem dX6_run_10 : decode cX6_run 10 = .ok (.invokestatic 38, 3) := by decide +kernel
theorem dX6_run_13 : decode cX6_run 13 = .ok (.ifCond .ne 9, 3) := by decide +kernel
theorem dX6_run_16 : decode cX6_run 16 = .ok (.aload_n 0, 1) := by decide +kernel
theorem dX6_run_17 : decode cX6_run 17 = .ok (.iconst 1, 1) := by decide +kernel
theorem dX6_run_18 : decode cX6_run 18 = .ok (.invokevirtual 45, 3) := by decide +kernel
theorem dX6_run_21 : decode cX6_run 21 = .ok (.ireturn, 1) := by decide +kernel
theorem dX6_run_22 : decode cX6_run 22 = .ok (.aload_n 0, 1) := by decide +kernel
theorem dX6_run_23 : decode cX6_run 23 = .ok (.getfield 114, 3) := by decide +kernel
theorem dX6_run_26 : decode cX6_run 26 = .ok (.istore_n 2, 1) := by decide +kernel
theorem dX6_run_27 : decode cX6_run 27 = .ok (.iconst 0, 1) := by decide +kernel
theorem dX6_run_28 : decode cX6_run 28 = .ok (.istore_n 3, 1) := by decide +kernel
theorem dX6_run_29 : decode cX6_run 29 = .ok (.iload_n 3, 1) := by decide +kernel
theorem dX6_run_30 : decode cX6_run 30 = .ok (.iload_n 1, 1) := by decide +kernel
theorem dX6_run_31 : decode cX6_run 31 = .ok (.if_icmp .ge 71, 3) := by decide +kernel
theorem dX6_run_34 : decode cX6_run 34 = .ok (.aload_n 0, 1) := by decide +kernel
theorem dX6_run_35 : decode cX6_run 35 = .ok (.dup, 1) := by decide +kernel
theorem dX6_run_36 : decode cX6_run 36 = .ok (.getfield 69, 3) := by decide +kernel
theorem dX6_run_39 : decode cX6_run 39 = .ok (.iconst 1, 1) := by decide +kernel
theorem dX6_run_40 : decode cX6_run 40 = .ok (.iadd, 1) := by decide +kernel
theorem dX6_run_41 : decode cX6_run 41 = .ok (.putfield 69, 3) := by decide +kernel
theorem dX6_run_44 : decode cX6_run 44 = .ok (.aload_n 0, 1) := by decide +kernel
theorem dX6_run_45 : decode cX6_run 45 = .ok (.invokevirtual 139, 3) := by decide +kernel
theorem dX6_run_48 : decode cX6_run 48 = .ok (.iconst 0, 1) := by decide +kernel
theorem dX6_run_49 : decode cX6_run 49 = .ok (.istore 4, 2) := by decide +kernel
theorem dX6_run_51 : decode cX6_run 51 = .ok (.iload 4, 2) := by decide +kernel
theorem dX6_run_53 : decode cX6_run 53 = .ok (.aload_n 0, 1) := by decide +kernel
theorem dX6_run_54 : decode cX6_run 54 = .ok (.getfield 42, 3) := by decide +kernel
theorem dX6_run_57 : decode cX6_run 57 = .ok (.if_icmp .ge 15, 3) := by decide +kernel
theorem dX6_run_60 : decode cX6_run 60 = .ok (.aload_n 0, 1) := by decide +kernel
theorem dX6_run_61 : decode cX6_run 61 = .ok (.iload 4, 2) := by decide +kernel
theorem dX6_run_63 : decode cX6_run 63 = .ok (.invokevirtual 142, 3) := by decide +kernel
theorem dX6_run_66 : decode cX6_run 66 = .ok (.iinc 4 1, 3) := by decide +kernel
theorem dX6_run_69 : decode cX6_run 69 = .ok (.goto (-18), 3) := by decide +kernel
theorem dX6_run_72 : decode cX6_run 72 = .ok (.iconst 0, 1) := by decide +kernel
theorem dX6_run_73 : decode cX6_run 73 = .ok (.istore 4, 2) := by decide +kernel
theorem dX6_run_75 : decode cX6_run 75 = .ok (.iload 4, 2) := by decide +kernel
theorem dX6_run_77 : decode cX6_run 77 = .ok (.aload_n 0, 1) := by decide +kernel
theorem dX6_run_78 : decode cX6_run 78 = .ok (.getfield 35, 3) := by decide +kernel
theorem dX6_run_81 : decode cX6_run 81 = .ok (.if_icmp .ge 15, 3) := by decide +kernel
theorem dX6_run_84 : decode cX6_run 84 = .ok (.aload_n 0, 1) := by decide +kernel
theorem dX6_run_85 : decode cX6_run 85 = .ok (.iload 4, 2) := by decide +kernel
theorem dX6_run_87 : decode cX6_run 87 = .ok (.invokevirtual 145, 3) := by decide +kernel
theorem dX6_run_90 : decode cX6_run 90 = .ok (.iinc 4 1, 3) := by decide +kernel
theorem dX6_run_93 : decode cX6_run 93 = .ok (.goto (-18), 3) := by decide +kernel
theorem dX6_run_96 : decode cX6_run 96 = .ok (.iinc 3 1, 3) := by decide +kernel
theorem dX6_run_99 : decode cX6_run 99 = .ok (.goto (-70), 3) := by decide +kernel
theorem dX6_run_102 : decode cX6_run 102 = .ok (.aload_n 0, 1) := by decide +kernel
theorem dX6_run_103 : decode cX6_run 103 = .ok (.getfield 114, 3) := by decide +kernel
theorem dX6_run_106 : decode cX6_run 106 = .ok (.iload_n 2, 1) := by decide +kernel
theorem dX6_run_107 : decode cX6_run 107 = .ok (.isub, 1) := by decide +kernel
theorem dX6_run_108 : decode cX6_run 108 = .ok (.ireturn, 1) := by decide +kernel
set_option maxRecDepth 20000 in
theorem ggX6_carrier_X6_isIn : GoodIn wsX6_carrier wsX6_isIn := goodIn_r _ [6] (by decide +kernel) (by decide +kernel)
set_option maxRecDepth 20000 in
theorem gX6_carrier_X6_isIn : GoodIn wsX6_carrier (va_wsS RX6 38 yX6_isIn wsX6_isIn) := goodIn_app (goodIn_of _ (by decide +kernel)) ggX6_carrier_X6_isIn
set_option maxRecDepth 20000 in
theorem ggX6_carrier_X6_get : GoodIn wsX6_carrier wsX6_get := goodIn_r _ [10, 11, 16, 17, 18, 19, 20, 21, 22, 23, 24, 25, 26, 27, 28, 29, 30, 31, 32] (by decide +kernel) (by decide +kernel)
set_option maxRecDepth 20000 in
theorem gX6_carrier_X6_get : GoodIn wsX6_carrier (wsV RX6 79 RX6 yX6_get wsX6_get) := goodIn_app (goodIn_of _ (by decide +kernel)) ggX6_carrier_X6_get
set_option maxRecDepth 20000 in
theorem ggX6_carrier_X6_fail : GoodIn wsX6_carrier wsX6_fail := goodIn_r _ [15, 1, 16, 17, 18, 19, 20, 21, 22, 23, 24, 25, 26, 27, 28, 29, 30, 31, 32] (by decide +kernel) (by decide +kernel)
set_option maxRecDepth 20000 in
theorem gX6_carrier_X6_fail : GoodIn wsX6_carrier (wsV RX6 45 RX6 yX6_fail wsX6_fail) := goodIn_app (goodIn_of _ (by decide +kernel)) ggX6_carrier_X6_fail
theorem dX6_carrier_0 : decode cX6_carrier 0 = .ok (.aload_n 0, 1) := by decide +kernel
theorem dX6_carrier_1 : decode cX6_carrier 1 = .ok (.iconst 0, 1) := by decide +kernel
theorem dX6_carrier_2 : decode cX6_carrier 2 = .ok (.putfield 31, 3) := by decide +kernel
theorem dX6_carrier_5 : decode cX6_carrier 5 = .ok (.iload_n 1, 1) := by decide +kernel
theorem dX6_carrier_6 : decode cX6_carrier 6 = .ok (.iconst 0, 1) := by decide +kernel
theorem dX6_carrier_7 : decode cX6_carrier 7 = .ok (.aload_n 0, 1) := by decide +kernel
theorem dX6_carrier_8 : decode cX6_carrier 8 = .ok (.getfield 92, 3) := by decide +kernel
theorem dX6_carrier_11 : decode cX6_carrier 11 = .ok (.iconst 1, 1) := by decide +kernel
theorem dX6_carrier_12 : decode cX6_carrier 12 = .ok (.isub, 1) := by decide +kernel
theorem dX6_carrier_13 : decode cX6_carrier 13 = .ok (.invokestatic 38, 3) := by decide +kernel
theorem dX6_carrier_16 : decode cX6_carrier 16 = .ok (.ifCond .eq 22, 3) := by decide +kernel
theorem dX6_carrier_19 : decode cX6_carrier 19 = .ok (.iload_n 2, 1) := by decide +kernel
theorem dX6_carrier_20 : decode cX6_carrier 20 = .ok (.iconst 0, 1) := by decide +kernel
theorem dX6_carrier_21 : decode cX6_carrier 21 = .ok (.bipush 6, 2) := by decide +kernel
theorem dX6_carrier_23 : decode cX6_carrier 23 = .ok (.invokestatic 38, 3) := by decide +kernel
theorem dX6_carrier_26 : decode cX6_carrier 26 = .ok (.ifCond .eq 12, 3) := by decide +kernel
theorem dX6_carrier_29 : decode cX6_carrier 29 = .ok (.aload_n 0, 1) := by decide +kernel
theorem dX6_carrier_30 : decode cX6_carrier 30 = .ok (.iload_n 1, 1) := by decide +kernel
theorem dX6_carrier_31 : decode cX6_carrier 31 = .ok (.iload_n 2, 1) := by decide +kernel
theorem dX6_carrier_32 : decode cX6_carrier 32 = .ok (.invokevirtual 79, 3) := by decide +kernel
theorem dX6_carrier_35 : decode cX6_carrier 35 = .ok (.goto 8, 3) := by decide +kernel
theorem dX6_carrier_38 : decode cX6_carrier 38 = .ok (.aload_n 0, 1) := by decide +kernel
theorem dX6_carrier_39 : decode cX6_carrier 39 = .ok (.iconst 1, 1) := by decide +kernel
theorem dX6_carrier_40 : decode cX6_carrier 40 = .ok (.invokevirtual 45, 3) := by decide +kernel
theorem dX6_carrier_43 : decode cX6_carrier 43 = .ok (.ireturn, 1) := by decide +kernel
set_option maxRecDepth 20000 in
theorem ggX6_counted_X6_firstIn : GoodIn wsX6_counted wsX6_firstIn := goodIn_r _ [13, 6, 14, 15, 16, 17, 12, 18, 19, 24, 25, 26, 27, 28, 29, 30, 31, 32, 33, 34, 35, 36, 37, 38, 39, 40] (by decide +kernel) (by decide +kernel)
set_option maxRecDepth 20000 in
theorem gX6_counted_X6_firstIn : GoodIn wsX6_counted (wsV RX6 120 RX6 yX6_firstIn wsX6_firstIn) := goodIn_app (goodIn_of _ (by decide +kernel)) ggX6_counted_X6_firstIn
set_option maxRecDepth 20000 in
theorem ggX6_counted_X6_isDue : GoodIn wsX6_counted wsX6_isDue := goodIn_r _ [23, 1, 15, 16, 17, 12, 18, 19, 24, 25, 26, 27, 28, 29, 30, 31, 32, 33, 34, 35, 36, 37, 38, 39, 40] (by decide +kernel) (by decide +kernel)
set_option maxRecDepth 20000 in
theorem gX6_counted_X6_isDue : GoodIn wsX6_counted (wsV RX6 123 RX6 yX6_isDue wsX6_isDue) := goodIn_app (goodIn_of _ (by decide +kernel)) ggX6_counted_X6_isDue
theorem dX6_counted_0 : decode cX6_counted 0 = .ok (.iconst 0, 1) := by decide +kernel
theorem dX6_counted_1 : decode cX6_counted 1 = .ok (.istore_n 2, 1) := by decide +kernel
theorem dX6_counted_2 : decode cX6_counted 2 = .ok (.iload_n 1, 1) := by decide +kernel
theorem dX6_counted_3 : decode cX6_counted 3 = .ok (.tableswitch 118 0 7 #[45, 50, 55, 60, 65, 70, 75, 80], 45) := by decide +kernel
theorem dX6_counted_48 : decode cX6_counted 48 = .ok (.aload_n 0, 1) := by decide +kernel
theorem dX6_counted_49 : decode cX6_counted 49 = .ok (.getfield 69, 3) := by decide +kernel
theorem dX6_counted_52 : decode cX6_counted 52 = .ok (.ireturn, 1) := by decide +kernel
theorem dX6_counted_53 : decode cX6_counted 53 = .ok (.aload_n 0, 1) := by decide +kernel
theorem dX6_counted_54 : decode cX6_counted 54 = .ok (.getfield 35, 3) := by decide +kernel
theorem dX6_counted_57 : decode cX6_counted 57 = .ok (.ireturn, 1) := by decide +kernel
theorem dX6_counted_58 : decode cX6_counted 58 = .ok (.aload_n 0, 1) := by decide +kernel
theorem dX6_counted_59 : decode cX6_counted 59 = .ok (.getfield 42, 3) := by decide +kernel
theorem dX6_counted_62 : decode cX6_counted 62 = .ok (.ireturn, 1) := by decide +kernel
theorem dX6_counted_63 : decode cX6_counted 63 = .ok (.aload_n 0, 1) := by decide +kernel
theorem dX6_counted_64 : decode cX6_counted 64 = .ok (.getfield 73, 3) := by decide +kernel
theorem dX6_counted_67 : decode cX6_counted 67 = .ok (.ireturn, 1) := by decide +kernel
theorem dX6_counted_68 : decode cX6_counted 68 = .ok (.aload_n 0, 1) := by decide +kernel
theorem dX6_counted_69 : decode cX6_counted 69 = .ok (.getfield 92, 3) := by decide +kernel
theorem dX6_counted_72 : decode cX6_counted 72 = .ok (.ireturn, 1) := by decide +kernel
theorem dX6_counted_73 : decode cX6_counted 73 = .ok (.aload_n 0, 1) := by decide +kernel
theorem dX6_counted_74 : decode cX6_counted 74 = .ok (.getfield 76, 3) := by decide +kernel
theorem dX6_counted_77 : decode cX6_counted 77 = .ok (.ireturn, 1) := by decide +kernel
theorem dX6_counted_78 : decode cX6_counted 78 = .ok (.aload_n 0, 1) := by decide +kernel
theorem dX6_counted_79 : decode cX6_counted 79 = .ok (.getfield 114, 3) := by decide +kernel
theorem dX6_counted_82 : decode cX6_counted 82 = .ok (.ireturn, 1) := by decide +kernel
theorem dX6_counted_83 : decode cX6_counted 83 = .ok (.iconst 0, 1) := by decide +kernel
theorem dX6_counted_84 : decode cX6_counted 84 = .ok (.istore_n 3, 1) := by decide +kernel
theorem dX6_counted_85 : decode cX6_counted 85 = .ok (.iload_n 3, 1) := by decide +kernel
theorem dX6_counted_86 : decode cX6_counted 86 = .ok (.aload_n 0, 1) := by decide +kernel
theorem dX6_counted_87 : decode cX6_counted 87 = .ok (.getfield 42, 3) := by decide +kernel
theorem dX6_counted_90 : decode cX6_counted 90 = .ok (.if_icmp .ge 29, 3) := by decide +kernel
theorem dX6_counted_93 : decode cX6_counted 93 = .ok (.iload_n 2, 1) := by decide +kernel
theorem dX6_counted_94 : decode cX6_counted 94 = .ok (.aload_n 0, 1) := by decide +kernel
theorem dX6_counted_95 : decode cX6_counted 95 = .ok (.aload_n 0, 1) := by decide +kernel
theorem dX6_counted_96 : decode cX6_counted 96 = .ok (.iload_n 3, 1) := by decide +kernel
theorem dX6_counted_97 : decode cX6_counted 97 = .ok (.invokevirtual 120, 3) := by decide +kernel
theorem dX6_counted_100 : decode cX6_counted 100 = .ok (.invokevirtual 123, 3) := by decide +kernel
theorem dX6_counted_103 : decode cX6_counted 103 = .ok (.ifCond .eq 7, 3) := by decide +kernel
theorem dX6_counted_106 : decode cX6_counted 106 = .ok (.iconst 1, 1) := by decide +kernel
theorem dX6_counted_107 : decode cX6_counted 107 = .ok (.goto 4, 3) := by decide +kernel
theorem dX6_counted_110 : decode cX6_counted 110 = .ok (.iconst 0, 1) := by decide +kernel
theorem dX6_counted_111 : decode cX6_counted 111 = .ok (.iadd, 1) := by decide +kernel
theorem dX6_counted_112 : decode cX6_counted 112 = .ok (.istore_n 2, 1) := by decide +kernel
theorem dX6_counted_113 : decode cX6_counted 113 = .ok (.iinc 3 1, 3) := by decide +kernel
theorem dX6_counted_116 : decode cX6_counted 116 = .ok (.goto (-31), 3) := by decide +kernel
theorem dX6_counted_119 : decode cX6_counted 119 = .ok (.iload_n 2, 1) := by decide +kernel
theorem dX6_counted_120 : decode cX6_counted 120 = .ok (.ireturn, 1) := by decide +kernel
theorem dX6_counted_121 : decode cX6_counted 121 = .ok (.aload_n 0, 1) := by decide +kernel
theorem dX6_counted_122 : decode cX6_counted 122 = .ok (.getfield 117, 3) := by decide +kernel
theorem dX6_counted_125 : decode cX6_counted 125 = .ok (.ireturn, 1) := by decide +kernel
set_option maxRecDepth 20000 in
theorem ggX6_count_X6_isIn : GoodIn wsX6_count wsX6_isIn := goodIn_r _ [5] (by decide +kernel) (by decide +kernel)
set_option maxRecDepth 20000 in
theorem gX6_count_X6_isIn : GoodIn wsX6_count (va_wsS RX6 38 yX6_isIn wsX6_isIn) := goodIn_app (goodIn_of _ (by decide +kernel)) ggX6_count_X6_isIn
set_option maxRecDepth 20000 in
theorem ggX6_count_X6_counted : GoodIn wsX6_count wsX6_counted := goodIn_r _ [9, 10, 11, 12, 13, 14, 15, 16, 17, 18, 19, 20, 4, 21, 22, 23, 24, 25, 26, 27, 28, 29, 30, 31, 36, 37, 38, 39, 40, 41, 42, 43, 44, 45, 46, 47, 48, 49, 50, 51, 52] (by decide +kernel) (by decide +kernel)
set_option maxRecDepth 20000 in
theorem gX6_count_X6_counted : GoodIn wsX6_count (wsV RX6 148 RX6 yX6_counted wsX6_counted) := goodIn_app (goodIn_of _ (by decide +kernel)) ggX6_count_X6_counted
set_option maxRecDepth 20000 in
theorem ggX6_count_X6_fail : GoodIn wsX6_count wsX6_fail := goodIn_r _ [35, 1, 36, 37, 38, 39, 40, 41, 42, 43, 44, 45, 46, 47, 48, 49, 50, 51, 52] (by decide +kernel) (by decide +kernel)
set_option maxRecDepth 20000 in
theorem gX6_count_X6_fail : GoodIn wsX6_count (wsV RX6 45 RX6 yX6_fail wsX6_fail) := goodIn_app (goodIn_of _ (by decide +kernel)) ggX6_count_X6_fail
theorem dX6_count_0 : decode cX6_count 0 = .ok (.aload_n 0, 1) := by decide +kernel
theorem dX6_count_1 : decode cX6_count 1 = .ok (.iconst 0, 1) := by decide +kernel
theorem dX6_count_2 : decode cX6_count 2 = .ok (.putfield 31, 3) := by decide +kernel
theorem dX6_count_5 : decode cX6_count 5 = .ok (.iload_n 1, 1) := by decide +kernel
theorem dX6_count_6 : decode cX6_count 6 = .ok (.iconst 0, 1) := by decide +kernel
theorem dX6_count_7 : decode cX6_count 7 = .ok (.bipush 8, 2) := by decide +kernel
theorem dX6_count_9 : decode cX6_count 9 = .ok (.invokestatic 38, 3) := by decide +kernel
theorem dX6_count_12 : decode cX6_count 12 = .ok (.ifCond .eq 11, 3) := by decide +kernel
theorem dX6_count_15 : decode cX6_count 15 = .ok (.aload_n 0, 1) := by decide +kernel
theorem dX6_count_16 : decode cX6_count 16 = .ok (.iload_n 1, 1) := by decide +kernel
theorem dX6_count_17 : decode cX6_count 17 = .ok (.invokevirtual 148, 3) := by decide +kernel
theorem dX6_count_20 : decode cX6_count 20 = .ok (.goto 8, 3) := by decide +kernel
theorem dX6_count_23 : decode cX6_count 23 = .ok (.aload_n 0, 1) := by decide +kernel
theorem dX6_count_24 : decode cX6_count 24 = .ok (.iconst 1, 1) := by decide +kernel
theorem dX6_count_25 : decode cX6_count 25 = .ok (.invokevirtual 45, 3) := by decide +kernel
theorem dX6_count_28 : decode cX6_count 28 = .ok (.ireturn, 1) := by decide +kernel
set_option maxRecDepth 20000 in
theorem ggX6_stationTold_X6_st : GoodIn wsX6_stationTold wsX6_st := goodIn_r _ [5, 6, 18, 19, 20, 21, 22, 23, 24, 25, 26, 27, 28, 29, 30, 31, 32, 33, 34] (by decide +kernel) (by decide +kernel)
set_option maxRecDepth 20000 in
theorem gX6_stationTold_X6_st : GoodIn wsX6_stationTold (wsV RX6 59 RX6 yX6_st wsX6_st) := goodIn_app (goodIn_of _ (by decide +kernel)) ggX6_stationTold_X6_st
set_option maxRecDepth 20000 in
theorem ggX6_stationTold_X6_manyAt : GoodIn wsX6_stationTold wsX6_manyAt := goodIn_r _ [10, 11, 12, 13, 14, 15, 4, 16, 17, 18, 19, 20, 21, 22, 23, 24, 25, 26, 27, 28, 29, 30, 31, 32, 33, 34] (by decide +kernel) (by decide +kernel)
set_option maxRecDepth 20000 in
theorem gX6_stationTold_X6_manyAt : GoodIn wsX6_stationTold (wsV RX6 89 RX6 yX6_manyAt wsX6_manyAt) := goodIn_app (goodIn_of _ (by decide +kernel)) ggX6_stationTold_X6_manyAt
theorem dX6_stationTold_0 : decode cX6_stationTold 0 = .ok (.iload_n 2, 1) := by decide +kernel
theorem dX6_stationTold_1 : decode cX6_stationTold 1 = .ok (.iconst 4, 1) := by decide +kernel
theorem dX6_stationTold_2 : decode cX6_stationTold 2 = .ok (.if_icmp .ge 12, 3) := by decide +kernel
theorem dX6_stationTold_5 : decode cX6_stationTold 5 = .ok (.aload_n 0, 1) := by decide +kernel
theorem dX6_stationTold_6 : decode cX6_stationTold 6 = .ok (.iload_n 1, 1) := by decide +kernel
theorem dX6_stationTold_7 : decode cX6_stationTold 7 = .ok (.iload_n 2, 1) := by decide +kernel
theorem dX6_stationTold_8 : decode cX6_stationTold 8 = .ok (.invokevirtual 59, 3) := by decide +kernel
theorem dX6_stationTold_11 : decode cX6_stationTold 11 = .ok (.goto 23, 3) := by decide +kernel
theorem dX6_stationTold_14 : decode cX6_stationTold 14 = .ok (.iload_n 2, 1) := by decide +kernel
theorem dX6_stationTold_15 : decode cX6_stationTold 15 = .ok (.iconst 4, 1) := by decide +kernel
theorem dX6_stationTold_16 : decode cX6_stationTold 16 = .ok (.if_icmp .ne 12, 3) := by decide +kernel
theorem dX6_stationTold_19 : decode cX6_stationTold 19 = .ok (.aload_n 0, 1) := by decide +kernel
theorem dX6_stationTold_20 : decode cX6_stationTold 20 = .ok (.iconst 1, 1) := by decide +kernel
theorem dX6_stationTold_21 : decode cX6_stationTold 21 = .ok (.iload_n 1, 1) := by decide +kernel
theorem dX6_stationTold_22 : decode cX6_stationTold 22 = .ok (.invokevirtual 89, 3) := by decide +kernel
theorem dX6_stationTold_25 : decode cX6_stationTold 25 = .ok (.goto 9, 3) := by decide +kernel
theorem dX6_stationTold_28 : decode cX6_stationTold 28 = .ok (.aload_n 0, 1) := by decide +kernel
theorem dX6_stationTold_29 : decode cX6_stationTold 29 = .ok (.iload_n 1, 1) := by decide +kernel
theorem dX6_stationTold_30 : decode cX6_stationTold 30 = .ok (.iconst 4, 1) := by decide +kernel
theorem dX6_stationTold_31 : decode cX6_stationTold 31 = .ok (.invokevirtual 59, 3) := by decide +kernel
theorem dX6_stationTold_34 : decode cX6_stationTold 34 = .ok (.ireturn, 1) := by decide +kernel
set_option maxRecDepth 20000 in
theorem ggX6_station_X6_isStation : GoodIn wsX6_station wsX6_isStation := goodIn_r _ [6, 7, 8, 9, 5, 10, 35, 36, 37, 38, 39, 40, 41, 42, 43, 44, 45, 46, 47, 48, 49, 50, 51] (by decide +kernel) (by decide +kernel)
set_option maxRecDepth 20000 in
theorem gX6_station_X6_isStation : GoodIn wsX6_station (wsV RX6 55 RX6 yX6_isStation wsX6_isStation) := goodIn_app (goodIn_of _ (by decide +kernel)) ggX6_station_X6_isStation
set_option maxRecDepth 20000 in
theorem ggX6_station_X6_isIn : GoodIn wsX6_station wsX6_isIn := goodIn_r _ [10] (by decide +kernel) (by decide +kernel)
set_option maxRecDepth 20000 in
theorem gX6_station_X6_isIn : GoodIn wsX6_station (va_wsS RX6 38 yX6_isIn wsX6_isIn) := goodIn_app (goodIn_of _ (by decide +kernel)) ggX6_station_X6_isIn
set_option maxRecDepth 20000 in
theorem ggX6_station_X6_stationTold : GoodIn wsX6_station wsX6_stationTold := goodIn_r _ [14, 15, 16, 17, 5, 18, 19, 20, 21, 22, 23, 24, 25, 26, 27, 28, 29, 30, 35, 36, 37, 38, 39, 40, 41, 42, 43, 44, 45, 46, 47, 48, 49, 50, 51] (by decide +kernel) (by decide +kernel)
set_option maxRecDepth 20000 in
theorem gX6_station_X6_stationTold : GoodIn wsX6_station (wsV RX6 151 RX6 yX6_stationTold wsX6_stationTold) := goodIn_app (goodIn_of _ (by decide +kernel)) ggX6_station_X6_stationTold
set_option maxRecDepth 20000 in
theorem ggX6_station_X6_fail : GoodIn wsX6_station wsX6_fail := goodIn_r _ [34, 1, 35, 36, 37, 38, 39, 40, 41, 42, 43, 44, 45, 46, 47, 48, 49, 50, 51] (by decide +kernel) (by decide +kernel)
set_option maxRecDepth 20000 in
theorem gX6_station_X6_fail : GoodIn wsX6_station (wsV RX6 45 RX6 yX6_fail wsX6_fail) := goodIn_app (goodIn_of _ (by decide +kernel)) ggX6_station_X6_fail
theorem dX6_station_0 : decode cX6_station 0 = .ok (.aload_n 0, 1) := by decide +kernel
theorem dX6_station_1 : decode cX6_station 1 = .ok (.iconst 0, 1) := by decide +kernel
theorem dX6_station_2 : decode cX6_station 2 = .ok (.putfield 31, 3) := by decide +kernel
theorem dX6_station_5 : decode cX6_station 5 = .ok (.aload_n 0, 1) := by decide +kernel
theorem dX6_station_6 : decode cX6_station 6 = .ok (.iload_n 1, 1) := by decide +kernel
theorem dX6_station_7 : decode cX6_station 7 = .ok (.invokevirtual 55, 3) := by decide +kernel
theorem dX6_station_10 : decode cX6_station 10 = .ok (.ifCond .eq 21, 3) := by decide +kernel
theorem dX6_station_13 : decode cX6_station 13 = .ok (.iload_n 2, 1) := by decide +kernel
theorem dX6_station_14 : decode cX6_station 14 = .ok (.iconst 0, 1) := by decide +kernel
theorem dX6_station_15 : decode cX6_station 15 = .ok (.iconst 5, 1) := by decide +kernel
theorem dX6_station_16 : decode cX6_station 16 = .ok (.invokestatic 38, 3) := by decide +kernel
theorem dX6_station_19 : decode cX6_station 19 = .ok (.ifCond .eq 12, 3) := by decide +kernel
theorem dX6_station_22 : decode cX6_station 22 = .ok (.aload_n 0, 1) := by decide +kernel
theorem dX6_station_23 : decode cX6_station 23 = .ok (.iload_n 1, 1) := by decide +kernel
theorem dX6_station_24 : decode cX6_station 24 = .ok (.iload_n 2, 1) := by decide +kernel
theorem dX6_station_25 : decode cX6_station 25 = .ok (.invokevirtual 151, 3) := by decide +kernel
theorem dX6_station_28 : decode cX6_station 28 = .ok (.goto 8, 3) := by decide +kernel
theorem dX6_station_31 : decode cX6_station 31 = .ok (.aload_n 0, 1) := by decide +kernel
theorem dX6_station_32 : decode cX6_station 32 = .ok (.iconst 1, 1) := by decide +kernel
theorem dX6_station_33 : decode cX6_station 33 = .ok (.invokevirtual 45, 3) := by decide +kernel
theorem dX6_station_36 : decode cX6_station 36 = .ok (.ireturn, 1) := by decide +kernel
set_option maxRecDepth 20000 in
theorem ggX6_tubeTold_X6_tu : GoodIn wsX6_tubeTold wsX6_tu := goodIn_r _ [5, 6, 27, 28, 29, 30, 31, 32, 33, 34, 35, 36, 37, 38, 39, 40, 41, 42, 43] (by decide +kernel) (by decide +kernel)
set_option maxRecDepth 20000 in
theorem gX6_tubeTold_X6_tu : GoodIn wsX6_tubeTold (wsV RX6 66 RX6 yX6_tu wsX6_tu) := goodIn_app (goodIn_of _ (by decide +kernel)) ggX6_tubeTold_X6_tu
set_option maxRecDepth 20000 in
theorem ggX6_tubeTold_X6_manyAt : GoodIn wsX6_tubeTold wsX6_manyAt := goodIn_r _ [10, 11, 12, 13, 14, 15, 4, 16, 17, 27, 28, 29, 30, 31, 32, 33, 34, 35, 36, 37, 38, 39, 40, 41, 42, 43] (by decide +kernel) (by decide +kernel)
set_option maxRecDepth 20000 in
theorem gX6_tubeTold_X6_manyAt : GoodIn wsX6_tubeTold (wsV RX6 89 RX6 yX6_manyAt wsX6_manyAt) := goodIn_app (goodIn_of _ (by decide +kernel)) ggX6_tubeTold_X6_manyAt
set_option maxRecDepth 20000 in
theorem ggX6_tubeTold_X6_firstIn : GoodIn wsX6_tubeTold wsX6_firstIn := goodIn_r _ [21, 11, 12, 13, 14, 15, 4, 16, 17, 27, 28, 29, 30, 31, 32, 33, 34, 35, 36, 37, 38, 39, 40, 41, 42, 43] (by decide +kernel) (by decide +kernel)
set_option maxRecDepth 20000 in
theorem gX6_tubeTold_X6_firstIn : GoodIn wsX6_tubeTold (wsV RX6 120 RX6 yX6_firstIn wsX6_firstIn) := goodIn_app (goodIn_of _ (by decide +kernel)) ggX6_tubeTold_X6_firstIn
set_option maxRecDepth 20000 in
theorem ggX6_tubeTold_X6_isDue : GoodIn wsX6_tubeTold wsX6_isDue := goodIn_r _ [25, 26, 13, 14, 15, 4, 16, 17, 27, 28, 29, 30, 31, 32, 33, 34, 35, 36, 37, 38, 39, 40, 41, 42, 43] (by decide +kernel) (by decide +kernel)
set_option maxRecDepth 20000 in
theorem gX6_tubeTold_X6_isDue : GoodIn wsX6_tubeTold (wsV RX6 123 RX6 yX6_isDue wsX6_isDue) := goodIn_app (goodIn_of _ (by decide +kernel)) ggX6_tubeTold_X6_isDue
theorem dX6_tubeTold_0 : decode cX6_tubeTold 0 = .ok (.iload_n 2, 1) := by decide +kernel
theorem dX6_tubeTold_1 : decode cX6_tubeTold 1 = .ok (.bipush 6, 2) := by decide +kernel
theorem dX6_tubeTold_3 : decode cX6_tubeTold 3 = .ok (.if_icmp .ge 10, 3) := by decide +kernel
theorem dX6_tubeTold_6 : decode cX6_tubeTold 6 = .ok (.aload_n 0, 1) := by decide +kernel
theorem dX6_tubeTold_7 : decode cX6_tubeTold 7 = .ok (.iload_n 1, 1) := by decide +kernel
theorem dX6_tubeTold_8 : decode cX6_tubeTold 8 = .ok (.iload_n 2, 1) := by decide +kernel
theorem dX6_tubeTold_9 : decode cX6_tubeTold 9 = .ok (.invokevirtual 66, 3) := by decide +kernel
theorem dX6_tubeTold_12 : decode cX6_tubeTold 12 = .ok (.ireturn, 1) := by decide +kernel
theorem dX6_tubeTold_13 : decode cX6_tubeTold 13 = .ok (.iload_n 2, 1) := by decide +kernel
theorem dX6_tubeTold_14 : decode cX6_tubeTold 14 = .ok (.bipush 6, 2) := by decide +kernel
theorem dX6_tubeTold_16 : decode cX6_tubeTold 16 = .ok (.if_icmp .ne 12, 3) := by decide +kernel
theorem dX6_tubeTold_19 : decode cX6_tubeTold 19 = .ok (.aload_n 0, 1) := by decide +kernel
theorem dX6_tubeTold_20 : decode cX6_tubeTold 20 = .ok (.iconst 2, 1) := by decide +kernel
theorem dX6_tubeTold_21 : decode cX6_tubeTold 21 = .ok (.iload_n 1, 1) := by decide +kernel
theorem dX6_tubeTold_22 : decode cX6_tubeTold 22 = .ok (.invokevirtual 89, 3) := by decide +kernel
theorem dX6_tubeTold_25 : decode cX6_tubeTold 25 = .ok (.goto 36, 3) := by decide +kernel
theorem dX6_tubeTold_28 : decode cX6_tubeTold 28 = .ok (.iload_n 2, 1) := by decide +kernel
theorem dX6_tubeTold_29 : decode cX6_tubeTold 29 = .ok (.bipush 7, 2) := by decide +kernel
theorem dX6_tubeTold_31 : decode cX6_tubeTold 31 = .ok (.if_icmp .ne 23, 3) := by decide +kernel
theorem dX6_tubeTold_34 : decode cX6_tubeTold 34 = .ok (.aload_n 0, 1) := by decide +kernel
theorem dX6_tubeTold_35 : decode cX6_tubeTold 35 = .ok (.aload_n 0, 1) := by decide +kernel
theorem dX6_tubeTold_36 : decode cX6_tubeTold 36 = .ok (.iload_n 1, 1) := by decide +kernel
theorem dX6_tubeTold_37 : decode cX6_tubeTold 37 = .ok (.invokevirtual 120, 3) := by decide +kernel
theorem dX6_tubeTold_40 : decode cX6_tubeTold 40 = .ok (.invokevirtual 123, 3) := by decide +kernel
theorem dX6_tubeTold_43 : decode cX6_tubeTold 43 = .ok (.ifCond .eq 7, 3) := by decide +kernel
theorem dX6_tubeTold_46 : decode cX6_tubeTold 46 = .ok (.iconst 1, 1) := by decide +kernel
theorem dX6_tubeTold_47 : decode cX6_tubeTold 47 = .ok (.goto 14, 3) := by decide +kernel
theorem dX6_tubeTold_50 : decode cX6_tubeTold 50 = .ok (.iconst 0, 1) := by decide +kernel
theorem dX6_tubeTold_51 : decode cX6_tubeTold 51 = .ok (.goto 10, 3) := by decide +kernel
theorem dX6_tubeTold_54 : decode cX6_tubeTold 54 = .ok (.aload_n 0, 1) := by decide +kernel
theorem dX6_tubeTold_55 : decode cX6_tubeTold 55 = .ok (.iload_n 1, 1) := by decide +kernel
theorem dX6_tubeTold_56 : decode cX6_tubeTold 56 = .ok (.bipush 6, 2) := by decide +kernel
theorem dX6_tubeTold_58 : decode cX6_tubeTold 58 = .ok (.invokevirtual 66, 3) := by decide +kernel
theorem dX6_tubeTold_61 : decode cX6_tubeTold 61 = .ok (.ireturn, 1) := by decide +kernel
set_option maxRecDepth 20000 in
theorem ggX6_tube_X6_isTube : GoodIn wsX6_tube wsX6_isTube := goodIn_r _ [6, 7, 8, 9, 5, 10, 44, 45, 46, 47, 48, 49, 50, 51, 52, 53, 54, 55, 56, 57, 58, 59, 60] (by decide +kernel) (by decide +kernel)
set_option maxRecDepth 20000 in
theorem gX6_tube_X6_isTube : GoodIn wsX6_tube (wsV RX6 63 RX6 yX6_isTube wsX6_isTube) := goodIn_app (goodIn_of _ (by decide +kernel)) ggX6_tube_X6_isTube
set_option maxRecDepth 20000 in
theorem ggX6_tube_X6_isIn : GoodIn wsX6_tube wsX6_isIn := goodIn_r _ [10] (by decide +kernel) (by decide +kernel)
set_option maxRecDepth 20000 in
theorem gX6_tube_X6_isIn : GoodIn wsX6_tube (va_wsS RX6 38 yX6_isIn wsX6_isIn) := goodIn_app (goodIn_of _ (by decide +kernel)) ggX6_tube_X6_isIn
set_option maxRecDepth 20000 in
theorem ggX6_tube_X6_tubeTold : GoodIn wsX6_tube wsX6_tubeTold := goodIn_r _ [14, 15, 16, 17, 5, 18, 19, 20, 21, 22, 23, 24, 25, 26, 27, 28, 29, 30, 31, 32, 33, 34, 35, 36, 37, 38, 39, 44, 45, 46, 47, 48, 49, 50, 51, 52, 53, 54, 55, 56, 57, 58, 59, 60] (by decide +kernel) (by decide +kernel)
set_option maxRecDepth 20000 in
theorem gX6_tube_X6_tubeTold : GoodIn wsX6_tube (wsV RX6 154 RX6 yX6_tubeTold wsX6_tubeTold) := goodIn_app (goodIn_of _ (by decide +kernel)) ggX6_tube_X6_tubeTold
set_option maxRecDepth 20000 in
theorem ggX6_tube_X6_fail : GoodIn wsX6_tube wsX6_fail := goodIn_r _ [43, 1, 44, 45, 46, 47, 48, 49, 50, 51, 52, 53, 54, 55, 56, 57, 58, 59, 60] (by decide +kernel) (by decide +kernel)
set_option maxRecDepth 20000 in
theorem gX6_tube_X6_fail : GoodIn wsX6_tube (wsV RX6 45 RX6 yX6_fail wsX6_fail) := goodIn_app (goodIn_of _ (by decide +kernel)) ggX6_tube_X6_fail
theorem dX6_tube_0 : decode cX6_tube 0 = .ok (.aload_n 0, 1) := by decide +kernel
theorem dX6_tube_1 : decode cX6_tube 1 = .ok (.iconst 0, 1) := by decide +kernel
theorem dX6_tube_2 : decode cX6_tube 2 = .ok (.putfield 31, 3) := by decide +kernel
theorem dX6_tube_5 : decode cX6_tube 5 = .ok (.aload_n 0, 1) := by decide +kernel
theorem dX6_tube_6 : decode cX6_tube 6 = .ok (.iload_n 1, 1) := by decide +kernel
theorem dX6_tube_7 : decode cX6_tube 7 = .ok (.invokevirtual 63, 3) := by decide +kernel
theorem dX6_tube_10 : decode cX6_tube 10 = .ok (.ifCond .eq 22, 3) := by decide +kernel
theorem dX6_tube_13 : decode cX6_tube 13 = .ok (.iload_n 2, 1) := by decide +kernel
theorem dX6_tube_14 : decode cX6_tube 14 = .ok (.iconst 0, 1) := by decide +kernel
theorem dX6_tube_15 : decode cX6_tube 15 = .ok (.bipush 8, 2) := by decide +kernel
theorem dX6_tube_17 : decode cX6_tube 17 = .ok (.invokestatic 38, 3) := by decide +kernel
theorem dX6_tube_20 : decode cX6_tube 20 = .ok (.ifCond .eq 12, 3) := by decide +kernel
theorem dX6_tube_23 : decode cX6_tube 23 = .ok (.aload_n 0, 1) := by decide +kernel
theorem dX6_tube_24 : decode cX6_tube 24 = .ok (.iload_n 1, 1) := by decide +kernel
theorem dX6_tube_25 : decode cX6_tube 25 = .ok (.iload_n 2, 1) := by decide +kernel
theorem dX6_tube_26 : decode cX6_tube 26 = .ok (.invokevirtual 154, 3) := by decide +kernel
theorem dX6_tube_29 : decode cX6_tube 29 = .ok (.goto 8, 3) := by decide +kernel
theorem dX6_tube_32 : decode cX6_tube 32 = .ok (.aload_n 0, 1) := by decide +kernel
theorem dX6_tube_33 : decode cX6_tube 33 = .ok (.iconst 1, 1) := by decide +kernel
theorem dX6_tube_34 : decode cX6_tube 34 = .ok (.invokevirtual 45, 3) := by decide +kernel
theorem dX6_tube_37 : decode cX6_tube 37 = .ok (.ireturn, 1) := by decide +kernel
set_option maxRecDepth 20000 in
theorem ggX6_there_X6_isStation : GoodIn wsX6_there wsX6_isStation := goodIn_r _ [7, 8, 9, 10, 6, 11, 31, 32, 33, 34, 35, 36, 37, 38, 39, 40, 41, 42, 43, 44, 45, 46, 47] (by decide +kernel) (by decide +kernel)
set_option maxRecDepth 20000 in
theorem gX6_there_X6_isStation : GoodIn wsX6_there (wsV RX6 55 RX6 yX6_isStation wsX6_isStation) := goodIn_app (goodIn_of _ (by decide +kernel)) ggX6_there_X6_isStation
set_option maxRecDepth 20000 in
theorem ggX6_there_X6_line : GoodIn wsX6_there wsX6_line := goodIn_r _ [15, 16, 17, 2, 18, 19, 20, 6, 21, 22, 23, 24, 25, 26, 31, 32, 33, 34, 35, 36, 37, 38, 39, 40, 41, 42, 43, 44, 45, 46, 47] (by decide +kernel) (by decide +kernel)
set_option maxRecDepth 20000 in
theorem gX6_there_X6_line : GoodIn wsX6_there (wsV RX6 133 RX6 yX6_line wsX6_line) := goodIn_app (goodIn_of _ (by decide +kernel)) ggX6_there_X6_line
set_option maxRecDepth 20000 in
theorem ggX6_there_X6_isIn : GoodIn wsX6_there wsX6_isIn := goodIn_r _ [11] (by decide +kernel) (by decide +kernel)
set_option maxRecDepth 20000 in
theorem gX6_there_X6_isIn : GoodIn wsX6_there (va_wsS RX6 38 yX6_isIn wsX6_isIn) := goodIn_app (goodIn_of _ (by decide +kernel)) ggX6_there_X6_isIn
set_option maxRecDepth 20000 in
theorem ggX6_there_X6_fail : GoodIn wsX6_there wsX6_fail := goodIn_r _ [30, 1, 31, 32, 33, 34, 35, 36, 37, 38, 39, 40, 41, 42, 43, 44, 45, 46, 47] (by decide +kernel) (by decide +kernel)
set_option maxRecDepth 20000 in
theorem gX6_there_X6_fail : GoodIn wsX6_there (wsV RX6 45 RX6 yX6_fail wsX6_fail) := goodIn_app (goodIn_of _ (by decide +kernel)) ggX6_there_X6_fail
theorem dX6_there_0 : decode cX6_there 0 = .ok (.aload_n 0, 1) := by decide +kernel
theorem dX6_there_1 : decode cX6_there 1 = .ok (.iconst 0, 1) := by decide +kernel
theorem dX6_there_2 : decode cX6_there 2 = .ok (.putfield 31, 3) := by decide +kernel
theorem dX6_there_5 : decode cX6_there 5 = .ok (.aload_n 0, 1) := by decide +kernel
theorem dX6_there_6 : decode cX6_there 6 = .ok (.iload_n 1, 1) := by decide +kernel
theorem dX6_there_7 : decode cX6_there 7 = .ok (.invokevirtual 55, 3) := by decide +kernel
theorem dX6_there_10 : decode cX6_there 10 = .ok (.ifCond .eq 27, 3) := by decide +kernel
theorem dX6_there_13 : decode cX6_there 13 = .ok (.iload_n 2, 1) := by decide +kernel
theorem dX6_there_14 : decode cX6_there 14 = .ok (.iconst 0, 1) := by decide +kernel
theorem dX6_there_15 : decode cX6_there 15 = .ok (.aload_n 0, 1) := by decide +kernel
theorem dX6_there_16 : decode cX6_there 16 = .ok (.iload_n 1, 1) := by decide +kernel
theorem dX6_there_17 : decode cX6_there 17 = .ok (.invokevirtual 133, 3) := by decide +kernel
theorem dX6_there_20 : decode cX6_there 20 = .ok (.iconst 1, 1) := by decide +kernel
theorem dX6_there_21 : decode cX6_there 21 = .ok (.isub, 1) := by decide +kernel
theorem dX6_there_22 : decode cX6_there 22 = .ok (.invokestatic 38, 3) := by decide +kernel
theorem dX6_there_25 : decode cX6_there 25 = .ok (.ifCond .eq 12, 3) := by decide +kernel
theorem dX6_there_28 : decode cX6_there 28 = .ok (.aload_n 0, 1) := by decide +kernel
theorem dX6_there_29 : decode cX6_there 29 = .ok (.getfield 28, 3) := by decide +kernel
theorem dX6_there_32 : decode cX6_there 32 = .ok (.iload_n 2, 1) := by decide +kernel
theorem dX6_there_33 : decode cX6_there 33 = .ok (.iaload, 1) := by decide +kernel
theorem dX6_there_34 : decode cX6_there 34 = .ok (.goto 8, 3) := by decide +kernel
theorem dX6_there_37 : decode cX6_there 37 = .ok (.aload_n 0, 1) := by decide +kernel
theorem dX6_there_38 : decode cX6_there 38 = .ok (.iconst 1, 1) := by decide +kernel
theorem dX6_there_39 : decode cX6_there 39 = .ok (.invokevirtual 45, 3) := by decide +kernel
theorem dX6_there_42 : decode cX6_there 42 = .ok (.ireturn, 1) := by decide +kernel
set_option maxRecDepth 20000 in
theorem ggX6_time_X6_isStation : GoodIn wsX6_time wsX6_isStation := goodIn_r _ [7, 8, 9, 10, 6, 11, 39, 40, 41, 42, 43, 44, 45, 46, 47, 48, 49, 50, 51, 52, 53, 54, 55] (by decide +kernel) (by decide +kernel)
set_option maxRecDepth 20000 in
theorem gX6_time_X6_isStation : GoodIn wsX6_time (wsV RX6 55 RX6 yX6_isStation wsX6_isStation) := goodIn_app (goodIn_of _ (by decide +kernel)) ggX6_time_X6_isStation
set_option maxRecDepth 20000 in
theorem ggX6_time_X6_fail : GoodIn wsX6_time wsX6_fail := goodIn_r _ [15, 1, 39, 40, 41, 42, 43, 44, 45, 46, 47, 48, 49, 50, 51, 52, 53, 54, 55] (by decide +kernel) (by decide +kernel)
set_option maxRecDepth 20000 in
theorem gX6_time_X6_fail : GoodIn wsX6_time (wsV RX6 45 RX6 yX6_fail wsX6_fail) := goodIn_app (goodIn_of _ (by decide +kernel)) ggX6_time_X6_fail
set_option maxRecDepth 20000 in
theorem ggX6_time_X6_findTimes : GoodIn wsX6_time wsX6_findTimes := goodIn_r _ [19, 8, 2, 20, 21, 22, 23, 6, 24, 25, 26, 27, 28, 29, 30, 31, 32, 33, 34, 35, 36, 37, 38, 39, 40, 41, 42, 43, 44, 45, 46, 47, 48, 49, 50, 51, 52, 53, 54, 55] (by decide +kernel) (by decide +kernel)
set_option maxRecDepth 20000 in
theorem gX6_time_X6_findTimes : GoodIn wsX6_time (wsV RX6 110 RX6 yX6_findTimes wsX6_findTimes) := goodIn_app (goodIn_of _ (by decide +kernel)) ggX6_time_X6_findTimes
theorem dX6_time_0 : decode cX6_time 0 = .ok (.aload_n 0, 1) := by decide +kernel
theorem dX6_time_1 : decode cX6_time 1 = .ok (.iconst 0, 1) := by decide +kernel
theorem dX6_time_2 : decode cX6_time 2 = .ok (.putfield 31, 3) := by decide +kernel
theorem dX6_time_5 : decode cX6_time 5 = .ok (.aload_n 0, 1) := by decide +kernel
theorem dX6_time_6 : decode cX6_time 6 = .ok (.iload_n 1, 1) := by decide +kernel
theorem dX6_time_7 : decode cX6_time 7 = .ok (.invokevirtual 55, 3) := by decide +kernel
theorem dX6_time_10 : decode cX6_time 10 = .ok (.ifCond .eq 11, 3) := by decide +kernel
theorem dX6_time_13 : decode cX6_time 13 = .ok (.aload_n 0, 1) := by decide +kernel
theorem dX6_time_14 : decode cX6_time 14 = .ok (.iload_n 2, 1) := by decide +kernel
theorem dX6_time_15 : decode cX6_time 15 = .ok (.invokevirtual 55, 3) := by decide +kernel
theorem dX6_time_18 : decode cX6_time 18 = .ok (.ifCond .ne 9, 3) := by decide +kernel
theorem dX6_time_21 : decode cX6_time 21 = .ok (.aload_n 0, 1) := by decide +kernel
theorem dX6_time_22 : decode cX6_time 22 = .ok (.iconst 1, 1) := by decide +kernel
theorem dX6_time_23 : decode cX6_time 23 = .ok (.invokevirtual 45, 3) := by decide +kernel
theorem dX6_time_26 : decode cX6_time 26 = .ok (.ireturn, 1) := by decide +kernel
theorem dX6_time_27 : decode cX6_time 27 = .ok (.aload_n 0, 1) := by decide +kernel
theorem dX6_time_28 : decode cX6_time 28 = .ok (.iload_n 2, 1) := by decide +kernel
theorem dX6_time_29 : decode cX6_time 29 = .ok (.invokevirtual 110, 3) := by decide +kernel
theorem dX6_time_32 : decode cX6_time 32 = .ok (.aload_n 0, 1) := by decide +kernel
theorem dX6_time_33 : decode cX6_time 33 = .ok (.getfield 25, 3) := by decide +kernel
theorem dX6_time_36 : decode cX6_time 36 = .ok (.iload_n 1, 1) := by decide +kernel
theorem dX6_time_37 : decode cX6_time 37 = .ok (.iaload, 1) := by decide +kernel
theorem dX6_time_38 : decode cX6_time 38 = .ok (.ireturn, 1) := by decide +kernel
set_option maxRecDepth 20000 in
theorem ggX6_next_X6_isStation : GoodIn wsX6_next wsX6_isStation := goodIn_r _ [6, 7, 8, 9, 5, 10, 43, 44, 45, 46, 47, 48, 49, 50, 51, 52, 53, 54, 55, 56, 57, 58, 59] (by decide +kernel) (by decide +kernel)
set_option maxRecDepth 20000 in
theorem gX6_next_X6_isStation : GoodIn wsX6_next (wsV RX6 55 RX6 yX6_isStation wsX6_isStation) := goodIn_app (goodIn_of _ (by decide +kernel)) ggX6_next_X6_isStation
set_option maxRecDepth 20000 in
theorem ggX6_next_X6_fail : GoodIn wsX6_next wsX6_fail := goodIn_r _ [14, 1, 43, 44, 45, 46, 47, 48, 49, 50, 51, 52, 53, 54, 55, 56, 57, 58, 59] (by decide +kernel) (by decide +kernel)
set_option maxRecDepth 20000 in
theorem gX6_next_X6_fail : GoodIn wsX6_next (wsV RX6 45 RX6 yX6_fail wsX6_fail) := goodIn_app (goodIn_of _ (by decide +kernel)) ggX6_next_X6_fail
set_option maxRecDepth 20000 in
theorem ggX6_next_X6_chosen : GoodIn wsX6_next wsX6_chosen := goodIn_r _ [18, 19, 20, 21, 5, 22, 23, 24, 25, 26, 27, 7, 28, 29, 30, 31, 32, 33, 34, 35, 36, 37, 38, 39, 40, 41, 42, 43, 44, 45, 46, 47, 48, 49, 50, 51, 52, 53, 54, 55, 56, 57, 58, 59] (by decide +kernel) (by decide +kernel)
set_option maxRecDepth 20000 in
theorem gX6_next_X6_chosen : GoodIn wsX6_next (wsV RX6 136 RX6 yX6_chosen wsX6_chosen) := goodIn_app (goodIn_of _ (by decide +kernel)) ggX6_next_X6_chosen
theorem dX6_next_0 : decode cX6_next 0 = .ok (.aload_n 0, 1) := by decide +kernel
theorem dX6_next_1 : decode cX6_next 1 = .ok (.iconst 0, 1) := by decide +kernel
theorem dX6_next_2 : decode cX6_next 2 = .ok (.putfield 31, 3) := by decide +kernel
theorem dX6_next_5 : decode cX6_next 5 = .ok (.aload_n 0, 1) := by decide +kernel
theorem dX6_next_6 : decode cX6_next 6 = .ok (.iload_n 1, 1) := by decide +kernel
theorem dX6_next_7 : decode cX6_next 7 = .ok (.invokevirtual 55, 3) := by decide +kernel
theorem dX6_next_10 : decode cX6_next 10 = .ok (.ifCond .eq 11, 3) := by decide +kernel
theorem dX6_next_13 : decode cX6_next 13 = .ok (.aload_n 0, 1) := by decide +kernel
theorem dX6_next_14 : decode cX6_next 14 = .ok (.iload_n 2, 1) := by decide +kernel
theorem dX6_next_15 : decode cX6_next 15 = .ok (.invokevirtual 55, 3) := by decide +kernel
theorem dX6_next_18 : decode cX6_next 18 = .ok (.ifCond .ne 9, 3) := by decide +kernel
theorem dX6_next_21 : decode cX6_next 21 = .ok (.aload_n 0, 1) := by decide +kernel
theorem dX6_next_22 : decode cX6_next 22 = .ok (.iconst 1, 1) := by decide +kernel
theorem dX6_next_23 : decode cX6_next 23 = .ok (.invokevirtual 45, 3) := by decide +kernel
theorem dX6_next_26 : decode cX6_next 26 = .ok (.ireturn, 1) := by decide +kernel
theorem dX6_next_27 : decode cX6_next 27 = .ok (.iload_n 1, 1) := by decide +kernel
theorem dX6_next_28 : decode cX6_next 28 = .ok (.iload_n 2, 1) := by decide +kernel
theorem dX6_next_29 : decode cX6_next 29 = .ok (.if_icmp .ne 7, 3) := by decide +kernel
theorem dX6_next_32 : decode cX6_next 32 = .ok (.iconst (-1), 1) := by decide +kernel
theorem dX6_next_33 : decode cX6_next 33 = .ok (.goto 9, 3) := by decide +kernel
theorem dX6_next_36 : decode cX6_next 36 = .ok (.aload_n 0, 1) := by decide +kernel
theorem dX6_next_37 : decode cX6_next 37 = .ok (.iload_n 1, 1) := by decide +kernel
theorem dX6_next_38 : decode cX6_next 38 = .ok (.iload_n 2, 1) := by decide +kernel
theorem dX6_next_39 : decode cX6_next 39 = .ok (.invokevirtual 136, 3) := by decide +kernel
theorem dX6_next_42 : decode cX6_next 42 = .ok (.ireturn, 1) := by decide +kernel
set_option maxRecDepth 20000 in
theorem ggX6_pairs_X6_findTimes : GoodIn wsX6_pairs wsX6_findTimes := goodIn_r _ [7, 1, 2, 8, 9, 10, 11, 6, 12, 13, 14, 15, 16, 17, 18, 19, 20, 21, 22, 23, 24, 25, 26, 27, 28, 29, 30, 31, 32, 33, 34, 35, 36, 37, 38, 39, 40, 41, 42, 43] (by decide +kernel) (by decide +kernel)
set_option maxRecDepth 20000 in
theorem gX6_pairs_X6_findTimes : GoodIn wsX6_pairs (wsV RX6 110 RX6 yX6_findTimes wsX6_findTimes) := goodIn_app (goodIn_of _ (by decide +kernel)) ggX6_pairs_X6_findTimes
theorem dX6_pairs_0 : decode cX6_pairs 0 = .ok (.iconst 0, 1) := by decide +kernel
theorem dX6_pairs_1 : decode cX6_pairs 1 = .ok (.istore_n 1, 1) := by decide +kernel
theorem dX6_pairs_2 : decode cX6_pairs 2 = .ok (.iconst 0, 1) := by decide +kernel
theorem dX6_pairs_3 : decode cX6_pairs 3 = .ok (.istore_n 2, 1) := by decide +kernel
theorem dX6_pairs_4 : decode cX6_pairs 4 = .ok (.iload_n 2, 1) := by decide +kernel
theorem dX6_pairs_5 : decode cX6_pairs 5 = .ok (.aload_n 0, 1) := by decide +kernel
theorem dX6_pairs_6 : decode cX6_pairs 6 = .ok (.getfield 35, 3) := by decide +kernel
theorem dX6_pairs_9 : decode cX6_pairs 9 = .ok (.if_icmp .ge 53, 3) := by decide +kernel
theorem dX6_pairs_12 : decode cX6_pairs 12 = .ok (.aload_n 0, 1) := by decide +kernel
theorem dX6_pairs_13 : decode cX6_pairs 13 = .ok (.iload_n 2, 1) := by decide +kernel
theorem dX6_pairs_14 : decode cX6_pairs 14 = .ok (.invokevirtual 110, 3) := by decide +kernel
theorem dX6_pairs_17 : decode cX6_pairs 17 = .ok (.iconst 0, 1) := by decide +kernel
theorem dX6_pairs_18 : decode cX6_pairs 18 = .ok (.istore_n 3, 1) := by decide +kernel
theorem dX6_pairs_19 : decode cX6_pairs 19 = .ok (.iload_n 3, 1) := by decide +kernel
theorem dX6_pairs_20 : decode cX6_pairs 20 = .ok (.aload_n 0, 1) := by decide +kernel
theorem dX6_pairs_21 : decode cX6_pairs 21 = .ok (.getfield 35, 3) := by decide +kernel
theorem dX6_pairs_24 : decode cX6_pairs 24 = .ok (.if_icmp .ge 32, 3) := by decide +kernel
theorem dX6_pairs_27 : decode cX6_pairs 27 = .ok (.iload_n 1, 1) := by decide +kernel
theorem dX6_pairs_28 : decode cX6_pairs 28 = .ok (.iload_n 3, 1) := by decide +kernel
theorem dX6_pairs_29 : decode cX6_pairs 29 = .ok (.iload_n 2, 1) := by decide +kernel
theorem dX6_pairs_30 : decode cX6_pairs 30 = .ok (.if_icmp .eq 17, 3) := by decide +kernel
theorem dX6_pairs_33 : decode cX6_pairs 33 = .ok (.aload_n 0, 1) := by decide +kernel
theorem dX6_pairs_34 : decode cX6_pairs 34 = .ok (.getfield 25, 3) := by decide +kernel
theorem dX6_pairs_37 : decode cX6_pairs 37 = .ok (.iload_n 3, 1) := by decide +kernel
theorem dX6_pairs_38 : decode cX6_pairs 38 = .ok (.iaload, 1) := by decide +kernel
theorem dX6_pairs_39 : decode cX6_pairs 39 = .ok (.iconst (-1), 1) := by decide +kernel
theorem dX6_pairs_40 : decode cX6_pairs 40 = .ok (.if_icmp .eq 7, 3) := by decide +kernel
theorem dX6_pairs_43 : decode cX6_pairs 43 = .ok (.iconst 1, 1) := by decide +kernel
theorem dX6_pairs_44 : decode cX6_pairs 44 = .ok (.goto 4, 3) := by decide +kernel
theorem dX6_pairs_47 : decode cX6_pairs 47 = .ok (.iconst 0, 1) := by decide +kernel
theorem dX6_pairs_48 : decode cX6_pairs 48 = .ok (.iadd, 1) := by decide +kernel
theorem dX6_pairs_49 : decode cX6_pairs 49 = .ok (.istore_n 1, 1) := by decide +kernel
theorem dX6_pairs_50 : decode cX6_pairs 50 = .ok (.iinc 3 1, 3) := by decide +kernel
theorem dX6_pairs_53 : decode cX6_pairs 53 = .ok (.goto (-34), 3) := by decide +kernel
theorem dX6_pairs_56 : decode cX6_pairs 56 = .ok (.iinc 2 1, 3) := by decide +kernel
theorem dX6_pairs_59 : decode cX6_pairs 59 = .ok (.goto (-55), 3) := by decide +kernel
theorem dX6_pairs_62 : decode cX6_pairs 62 = .ok (.iload_n 1, 1) := by decide +kernel
theorem dX6_pairs_63 : decode cX6_pairs 63 = .ok (.ireturn, 1) := by decide +kernel
set_option maxRecDepth 20000 in
theorem ggX6_parts_X6_isTube : GoodIn wsX6_parts wsX6_isTube := goodIn_r _ [7, 8, 9, 10, 6, 11, 43, 44, 45, 46, 47, 48, 49, 50, 51, 52, 53, 54, 55, 56, 57, 58, 59] (by decide +kernel) (by decide +kernel)
set_option maxRecDepth 20000 in
theorem gX6_parts_X6_isTube : GoodIn wsX6_parts (wsV RX6 63 RX6 yX6_isTube wsX6_isTube) := goodIn_app (goodIn_of _ (by decide +kernel)) ggX6_parts_X6_isTube
set_option maxRecDepth 20000 in
theorem ggX6_parts_X6_fail : GoodIn wsX6_parts wsX6_fail := goodIn_r _ [15, 1, 43, 44, 45, 46, 47, 48, 49, 50, 51, 52, 53, 54, 55, 56, 57, 58, 59] (by decide +kernel) (by decide +kernel)
set_option maxRecDepth 20000 in
theorem gX6_parts_X6_fail : GoodIn wsX6_parts (wsV RX6 45 RX6 yX6_fail wsX6_fail) := goodIn_app (goodIn_of _ (by decide +kernel)) ggX6_parts_X6_fail
set_option maxRecDepth 20000 in
theorem ggX6_parts_X6_pairs : GoodIn wsX6_parts wsX6_pairs := goodIn_r _ [19, 20, 21, 22, 23, 24, 6, 25, 8, 26, 27, 28, 29, 2, 30, 31, 32, 33, 34, 35, 36, 37, 38, 39, 40, 41, 42, 43, 44, 45, 46, 47, 48, 49, 50, 51, 52, 53, 54, 55, 56, 57, 58, 59] (by decide +kernel) (by decide +kernel)
set_option maxRecDepth 20000 in
theorem gX6_parts_X6_pairs : GoodIn wsX6_parts (wsV RX6 157 RX6 yX6_pairs wsX6_pairs) := goodIn_app (goodIn_of _ (by decide +kernel)) ggX6_parts_X6_pairs
set_option maxRecDepth 20000 in
theorem ggX6_parts_X6_tu : GoodIn wsX6_parts wsX6_tu := goodIn_r _ [29, 2, 43, 44, 45, 46, 47, 48, 49, 50, 51, 52, 53, 54, 55, 56, 57, 58, 59] (by decide +kernel) (by decide +kernel)
set_option maxRecDepth 20000 in
theorem gX6_parts_X6_tu : GoodIn wsX6_parts (wsV RX6 66 RX6 yX6_tu wsX6_tu) := goodIn_app (goodIn_of _ (by decide +kernel)) ggX6_parts_X6_tu
theorem dX6_parts_0 : decode cX6_parts 0 = .ok (.aload_n 0, 1) := by decide +kernel
theorem dX6_parts_1 : decode cX6_parts 1 = .ok (.iconst 0, 1) := by decide +kernel
theorem dX6_parts_2 : decode cX6_parts 2 = .ok (.putfield 31, 3) := by decide +kernel
theorem dX6_parts_5 : decode cX6_parts 5 = .ok (.aload_n 0, 1) := by decide +kernel
theorem dX6_parts_6 : decode cX6_parts 6 = .ok (.iload_n 1, 1) := by decide +kernel
theorem dX6_parts_7 : decode cX6_parts 7 = .ok (.invokevirtual 63, 3) := by decide +kernel
theorem dX6_parts_10 : decode cX6_parts 10 = .ok (.ifCond .ne 9, 3) := by decide +kernel
theorem dX6_parts_13 : decode cX6_parts 13 = .ok (.aload_n 0, 1) := by decide +kernel
theorem dX6_parts_14 : decode cX6_parts 14 = .ok (.iconst 1, 1) := by decide +kernel
theorem dX6_parts_15 : decode cX6_parts 15 = .ok (.invokevirtual 45, 3) := by decide +kernel
theorem dX6_parts_18 : decode cX6_parts 18 = .ok (.ireturn, 1) := by decide +kernel
theorem dX6_parts_19 : decode cX6_parts 19 = .ok (.aload_n 0, 1) := by decide +kernel
theorem dX6_parts_20 : decode cX6_parts 20 = .ok (.invokevirtual 157, 3) := by decide +kernel
theorem dX6_parts_23 : decode cX6_parts 23 = .ok (.istore_n 2, 1) := by decide +kernel
theorem dX6_parts_24 : decode cX6_parts 24 = .ok (.aload_n 0, 1) := by decide +kernel
theorem dX6_parts_25 : decode cX6_parts 25 = .ok (.iload_n 1, 1) := by decide +kernel
theorem dX6_parts_26 : decode cX6_parts 26 = .ok (.iconst 5, 1) := by decide +kernel
theorem dX6_parts_27 : decode cX6_parts 27 = .ok (.invokevirtual 66, 3) := by decide +kernel
theorem dX6_parts_30 : decode cX6_parts 30 = .ok (.istore_n 3, 1) := by decide +kernel
theorem dX6_parts_31 : decode cX6_parts 31 = .ok (.aload_n 0, 1) := by decide +kernel
theorem dX6_parts_32 : decode cX6_parts 32 = .ok (.getfield 13, 3) := by decide +kernel
theorem dX6_parts_35 : decode cX6_parts 35 = .ok (.bipush 8, 2) := by decide +kernel
theorem dX6_parts_37 : decode cX6_parts 37 = .ok (.iload_n 1, 1) := by decide +kernel
theorem dX6_parts_38 : decode cX6_parts 38 = .ok (.imul, 1) := by decide +kernel
theorem dX6_parts_39 : decode cX6_parts 39 = .ok (.iconst 5, 1) := by decide +kernel
theorem dX6_parts_40 : decode cX6_parts 40 = .ok (.iadd, 1) := by decide +kernel
theorem dX6_parts_41 : decode cX6_parts 41 = .ok (.iconst 0, 1) := by decide +kernel
theorem dX6_parts_42 : decode cX6_parts 42 = .ok (.iastore, 1) := by decide +kernel
theorem dX6_parts_43 : decode cX6_parts 43 = .ok (.iload_n 2, 1) := by decide +kernel
theorem dX6_parts_44 : decode cX6_parts 44 = .ok (.aload_n 0, 1) := by decide +kernel
theorem dX6_parts_45 : decode cX6_parts 45 = .ok (.invokevirtual 157, 3) := by decide +kernel
theorem dX6_parts_48 : decode cX6_parts 48 = .ok (.isub, 1) := by decide +kernel
theorem dX6_parts_49 : decode cX6_parts 49 = .ok (.istore 4, 2) := by decide +kernel
theorem dX6_parts_51 : decode cX6_parts 51 = .ok (.aload_n 0, 1) := by decide +kernel
theorem dX6_parts_52 : decode cX6_parts 52 = .ok (.getfield 13, 3) := by decide +kernel
theorem dX6_parts_55 : decode cX6_parts 55 = .ok (.bipush 8, 2) := by decide +kernel
theorem dX6_parts_57 : decode cX6_parts 57 = .ok (.iload_n 1, 1) := by decide +kernel
theorem dX6_parts_58 : decode cX6_parts 58 = .ok (.imul, 1) := by decide +kernel
theorem dX6_parts_59 : decode cX6_parts 59 = .ok (.iconst 5, 1) := by decide +kernel
theorem dX6_parts_60 : decode cX6_parts 60 = .ok (.iadd, 1) := by decide +kernel
theorem dX6_parts_61 : decode cX6_parts 61 = .ok (.iload_n 3, 1) := by decide +kernel
theorem dX6_parts_62 : decode cX6_parts 62 = .ok (.iastore, 1) := by decide +kernel
theorem dX6_parts_63 : decode cX6_parts 63 = .ok (.iload 4, 2) := by decide +kernel
theorem dX6_parts_65 : decode cX6_parts 65 = .ok (.ireturn, 1) := by decide +kernel
theorem dX6_mean_0 : decode cX6_mean 0 = .ok (.aload_n 0, 1) := by decide +kernel
theorem dX6_mean_1 : decode cX6_mean 1 = .ok (.iconst 0, 1) := by decide +kernel
theorem dX6_mean_2 : decode cX6_mean 2 = .ok (.putfield 31, 3) := by decide +kernel
theorem dX6_mean_5 : decode cX6_mean 5 = .ok (.aload_n 0, 1) := by decide +kernel
theorem dX6_mean_6 : decode cX6_mean 6 = .ok (.getfield 114, 3) := by decide +kernel
theorem dX6_mean_9 : decode cX6_mean 9 = .ok (.ifCond .ne 7, 3) := by decide +kernel
theorem dX6_mean_12 : decode cX6_mean 12 = .ok (.dconst 0, 1) := by decide +kernel
theorem dX6_mean_13 : decode cX6_mean 13 = .ok (.goto 14, 3) := by decide +kernel
theorem dX6_mean_16 : decode cX6_mean 16 = .ok (.aload_n 0, 1) := by decide +kernel
theorem dX6_mean_17 : decode cX6_mean 17 = .ok (.getfield 117, 3) := by decide +kernel
theorem dX6_mean_20 : decode cX6_mean 20 = .ok (.i2d, 1) := by decide +kernel
theorem dX6_mean_21 : decode cX6_mean 21 = .ok (.aload_n 0, 1) := by decide +kernel
theorem dX6_mean_22 : decode cX6_mean 22 = .ok (.getfield 114, 3) := by decide +kernel
theorem dX6_mean_25 : decode cX6_mean 25 = .ok (.i2d, 1) := by decide +kernel
theorem dX6_mean_26 : decode cX6_mean 26 = .ok (.ddiv, 1) := by decide +kernel
theorem dX6_mean_27 : decode cX6_mean 27 = .ok (.dreturn, 1) := by decide +kernel
set_option maxRecDepth 20000 in
theorem ggX6_digest_X6_counted : GoodIn wsX6_digest wsX6_counted := goodIn_r _ [12, 13, 4, 6, 14, 7, 15, 16, 17, 18, 19, 20, 11, 21, 22, 23, 24, 25, 26, 27, 28, 29, 30, 31, 62, 63, 64, 65, 66, 67, 68, 69, 70, 71, 72, 73, 74, 75, 76, 77, 78] (by decide +kernel) (by decide +kernel)
set_option maxRecDepth 20000 in
theorem gX6_digest_X6_counted : GoodIn wsX6_digest (wsV RX6 148 RX6 yX6_counted wsX6_counted) := goodIn_app (goodIn_of _ (by decide +kernel)) ggX6_digest_X6_counted
set_option maxRecDepth 20000 in
theorem ggX6_digest_X6_stationTold : GoodIn wsX6_digest wsX6_stationTold := goodIn_r _ [35, 36, 37, 38, 11, 39, 40, 41, 42, 43, 44, 15, 22, 23, 24, 25, 26, 27, 62, 63, 64, 65, 66, 67, 68, 69, 70, 71, 72, 73, 74, 75, 76, 77, 78] (by decide +kernel) (by decide +kernel)
set_option maxRecDepth 20000 in
theorem gX6_digest_X6_stationTold : GoodIn wsX6_digest (wsV RX6 151 RX6 yX6_stationTold wsX6_stationTold) := goodIn_app (goodIn_of _ (by decide +kernel)) ggX6_digest_X6_stationTold
set_option maxRecDepth 20000 in
theorem ggX6_digest_X6_line : GoodIn wsX6_digest wsX6_line := goodIn_r _ [48, 15, 22, 5, 23, 24, 25, 11, 26, 27, 49, 50, 51, 52, 62, 63, 64, 65, 66, 67, 68, 69, 70, 71, 72, 73, 74, 75, 76, 77, 78] (by decide +kernel) (by decide +kernel)
set_option maxRecDepth 20000 in
theorem gX6_digest_X6_line : GoodIn wsX6_digest (wsV RX6 133 RX6 yX6_line wsX6_line) := goodIn_app (goodIn_of _ (by decide +kernel)) ggX6_digest_X6_line
set_option maxRecDepth 20000 in
theorem ggX6_digest_X6_tubeTold : GoodIn wsX6_digest wsX6_tubeTold := goodIn_r _ [56, 57, 58, 59, 11, 60, 61, 41, 42, 43, 44, 15, 22, 23, 24, 25, 26, 27, 18, 19, 20, 21, 28, 29, 30, 31, 13, 62, 63, 64, 65, 66, 67, 68, 69, 70, 71, 72, 73, 74, 75, 76, 77, 78] (by decide +kernel) (by decide +kernel)
set_option maxRecDepth 20000 in
theorem gX6_digest_X6_tubeTold : GoodIn wsX6_digest (wsV RX6 154 RX6 yX6_tubeTold wsX6_tubeTold) := goodIn_app (goodIn_of _ (by decide +kernel)) ggX6_digest_X6_tubeTold
set_option maxRecDepth 20000 in
theorem ggX6_digest_X6_get : GoodIn wsX6_digest wsX6_get := goodIn_r _ [26, 27, 62, 63, 64, 65, 66, 67, 68, 69, 70, 71, 72, 73, 74, 75, 76, 77, 78] (by decide +kernel) (by decide +kernel)
set_option maxRecDepth 20000 in
theorem gX6_digest_X6_get : GoodIn wsX6_digest (wsV RX6 79 RX6 yX6_get wsX6_get) := goodIn_app (goodIn_of _ (by decide +kernel)) ggX6_digest_X6_get
theorem dX6_digest_0 : decode cX6_digest 0 = .ok (.aload_n 0, 1) := by decide +kernel
theorem dX6_digest_1 : decode cX6_digest 1 = .ok (.iconst 0, 1) := by decide +kernel
theorem dX6_digest_2 : decode cX6_digest 2 = .ok (.putfield 31, 3) := by decide +kernel
theorem dX6_digest_5 : decode cX6_digest 5 = .ok (.ldc2_w 161, 3) := by decide +kernel
theorem dX6_digest_8 : decode cX6_digest 8 = .ok (.lstore_n 1, 1) := by decide +kernel
theorem dX6_digest_9 : decode cX6_digest 9 = .ok (.iconst 0, 1) := by decide +kernel
theorem dX6_digest_10 : decode cX6_digest 10 = .ok (.istore_n 3, 1) := by decide +kernel
theorem dX6_digest_11 : decode cX6_digest 11 = .ok (.iload_n 3, 1) := by decide +kernel
theorem dX6_digest_12 : decode cX6_digest 12 = .ok (.bipush 9, 2) := by decide +kernel
theorem dX6_digest_14 : decode cX6_digest 14 = .ok (.if_icmp .ge 22, 3) := by decide +kernel
theorem dX6_digest_17 : decode cX6_digest 17 = .ok (.lload_n 1, 1) := by decide +kernel
theorem dX6_digest_18 : decode cX6_digest 18 = .ok (.ldc2_w 163, 3) := by decide +kernel
theorem dX6_digest_21 : decode cX6_digest 21 = .ok (.lmul, 1) := by decide +kernel
theorem dX6_digest_22 : decode cX6_digest 22 = .ok (.aload_n 0, 1) := by decide +kernel
theorem dX6_digest_23 : decode cX6_digest 23 = .ok (.iload_n 3, 1) := by decide +kernel
theorem dX6_digest_24 : decode cX6_digest 24 = .ok (.invokevirtual 148, 3) := by decide +kernel
theorem dX6_digest_27 : decode cX6_digest 27 = .ok (.i2l, 1) := by decide +kernel
theorem dX6_digest_28 : decode cX6_digest 28 = .ok (.ladd, 1) := by decide +kernel
theorem dX6_digest_29 : decode cX6_digest 29 = .ok (.lstore_n 1, 1) := by decide +kernel
theorem dX6_digest_30 : decode cX6_digest 30 = .ok (.iinc 3 1, 3) := by decide +kernel
theorem dX6_digest_33 : decode cX6_digest 33 = .ok (.goto (-22), 3) := by decide +kernel
theorem dX6_digest_36 : decode cX6_digest 36 = .ok (.iconst 0, 1) := by decide +kernel
theorem dX6_digest_37 : decode cX6_digest 37 = .ok (.istore_n 3, 1) := by decide +kernel
theorem dX6_digest_38 : decode cX6_digest 38 = .ok (.iload_n 3, 1) := by decide +kernel
theorem dX6_digest_39 : decode cX6_digest 39 = .ok (.aload_n 0, 1) := by decide +kernel
theorem dX6_digest_40 : decode cX6_digest 40 = .ok (.getfield 35, 3) := by decide +kernel
theorem dX6_digest_43 : decode cX6_digest 43 = .ok (.if_icmp .ge 78, 3) := by decide +kernel
theorem dX6_digest_46 : decode cX6_digest 46 = .ok (.iconst 0, 1) := by decide +kernel
theorem dX6_digest_47 : decode cX6_digest 47 = .ok (.istore 4, 2) := by decide +kernel
theorem dX6_digest_49 : decode cX6_digest 49 = .ok (.iload 4, 2) := by decide +kernel
theorem dX6_digest_51 : decode cX6_digest 51 = .ok (.bipush 6, 2) := by decide +kernel
theorem dX6_digest_53 : decode cX6_digest 53 = .ok (.if_icmp .ge 24, 3) := by decide +kernel
theorem dX6_digest_56 : decode cX6_digest 56 = .ok (.lload_n 1, 1) := by decide +kernel
theorem dX6_digest_57 : decode cX6_digest 57 = .ok (.ldc2_w 163, 3) := by decide +kernel
theorem dX6_digest_60 : decode cX6_digest 60 = .ok (.lmul, 1) := by decide +kernel
theorem dX6_digest_61 : decode cX6_digest 61 = .ok (.aload_n 0, 1) := by decide +kernel
theorem dX6_digest_62 : decode cX6_digest 62 = .ok (.iload_n 3, 1) := by decide +kernel
theorem dX6_digest_63 : decode cX6_digest 63 = .ok (.iload 4, 2) := by decide +kernel
theorem dX6_digest_65 : decode cX6_digest 65 = .ok (.invokevirtual 151, 3) := by decide +kernel
theorem dX6_digest_68 : decode cX6_digest 68 = .ok (.i2l, 1) := by decide +kernel
theorem dX6_digest_69 : decode cX6_digest 69 = .ok (.ladd, 1) := by decide +kernel
theorem dX6_digest_70 : decode cX6_digest 70 = .ok (.lstore_n 1, 1) := by decide +kernel
theorem dX6_digest_71 : decode cX6_digest 71 = .ok (.iinc 4 1, 3) := by decide +kernel
theorem dX6_digest_74 : decode cX6_digest 74 = .ok (.goto (-25), 3) := by decide +kernel
theorem dX6_digest_77 : decode cX6_digest 77 = .ok (.aload_n 0, 1) := by decide +kernel
theorem dX6_digest_78 : decode cX6_digest 78 = .ok (.iload_n 3, 1) := by decide +kernel
theorem dX6_digest_79 : decode cX6_digest 79 = .ok (.invokevirtual 133, 3) := by decide +kernel
theorem dX6_digest_82 : decode cX6_digest 82 = .ok (.istore 4, 2) := by decide +kernel
theorem dX6_digest_84 : decode cX6_digest 84 = .ok (.iconst 0, 1) := by decide +kernel
theorem dX6_digest_85 : decode cX6_digest 85 = .ok (.istore 5, 2) := by decide +kernel
theorem dX6_digest_87 : decode cX6_digest 87 = .ok (.iload 5, 2) := by decide +kernel
theorem dX6_digest_89 : decode cX6_digest 89 = .ok (.iload 4, 2) := by decide +kernel
theorem dX6_digest_91 : decode cX6_digest 91 = .ok (.if_icmp .ge 24, 3) := by decide +kernel
theorem dX6_digest_94 : decode cX6_digest 94 = .ok (.lload_n 1, 1) := by decide +kernel
theorem dX6_digest_95 : decode cX6_digest 95 = .ok (.ldc2_w 163, 3) := by decide +kernel
theorem dX6_digest_98 : decode cX6_digest 98 = .ok (.lmul, 1) := by decide +kernel
theorem dX6_digest_99 : decode cX6_digest 99 = .ok (.aload_n 0, 1) := by decide +kernel
theorem dX6_digest_100 : decode cX6_digest 100 = .ok (.getfield 28, 3) := by decide +kernel
theorem dX6_digest_103 : decode cX6_digest 103 = .ok (.iload 5, 2) := by decide +kernel
theorem dX6_digest_105 : decode cX6_digest 105 = .ok (.iaload, 1) := by decide +kernel
theorem dX6_digest_106 : decode cX6_digest 106 = .ok (.i2l, 1) := by decide +kernel
theorem dX6_digest_107 : decode cX6_digest 107 = .ok (.ladd, 1) := by decide +kernel
theorem dX6_digest_108 : decode cX6_digest 108 = .ok (.lstore_n 1, 1) := by decide +kernel
theorem dX6_digest_109 : decode cX6_digest 109 = .ok (.iinc 5 1, 3) := by decide +kernel
theorem dX6_digest_112 : decode cX6_digest 112 = .ok (.goto (-25), 3) := by decide +kernel
theorem dX6_digest_115 : decode cX6_digest 115 = .ok (.iinc 3 1, 3) := by decide +kernel
theorem dX6_digest_118 : decode cX6_digest 118 = .ok (.goto (-80), 3) := by decide +kernel
theorem dX6_digest_121 : decode cX6_digest 121 = .ok (.iconst 0, 1) := by decide +kernel
theorem dX6_digest_122 : decode cX6_digest 122 = .ok (.istore_n 3, 1) := by decide +kernel
theorem dX6_digest_123 : decode cX6_digest 123 = .ok (.iload_n 3, 1) := by decide +kernel
theorem dX6_digest_124 : decode cX6_digest 124 = .ok (.aload_n 0, 1) := by decide +kernel
theorem dX6_digest_125 : decode cX6_digest 125 = .ok (.getfield 42, 3) := by decide +kernel
theorem dX6_digest_128 : decode cX6_digest 128 = .ok (.if_icmp .ge 40, 3) := by decide +kernel
theorem dX6_digest_131 : decode cX6_digest 131 = .ok (.iconst 0, 1) := by decide +kernel
theorem dX6_digest_132 : decode cX6_digest 132 = .ok (.istore 4, 2) := by decide +kernel
theorem dX6_digest_134 : decode cX6_digest 134 = .ok (.iload 4, 2) := by decide +kernel
theorem dX6_digest_136 : decode cX6_digest 136 = .ok (.bipush 9, 2) := by decide +kernel
theorem dX6_digest_138 : decode cX6_digest 138 = .ok (.if_icmp .ge 24, 3) := by decide +kernel
theorem dX6_digest_141 : decode cX6_digest 141 = .ok (.lload_n 1, 1) := by decide +kernel
theorem dX6_digest_142 : decode cX6_digest 142 = .ok (.ldc2_w 163, 3) := by decide +kernel
theorem dX6_digest_145 : decode cX6_digest 145 = .ok (.lmul, 1) := by decide +kernel
theorem dX6_digest_146 : decode cX6_digest 146 = .ok (.aload_n 0, 1) := by decide +kernel
theorem dX6_digest_147 : decode cX6_digest 147 = .ok (.iload_n 3, 1) := by decide +kernel
theorem dX6_digest_148 : decode cX6_digest 148 = .ok (.iload 4, 2) := by decide +kernel
theorem dX6_digest_150 : decode cX6_digest 150 = .ok (.invokevirtual 154, 3) := by decide +kernel
theorem dX6_digest_153 : decode cX6_digest 153 = .ok (.i2l, 1) := by decide +kernel
theorem dX6_digest_154 : decode cX6_digest 154 = .ok (.ladd, 1) := by decide +kernel
theorem dX6_digest_155 : decode cX6_digest 155 = .ok (.lstore_n 1, 1) := by decide +kernel
theorem dX6_digest_156 : decode cX6_digest 156 = .ok (.iinc 4 1, 3) := by decide +kernel
theorem dX6_digest_159 : decode cX6_digest 159 = .ok (.goto (-25), 3) := by decide +kernel
theorem dX6_digest_162 : decode cX6_digest 162 = .ok (.iinc 3 1, 3) := by decide +kernel
theorem dX6_digest_165 : decode cX6_digest 165 = .ok (.goto (-42), 3) := by decide +kernel
theorem dX6_digest_168 : decode cX6_digest 168 = .ok (.iconst 0, 1) := by decide +kernel
theorem dX6_digest_169 : decode cX6_digest 169 = .ok (.istore_n 3, 1) := by decide +kernel
theorem dX6_digest_170 : decode cX6_digest 170 = .ok (.iload_n 3, 1) := by decide +kernel
theorem dX6_digest_171 : decode cX6_digest 171 = .ok (.aload_n 0, 1) := by decide +kernel
theorem dX6_digest_172 : decode cX6_digest 172 = .ok (.getfield 92, 3) := by decide +kernel
theorem dX6_digest_175 : decode cX6_digest 175 = .ok (.if_icmp .ge 40, 3) := by decide +kernel
theorem dX6_digest_178 : decode cX6_digest 178 = .ok (.iconst 0, 1) := by decide +kernel
theorem dX6_digest_179 : decode cX6_digest 179 = .ok (.istore 4, 2) := by decide +kernel
theorem dX6_digest_181 : decode cX6_digest 181 = .ok (.iload 4, 2) := by decide +kernel
theorem dX6_digest_183 : decode cX6_digest 183 = .ok (.bipush 7, 2) := by decide +kernel
theorem dX6_digest_185 : decode cX6_digest 185 = .ok (.if_icmp .ge 24, 3) := by decide +kernel
theorem dX6_digest_188 : decode cX6_digest 188 = .ok (.lload_n 1, 1) := by decide +kernel
theorem dX6_digest_189 : decode cX6_digest 189 = .ok (.ldc2_w 163, 3) := by decide +kernel
theorem dX6_digest_192 : decode cX6_digest 192 = .ok (.lmul, 1) := by decide +kernel
theorem dX6_digest_193 : decode cX6_digest 193 = .ok (.aload_n 0, 1) := by decide +kernel
theorem dX6_digest_194 : decode cX6_digest 194 = .ok (.iload_n 3, 1) := by decide +kernel
theorem dX6_digest_195 : decode cX6_digest 195 = .ok (.iload 4, 2) := by decide +kernel
theorem dX6_digest_197 : decode cX6_digest 197 = .ok (.invokevirtual 79, 3) := by decide +kernel
theorem dX6_digest_200 : decode cX6_digest 200 = .ok (.i2l, 1) := by decide +kernel
theorem dX6_digest_201 : decode cX6_digest 201 = .ok (.ladd, 1) := by decide +kernel
theorem dX6_digest_202 : decode cX6_digest 202 = .ok (.lstore_n 1, 1) := by decide +kernel
theorem dX6_digest_203 : decode cX6_digest 203 = .ok (.iinc 4 1, 3) := by decide +kernel
theorem dX6_digest_206 : decode cX6_digest 206 = .ok (.goto (-25), 3) := by decide +kernel
theorem dX6_digest_209 : decode cX6_digest 209 = .ok (.iinc 3 1, 3) := by decide +kernel
theorem dX6_digest_212 : decode cX6_digest 212 = .ok (.goto (-42), 3) := by decide +kernel
theorem dX6_digest_215 : decode cX6_digest 215 = .ok (.lload_n 1, 1) := by decide +kernel
theorem dX6_digest_216 : decode cX6_digest 216 = .ok (.lreturn, 1) := by decide +kernel
