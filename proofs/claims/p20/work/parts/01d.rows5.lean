theorem nmX5 : ∀ a, a < 6 → ∀ b, b < 6 → a ≠ b → (TX5 a).2.1 ≠ (TX5 b).2.1 := by decide +kernel
theorem tyX5_ok : ∀ k, k < 6 → parseFieldDescriptor (TX5 k).2.2.1 = some (tyX5 k) := by decide +kernel
set_option maxRecDepth 20000 in
theorem ggX5_init_X2_init : GoodIn wsX5_init wsX2_init := goodIn_r _ [17, 18, 2, 3, 19, 9, 10, 20, 21, 22, 23, 24, 25, 26, 27, 28, 29, 30, 31, 32, 33, 34, 35, 36, 46, 47, 48, 38, 39] (by decide +kernel) (by decide +kernel)
set_option maxRecDepth 20000 in
theorem gX5_init_X2_init_n9 : GoodIn wsX5_init (wsX2_init) := ggX5_init_X2_init
set_option maxRecDepth 20000 in
theorem ggX5_init_Jx4a65c_init_da8c8 : GoodIn wsX5_init wsJx4a65c_init_da8c8 := goodIn_r _ [24, 25, 26, 27, 28, 29, 30, 31, 32, 33, 34, 35, 36, 2, 3, 46, 47, 48] (by decide +kernel) (by decide +kernel)
set_option maxRecDepth 20000 in
theorem gX5_init_Jx4a65c_init_da8c8 : GoodIn wsX5_init (wsJx4a65c_init_da8c8) := ggX5_init_Jx4a65c_init_da8c8
theorem dX5_init_0 : decode cX5_init 0 = .ok (.aload_n 0, 1) := by decide +kernel
theorem dX5_init_1 : decode cX5_init 1 = .ok (.invokespecial 1, 3) := by decide +kernel
theorem dX5_init_4 : decode cX5_init 4 = .ok (.aload_n 0, 1) := by decide +kernel
theorem dX5_init_5 : decode cX5_init 5 = .ok (.new 7, 3) := by decide +kernel
theorem dX5_init_8 : decode cX5_init 8 = .ok (.dup, 1) := by decide +kernel
theorem dX5_init_9 : decode cX5_init 9 = .ok (.invokespecial 9, 3) := by decide +kernel
theorem dX5_init_12 : decode cX5_init 12 = .ok (.putfield 10, 3) := by decide +kernel
theorem dX5_init_15 : decode cX5_init 15 = .ok (.aload_n 0, 1) := by decide +kernel
theorem dX5_init_16 : decode cX5_init 16 = .ok (.new 16, 3) := by decide +kernel
theorem dX5_init_19 : decode cX5_init 19 = .ok (.dup, 1) := by decide +kernel
theorem dX5_init_20 : decode cX5_init 20 = .ok (.invokespecial 18, 3) := by decide +kernel
theorem dX5_init_23 : decode cX5_init 23 = .ok (.putfield 19, 3) := by decide +kernel
theorem dX5_init_26 : decode cX5_init 26 = .ok (.aload_n 0, 1) := by decide +kernel
theorem dX5_init_27 : decode cX5_init 27 = .ok (.new 16, 3) := by decide +kernel
theorem dX5_init_30 : decode cX5_init 30 = .ok (.dup, 1) := by decide +kernel
theorem dX5_init_31 : decode cX5_init 31 = .ok (.invokespecial 18, 3) := by decide +kernel
theorem dX5_init_34 : decode cX5_init 34 = .ok (.putfield 23, 3) := by decide +kernel
theorem dX5_init_37 : decode cX5_init 37 = .ok (.aload_n 0, 1) := by decide +kernel
theorem dX5_init_38 : decode cX5_init 38 = .ok (.iconst 0, 1) := by decide +kernel
theorem dX5_init_39 : decode cX5_init 39 = .ok (.putfield 26, 3) := by decide +kernel
theorem dX5_init_42 : decode cX5_init 42 = .ok (.aload_n 0, 1) := by decide +kernel
theorem dX5_init_43 : decode cX5_init 43 = .ok (.iconst 0, 1) := by decide +kernel
theorem dX5_init_44 : decode cX5_init 44 = .ok (.putfield 30, 3) := by decide +kernel
theorem dX5_init_47 : decode cX5_init 47 = .ok (.aload_n 0, 1) := by decide +kernel
theorem dX5_init_48 : decode cX5_init 48 = .ok (.iconst 0, 1) := by decide +kernel
theorem dX5_init_49 : decode cX5_init 49 = .ok (.putfield 33, 3) := by decide +kernel
theorem dX5_init_52 : decode cX5_init 52 = .ok (.return_, 1) := by decide +kernel
set_option maxRecDepth 20000 in
theorem ggX5_addStation_X5_isOutside : GoodIn wsX5_addStation wsX5_isOutside := goodIn_r _ [9] (by decide +kernel) (by decide +kernel)
set_option maxRecDepth 20000 in
theorem gX5_addStation_X5_isOutside : GoodIn wsX5_addStation (va_wsS RX5 36 yX5_isOutside wsX5_isOutside) := goodIn_app (goodIn_of _ (by decide +kernel)) ggX5_addStation_X5_isOutside
set_option maxRecDepth 20000 in
theorem ggX5_addStation_Jx4a65c_size_8abf5 : GoodIn wsX5_addStation wsJx4a65c_size_8abf5 := goodIn_r _ [14, 15, 139, 140, 141] (by decide +kernel) (by decide +kernel)
set_option maxRecDepth 20000 in
theorem gX5_addStation_Jx4a65c_size_8abf5 : GoodIn wsX5_addStation (wsV RX5 50 RJx4a65c yJx4a65c_size_8abf5 wsJx4a65c_size_8abf5) := goodIn_app (goodIn_of _ (by decide +kernel)) ggX5_addStation_Jx4a65c_size_8abf5
set_option maxRecDepth 20000 in
theorem ggX5_addStation_X2_build : GoodIn wsX5_addStation wsX2_build := goodIn_r _ [19, 20, 21, 22, 23, 24, 11, 12, 13, 14, 15, 25, 26, 27, 28, 29, 30, 31, 32, 33, 34, 35, 36, 37, 38, 39, 40, 41, 42, 43, 44, 45, 46, 47, 48, 49, 50, 51, 52, 53, 54, 55, 56, 57, 58, 59, 60, 61, 62, 63, 64, 65, 66, 67, 68, 69, 70, 71, 72, 73, 74, 75, 76, 77, 78, 79, 80, 81, 82, 83, 84, 85, 86, 87, 88, 89, 90, 91, 92, 93, 94, 95, 96, 97, 98, 99, 100, 101, 102, 103, 104, 105, 106, 107, 108, 109, 110, 111, 112, 17, 113, 114, 115, 116, 117, 118, 119, 120, 121, 122, 123, 124, 125, 126, 127, 128, 129, 130, 137, 138, 142, 143, 144, 145, 146, 147, 148, 149, 150, 151, 139, 140, 141] (by decide +kernel) (by decide +kernel)
set_option maxRecDepth 20000 in
theorem gX5_addStation_X2_build_n59 : GoodIn wsX5_addStation (wsX2_build) := ggX5_addStation_X2_build
theorem dX5_addStation_0 : decode cX5_addStation 0 = .ok (.iload_n 1, 1) := by decide +kernel
theorem dX5_addStation_1 : decode cX5_addStation 1 = .ok (.iconst 1, 1) := by decide +kernel
theorem dX5_addStation_2 : decode cX5_addStation 2 = .ok (.bipush 9, 2) := by decide +kernel
theorem dX5_addStation_4 : decode cX5_addStation 4 = .ok (.invokestatic 36, 3) := by decide +kernel
theorem dX5_addStation_7 : decode cX5_addStation 7 = .ok (.ifCond .ne 13, 3) := by decide +kernel
theorem dX5_addStation_10 : decode cX5_addStation 10 = .ok (.iload_n 2, 1) := by decide +kernel
theorem dX5_addStation_11 : decode cX5_addStation 11 = .ok (.iconst 0, 1) := by decide +kernel
theorem dX5_addStation_12 : decode cX5_addStation 12 = .ok (.bipush 20, 2) := by decide +kernel
theorem dX5_addStation_14 : decode cX5_addStation 14 = .ok (.invokestatic 36, 3) := by decide +kernel
theorem dX5_addStation_17 : decode cX5_addStation 17 = .ok (.ifCond .eq 13, 3) := by decide +kernel
theorem dX5_addStation_20 : decode cX5_addStation 20 = .ok (.new 40, 3) := by decide +kernel
theorem dX5_addStation_23 : decode cX5_addStation 23 = .ok (.dup, 1) := by decide +kernel
theorem dX5_addStation_24 : decode cX5_addStation 24 = .ok (.ldc 42, 2) := by decide +kernel
theorem dX5_addStation_26 : decode cX5_addStation 26 = .ok (.invokespecial 44, 3) := by decide +kernel
theorem dX5_addStation_29 : decode cX5_addStation 29 = .ok (.athrow, 1) := by decide +kernel
theorem dX5_addStation_30 : decode cX5_addStation 30 = .ok (.aload_n 0, 1) := by decide +kernel
theorem dX5_addStation_31 : decode cX5_addStation 31 = .ok (.getfield 10, 3) := by decide +kernel
theorem dX5_addStation_34 : decode cX5_addStation 34 = .ok (.getfield 47, 3) := by decide +kernel
theorem dX5_addStation_37 : decode cX5_addStation 37 = .ok (.invokevirtual 50, 3) := by decide +kernel
theorem dX5_addStation_40 : decode cX5_addStation 40 = .ok (.bipush 14, 2) := by decide +kernel
theorem dX5_addStation_42 : decode cX5_addStation 42 = .ok (.if_icmp .lt 13, 3) := by decide +kernel
theorem dX5_addStation_45 : decode cX5_addStation 45 = .ok (.new 54, 3) := by decide +kernel
theorem dX5_addStation_48 : decode cX5_addStation 48 = .ok (.dup, 1) := by decide +kernel
theorem dX5_addStation_49 : decode cX5_addStation 49 = .ok (.ldc 56, 2) := by decide +kernel
theorem dX5_addStation_51 : decode cX5_addStation 51 = .ok (.invokespecial 58, 3) := by decide +kernel
theorem dX5_addStation_54 : decode cX5_addStation 54 = .ok (.athrow, 1) := by decide +kernel
theorem dX5_addStation_55 : decode cX5_addStation 55 = .ok (.aload_n 0, 1) := by decide +kernel
theorem dX5_addStation_56 : decode cX5_addStation 56 = .ok (.getfield 10, 3) := by decide +kernel
theorem dX5_addStation_59 : decode cX5_addStation 59 = .ok (.iload_n 1, 1) := by decide +kernel
theorem dX5_addStation_60 : decode cX5_addStation 60 = .ok (.iload_n 2, 1) := by decide +kernel
theorem dX5_addStation_61 : decode cX5_addStation 61 = .ok (.invokevirtual 59, 3) := by decide +kernel
theorem dX5_addStation_64 : decode cX5_addStation 64 = .ok (.ireturn, 1) := by decide +kernel
set_option maxRecDepth 20000 in
theorem ggX5_addTube_X5_knownStation : GoodIn wsX5_addTube wsX5_knownStation := goodIn_ca (goodIn_r _ [10, 11, 12, 5, 13, 14, 15, 16, 17, 18, 19, 20, 21, 22, 23, 24, 25, 26, 27, 28, 29, 30, 31, 32, 33, 34, 35, 36, 37, 38, 39, 40, 41, 150, 151, 152, 153, 154, 155, 156, 157, 168, 169, 170] (by decide +kernel) (by decide +kernel)) (goodIn_sub (fun _ h => List.mem_cons_of_mem _ (List.mem_append_right _ h)) (by decide +kernel))
set_option maxRecDepth 20000 in
theorem gX5_addTube_X5_knownStation : GoodIn wsX5_addTube (wsV RX5 63 RX5 yX5_knownStation wsX5_knownStation) := goodIn_app (goodIn_of _ (by decide +kernel)) ggX5_addTube_X5_knownStation
set_option maxRecDepth 20000 in
theorem ggX5_addTube_X5_isOutside : GoodIn wsX5_addTube wsX5_isOutside := goodIn_r _ [44] (by decide +kernel) (by decide +kernel)
set_option maxRecDepth 20000 in
theorem gX5_addTube_X5_isOutside : GoodIn wsX5_addTube (va_wsS RX5 36 yX5_isOutside wsX5_isOutside) := goodIn_app (goodIn_of _ (by decide +kernel)) ggX5_addTube_X5_isOutside
set_option maxRecDepth 20000 in
theorem ggX5_addTube_X5_refuseWrongSpeed : GoodIn wsX5_addTube wsX5_refuseWrongSpeed := goodIn_ca (goodIn_r _ [47, 1, 2, 42, 43, 9, 44] (by decide +kernel) (by decide +kernel)) (goodIn_sub (fun _ h => List.mem_cons_of_mem _ (List.mem_append_left _ (List.mem_append_left _ (List.mem_append_right _ h)))) (by decide +kernel))
set_option maxRecDepth 20000 in
theorem gX5_addTube_X5_refuseWrongSpeed : GoodIn wsX5_addTube (va_wsS RX5 69 yX5_refuseWrongSpeed wsX5_refuseWrongSpeed) := goodIn_app (goodIn_of _ (by decide +kernel)) ggX5_addTube_X5_refuseWrongSpeed
set_option maxRecDepth 20000 in
theorem ggX5_addTube_Jx4a65c_size_8abf5 : GoodIn wsX5_addTube wsJx4a65c_size_8abf5 := goodIn_r _ [23, 24, 168, 169, 170] (by decide +kernel) (by decide +kernel)
set_option maxRecDepth 20000 in
theorem gX5_addTube_Jx4a65c_size_8abf5 : GoodIn wsX5_addTube (wsV RX5 50 RJx4a65c yJx4a65c_size_8abf5 wsJx4a65c_size_8abf5) := goodIn_app (goodIn_of _ (by decide +kernel)) ggX5_addTube_Jx4a65c_size_8abf5
set_option maxRecDepth 20000 in
theorem ggX5_addTube_X2_lay : GoodIn wsX5_addTube wsX2_lay := goodIn_r _ [51, 52, 53, 54, 55, 19, 20, 21, 22, 23, 24, 56, 57, 58, 59, 60, 61, 62, 63, 64, 65, 66, 67, 68, 69, 70, 71, 72, 73, 74, 75, 76, 77, 78, 79, 80, 81, 41, 82, 83, 84, 85, 86, 87, 88, 89, 90, 91, 92, 93, 94, 95, 96, 97, 98, 99, 100, 101, 102, 103, 104, 105, 106, 107, 108, 109, 110, 111, 112, 113, 114, 115, 116, 117, 118, 119, 120, 121, 122, 123, 124, 125, 126, 127, 128, 129, 130, 131, 132, 133, 134, 135, 136, 137, 138, 139, 140, 141, 142, 143, 144, 145, 146, 15, 147, 18, 148, 149, 26, 27, 28, 29, 30, 31, 32, 33, 34, 35, 36, 37, 38, 39, 40, 171, 172, 173, 174, 175, 176, 177, 178, 179, 180, 181, 156, 157, 158, 159, 160, 161, 162, 163, 164, 165, 166, 167, 168, 169, 170] (by decide +kernel) (by decide +kernel)
set_option maxRecDepth 20000 in
theorem gX5_addTube_X2_lay_n83 : GoodIn wsX5_addTube (wsX2_lay) := ggX5_addTube_X2_lay
theorem dX5_addTube_0 : decode cX5_addTube 0 = .ok (.aload_n 0, 1) := by decide +kernel
theorem dX5_addTube_1 : decode cX5_addTube 1 = .ok (.iload_n 1, 1) := by decide +kernel
theorem dX5_addTube_2 : decode cX5_addTube 2 = .ok (.invokevirtual 63, 3) := by decide +kernel
theorem dX5_addTube_5 : decode cX5_addTube 5 = .ok (.astore 6, 2) := by decide +kernel
theorem dX5_addTube_7 : decode cX5_addTube 7 = .ok (.aload_n 0, 1) := by decide +kernel
theorem dX5_addTube_8 : decode cX5_addTube 8 = .ok (.iload_n 2, 1) := by decide +kernel
theorem dX5_addTube_9 : decode cX5_addTube 9 = .ok (.invokevirtual 63, 3) := by decide +kernel
theorem dX5_addTube_12 : decode cX5_addTube 12 = .ok (.astore 7, 2) := by decide +kernel
theorem dX5_addTube_14 : decode cX5_addTube 14 = .ok (.aload 6, 2) := by decide +kernel
theorem dX5_addTube_16 : decode cX5_addTube 16 = .ok (.aload 7, 2) := by decide +kernel
theorem dX5_addTube_18 : decode cX5_addTube 18 = .ok (.if_acmp .eq 24, 3) := by decide +kernel
theorem dX5_addTube_21 : decode cX5_addTube 21 = .ok (.iload_n 3, 1) := by decide +kernel
theorem dX5_addTube_22 : decode cX5_addTube 22 = .ok (.iconst 1, 1) := by decide +kernel
theorem dX5_addTube_23 : decode cX5_addTube 23 = .ok (.bipush 60, 2) := by decide +kernel
theorem dX5_addTube_25 : decode cX5_addTube 25 = .ok (.invokestatic 36, 3) := by decide +kernel
theorem dX5_addTube_28 : decode cX5_addTube 28 = .ok (.ifCond .ne 14, 3) := by decide +kernel
theorem dX5_addTube_31 : decode cX5_addTube 31 = .ok (.iload 5, 2) := by decide +kernel
theorem dX5_addTube_33 : decode cX5_addTube 33 = .ok (.iconst 1, 1) := by decide +kernel
theorem dX5_addTube_34 : decode cX5_addTube 34 = .ok (.bipush 8, 2) := by decide +kernel
theorem dX5_addTube_36 : decode cX5_addTube 36 = .ok (.invokestatic 36, 3) := by decide +kernel
theorem dX5_addTube_39 : decode cX5_addTube 39 = .ok (.ifCond .eq 13, 3) := by decide +kernel
theorem dX5_addTube_42 : decode cX5_addTube 42 = .ok (.new 40, 3) := by decide +kernel
theorem dX5_addTube_45 : decode cX5_addTube 45 = .ok (.dup, 1) := by decide +kernel
theorem dX5_addTube_46 : decode cX5_addTube 46 = .ok (.ldc 67, 2) := by decide +kernel
theorem dX5_addTube_48 : decode cX5_addTube 48 = .ok (.invokespecial 44, 3) := by decide +kernel
theorem dX5_addTube_51 : decode cX5_addTube 51 = .ok (.athrow, 1) := by decide +kernel
theorem dX5_addTube_52 : decode cX5_addTube 52 = .ok (.iload 4, 2) := by decide +kernel
theorem dX5_addTube_54 : decode cX5_addTube 54 = .ok (.invokestatic 69, 3) := by decide +kernel
theorem dX5_addTube_57 : decode cX5_addTube 57 = .ok (.aload_n 0, 1) := by decide +kernel
theorem dX5_addTube_58 : decode cX5_addTube 58 = .ok (.getfield 10, 3) := by decide +kernel
theorem dX5_addTube_61 : decode cX5_addTube 61 = .ok (.getfield 73, 3) := by decide +kernel
theorem dX5_addTube_64 : decode cX5_addTube 64 = .ok (.invokevirtual 50, 3) := by decide +kernel
theorem dX5_addTube_67 : decode cX5_addTube 67 = .ok (.bipush 30, 2) := by decide +kernel
theorem dX5_addTube_69 : decode cX5_addTube 69 = .ok (.if_icmp .ge 15, 3) := by decide +kernel
theorem dX5_addTube_72 : decode cX5_addTube 72 = .ok (.aload 6, 2) := by decide +kernel
theorem dX5_addTube_74 : decode cX5_addTube 74 = .ok (.getfield 76, 3) := by decide +kernel
theorem dX5_addTube_77 : decode cX5_addTube 77 = .ok (.invokevirtual 50, 3) := by decide +kernel
theorem dX5_addTube_80 : decode cX5_addTube 80 = .ok (.iconst 4, 1) := by decide +kernel
theorem dX5_addTube_81 : decode cX5_addTube 81 = .ok (.if_icmp .lt 13, 3) := by decide +kernel
theorem dX5_addTube_84 : decode cX5_addTube 84 = .ok (.new 54, 3) := by decide +kernel
theorem dX5_addTube_87 : decode cX5_addTube 87 = .ok (.dup, 1) := by decide +kernel
theorem dX5_addTube_88 : decode cX5_addTube 88 = .ok (.ldc 81, 2) := by decide +kernel
theorem dX5_addTube_90 : decode cX5_addTube 90 = .ok (.invokespecial 58, 3) := by decide +kernel
theorem dX5_addTube_93 : decode cX5_addTube 93 = .ok (.athrow, 1) := by decide +kernel
theorem dX5_addTube_94 : decode cX5_addTube 94 = .ok (.aload_n 0, 1) := by decide +kernel
theorem dX5_addTube_95 : decode cX5_addTube 95 = .ok (.getfield 10, 3) := by decide +kernel
theorem dX5_addTube_98 : decode cX5_addTube 98 = .ok (.aload 6, 2) := by decide +kernel
theorem dX5_addTube_100 : decode cX5_addTube 100 = .ok (.aload 7, 2) := by decide +kernel
theorem dX5_addTube_102 : decode cX5_addTube 102 = .ok (.iload_n 3, 1) := by decide +kernel
theorem dX5_addTube_103 : decode cX5_addTube 103 = .ok (.iload 4, 2) := by decide +kernel
theorem dX5_addTube_105 : decode cX5_addTube 105 = .ok (.iload 5, 2) := by decide +kernel
theorem dX5_addTube_107 : decode cX5_addTube 107 = .ok (.invokevirtual 83, 3) := by decide +kernel
theorem dX5_addTube_110 : decode cX5_addTube 110 = .ok (.ireturn, 1) := by decide +kernel
set_option maxRecDepth 20000 in
theorem ggX5_send_X5_knownStation : GoodIn wsX5_send wsX5_knownStation := goodIn_ca (goodIn_r _ [10, 11, 12, 13, 14, 15, 16, 17, 18, 19, 20, 21, 22, 23, 24, 25, 26, 27, 28, 29, 30, 31, 32, 33, 34, 35, 36, 37, 38, 39, 40, 41, 42, 155, 156, 157, 158, 159, 160, 161, 162, 163, 164, 165] (by decide +kernel) (by decide +kernel)) (goodIn_sub (fun _ h => List.mem_cons_of_mem _ (List.mem_append_right _ h)) (by decide +kernel))
set_option maxRecDepth 20000 in
theorem gX5_send_X5_knownStation : GoodIn wsX5_send (wsV RX5 63 RX5 yX5_knownStation wsX5_knownStation) := goodIn_app (goodIn_of _ (by decide +kernel)) ggX5_send_X5_knownStation
set_option maxRecDepth 20000 in
theorem ggX5_send_X5_isOutside : GoodIn wsX5_send wsX5_isOutside := goodIn_r _ [45] (by decide +kernel) (by decide +kernel)
set_option maxRecDepth 20000 in
theorem gX5_send_X5_isOutside : GoodIn wsX5_send (va_wsS RX5 36 yX5_isOutside wsX5_isOutside) := goodIn_app (goodIn_of _ (by decide +kernel)) ggX5_send_X5_isOutside
set_option maxRecDepth 20000 in
theorem ggX5_send_X5_canTakeLetterAt : GoodIn wsX5_send wsX5_canTakeLetterAt := goodIn_r _ [49, 5, 50, 51, 52, 53, 54, 55, 56, 21, 22, 23, 24, 25, 57, 58, 59, 9, 60, 61, 62, 155, 156, 157, 158, 159, 160, 166, 167, 168, 169, 170, 171, 172, 173, 174, 175, 163, 164, 165] (by decide +kernel) (by decide +kernel)
set_option maxRecDepth 20000 in
theorem gX5_send_X5_canTakeLetterAt : GoodIn wsX5_send (wsV RX5 136 RX5 yX5_canTakeLetterAt wsX5_canTakeLetterAt) := goodIn_app (goodIn_of _ (by decide +kernel)) ggX5_send_X5_canTakeLetterAt
set_option maxRecDepth 20000 in
theorem ggX5_send_X5_dispatch : GoodIn wsX5_send wsX5_dispatch := goodIn_r _ [66, 67, 68, 69, 5, 70, 62, 21, 22, 23, 24, 25, 71, 72, 73, 74, 75, 76, 77, 78, 79, 80, 81, 82, 83, 84, 85, 86, 87, 88, 89, 90, 42, 91, 92, 93, 94, 95, 96, 97, 98, 99, 100, 101, 102, 103, 104, 105, 106, 107, 108, 109, 110, 111, 112, 113, 114, 115, 116, 117, 118, 119, 120, 121, 122, 123, 124, 125, 126, 127, 128, 129, 130, 131, 132, 133, 134, 135, 136, 137, 138, 139, 140, 141, 51, 142, 143, 54, 144, 56, 145, 27, 28, 29, 30, 31, 32, 33, 34, 35, 36, 37, 38, 39, 40, 41, 146, 147, 148, 149, 150, 151, 152, 153, 154, 176, 177, 178, 179, 180, 181, 182, 183, 184, 155, 156, 157, 158, 159, 160, 163, 164, 165, 166, 167, 168, 169, 170, 171, 172, 173, 174, 175] (by decide +kernel) (by decide +kernel)
set_option maxRecDepth 20000 in
theorem gX5_send_X5_dispatch : GoodIn wsX5_send (wsV RX5 142 RX5 yX5_dispatch wsX5_dispatch) := goodIn_app (goodIn_of _ (by decide +kernel)) ggX5_send_X5_dispatch
set_option maxRecDepth 20000 in
theorem ggX5_send_Jx4a65c_size_8abf5 : GoodIn wsX5_send wsJx4a65c_size_8abf5 := goodIn_r _ [24, 25, 163, 164, 165] (by decide +kernel) (by decide +kernel)
set_option maxRecDepth 20000 in
theorem gX5_send_Jx4a65c_size_8abf5 : GoodIn wsX5_send (wsV RX5 50 RJx4a65c yJx4a65c_size_8abf5 wsJx4a65c_size_8abf5) := goodIn_app (goodIn_of _ (by decide +kernel)) ggX5_send_Jx4a65c_size_8abf5
theorem dX5_send_0 : decode cX5_send 0 = .ok (.aload_n 0, 1) := by decide +kernel
theorem dX5_send_1 : decode cX5_send 1 = .ok (.iload_n 1, 1) := by decide +kernel
theorem dX5_send_2 : decode cX5_send 2 = .ok (.invokevirtual 63, 3) := by decide +kernel
theorem dX5_send_5 : decode cX5_send 5 = .ok (.astore 4, 2) := by decide +kernel
theorem dX5_send_7 : decode cX5_send 7 = .ok (.aload_n 0, 1) := by decide +kernel
theorem dX5_send_8 : decode cX5_send 8 = .ok (.iload_n 2, 1) := by decide +kernel
theorem dX5_send_9 : decode cX5_send 9 = .ok (.invokevirtual 63, 3) := by decide +kernel
theorem dX5_send_12 : decode cX5_send 12 = .ok (.astore 5, 2) := by decide +kernel
theorem dX5_send_14 : decode cX5_send 14 = .ok (.aload 4, 2) := by decide +kernel
theorem dX5_send_16 : decode cX5_send 16 = .ok (.aload 5, 2) := by decide +kernel
theorem dX5_send_18 : decode cX5_send 18 = .ok (.if_acmp .eq 12, 3) := by decide +kernel
theorem dX5_send_21 : decode cX5_send 21 = .ok (.iload_n 3, 1) := by decide +kernel
theorem dX5_send_22 : decode cX5_send 22 = .ok (.iconst 0, 1) := by decide +kernel
theorem dX5_send_23 : decode cX5_send 23 = .ok (.iconst 3, 1) := by decide +kernel
theorem dX5_send_24 : decode cX5_send 24 = .ok (.invokestatic 36, 3) := by decide +kernel
theorem dX5_send_27 : decode cX5_send 27 = .ok (.ifCond .eq 13, 3) := by decide +kernel
theorem dX5_send_30 : decode cX5_send 30 = .ok (.new 40, 3) := by decide +kernel
theorem dX5_send_33 : decode cX5_send 33 = .ok (.dup, 1) := by decide +kernel
theorem dX5_send_34 : decode cX5_send 34 = .ok (.ldc 134, 2) := by decide +kernel
theorem dX5_send_36 : decode cX5_send 36 = .ok (.invokespecial 44, 3) := by decide +kernel
theorem dX5_send_39 : decode cX5_send 39 = .ok (.athrow, 1) := by decide +kernel
theorem dX5_send_40 : decode cX5_send 40 = .ok (.aload_n 0, 1) := by decide +kernel
theorem dX5_send_41 : decode cX5_send 41 = .ok (.aload 4, 2) := by decide +kernel
theorem dX5_send_43 : decode cX5_send 43 = .ok (.invokevirtual 136, 3) := by decide +kernel
theorem dX5_send_46 : decode cX5_send 46 = .ok (.ifCond .ne 13, 3) := by decide +kernel
theorem dX5_send_49 : decode cX5_send 49 = .ok (.new 54, 3) := by decide +kernel
theorem dX5_send_52 : decode cX5_send 52 = .ok (.dup, 1) := by decide +kernel
theorem dX5_send_53 : decode cX5_send 53 = .ok (.ldc 140, 2) := by decide +kernel
theorem dX5_send_55 : decode cX5_send 55 = .ok (.invokespecial 58, 3) := by decide +kernel
theorem dX5_send_58 : decode cX5_send 58 = .ok (.athrow, 1) := by decide +kernel
theorem dX5_send_59 : decode cX5_send 59 = .ok (.aload_n 0, 1) := by decide +kernel
theorem dX5_send_60 : decode cX5_send 60 = .ok (.aload 4, 2) := by decide +kernel
theorem dX5_send_62 : decode cX5_send 62 = .ok (.aload 5, 2) := by decide +kernel
theorem dX5_send_64 : decode cX5_send 64 = .ok (.iload_n 3, 1) := by decide +kernel
theorem dX5_send_65 : decode cX5_send 65 = .ok (.invokevirtual 142, 3) := by decide +kernel
theorem dX5_send_68 : decode cX5_send 68 = .ok (.aload_n 0, 1) := by decide +kernel
theorem dX5_send_69 : decode cX5_send 69 = .ok (.getfield 23, 3) := by decide +kernel
theorem dX5_send_72 : decode cX5_send 72 = .ok (.invokevirtual 50, 3) := by decide +kernel
theorem dX5_send_75 : decode cX5_send 75 = .ok (.iconst 1, 1) := by decide +kernel
theorem dX5_send_76 : decode cX5_send 76 = .ok (.isub, 1) := by decide +kernel
theorem dX5_send_77 : decode cX5_send 77 = .ok (.ireturn, 1) := by decide +kernel
set_option maxRecDepth 20000 in
theorem kw27 : GoodIn wsX5_run [] := goodIn_r _ [] (by decide +kernel) (by decide +kernel)
set_option maxRecDepth 20000 in
theorem kw28 : GoodIn wsX5_run [Cond.code yX5_isOutside cX5_isOutside 3 (some .boolean)] := goodIn_r _ [8] (by decide +kernel) (by decide +kernel)
theorem ggX5_run_X5_isOutside : GoodIn wsX5_run wsX5_isOutside := (goodIn_app kw28 kw27)
set_option maxRecDepth 20000 in
theorem gX5_run_X5_isOutside : GoodIn wsX5_run (va_wsS RX5 36 yX5_isOutside wsX5_isOutside) := goodIn_app (goodIn_of _ (by decide +kernel)) ggX5_run_X5_isOutside
set_option maxRecDepth 20000 in
theorem kw29 : GoodIn wsX5_run wsX5_strikeClock_r1 := goodIn_r _ [13, 14, 4, 15, 16, 17, 18, 19, 20, 21, 22, 23, 24, 25, 26, 27, 28, 29, 30, 31, 32, 33, 34, 35] (by decide +kernel) (by decide +kernel)
set_option maxRecDepth 20000 in
theorem kw30 : GoodIn wsX5_run wsX5_strikeClock_r2 := goodIn_r _ [36, 37, 38, 39, 40, 41, 42, 43, 44, 45, 7, 46, 47, 48, 49, 50, 51, 52, 53, 54, 55, 56, 57] (by decide +kernel) (by decide +kernel)
set_option maxRecDepth 20000 in
theorem kw31 : GoodIn wsX5_run wsX5_strikeClock_r3 := goodIn_r _ [58, 59, 60, 61, 62, 63, 64, 65, 66, 67, 68, 69, 70, 71, 72, 73, 74, 75, 76, 77, 78, 79, 80, 81] (by decide +kernel) (by decide +kernel)
set_option maxRecDepth 20000 in
theorem kw32 : GoodIn wsX5_run wsX5_strikeClock_r4 := goodIn_r _ [82, 83, 84, 85, 86, 87, 88, 89, 90, 91, 92, 93, 94, 95, 96, 97, 98, 99, 3, 100, 101, 102, 103, 104] (by decide +kernel) (by decide +kernel)
set_option maxRecDepth 20000 in
theorem kw33 : GoodIn wsX5_run wsX5_strikeClock_r5 := goodIn_r _ [105, 106, 107, 108, 109, 110, 111, 112, 113, 114, 115, 116, 117, 118, 119, 120, 121, 122, 123, 124, 125, 126, 127, 128] (by decide +kernel) (by decide +kernel)
set_option maxRecDepth 20000 in
theorem kw34 : GoodIn wsX5_run wsX5_strikeClock_r6 := goodIn_r _ [129, 130, 131, 132, 133, 134, 135, 136, 137, 138, 139, 140, 141, 142, 143, 144, 145, 146, 147, 148, 149, 150, 151, 152] (by decide +kernel) (by decide +kernel)
set_option maxRecDepth 20000 in
theorem kw35 : GoodIn wsX5_run wsX5_strikeClock_r7 := goodIn_r _ [153, 154, 155, 156, 157, 158, 159, 160, 161, 162, 163, 164, 165, 166, 167, 168, 169, 170, 171, 172, 173, 174, 175, 176] (by decide +kernel) (by decide +kernel)
set_option maxRecDepth 20000 in
theorem kw36 : GoodIn wsX5_run wsX5_strikeClock_r8 := goodIn_r _ [177, 178, 179, 180, 181, 182, 183, 184, 185, 186, 187, 188, 189, 190] (by decide +kernel) (by decide +kernel)
set_option maxRecDepth 20000 in
theorem kw37 : GoodIn wsX5_run wsX50 := goodIn_r _ [270, 271, 272, 273, 274, 275] (by decide +kernel) (by decide +kernel)
set_option maxRecDepth 20000 in
theorem kw38 : GoodIn wsX5_run wsJx4a65c0 := goodIn_r _ [276, 277, 278] (by decide +kernel) (by decide +kernel)
set_option maxRecDepth 20000 in
theorem kw39 : GoodIn wsX5_run wsX20 := goodIn_r _ [279, 280] (by decide +kernel) (by decide +kernel)
set_option maxRecDepth 20000 in
theorem kw40 : GoodIn wsX5_run wsX40 := goodIn_r _ [281, 282, 283, 284, 285, 286, 287, 288, 289, 290, 291] (by decide +kernel) (by decide +kernel)
set_option maxRecDepth 20000 in
theorem kw41 : GoodIn wsX5_run wsX30 := goodIn_r _ [292, 293, 294, 295, 296, 297, 298, 299, 300, 301] (by decide +kernel) (by decide +kernel)
set_option maxRecDepth 20000 in
theorem kw42 : GoodIn wsX5_run wsX00 := goodIn_r _ [302, 303, 304, 305, 306, 307, 308, 309, 310] (by decide +kernel) (by decide +kernel)
set_option maxRecDepth 20000 in
theorem kw43 : GoodIn wsX5_run [Cond.code yX5_strikeClock cX5_strikeClock 3 none] := goodIn_r _ [12] (by decide +kernel) (by decide +kernel)
theorem ggX5_run_X5_strikeClock : GoodIn wsX5_run wsX5_strikeClock := (goodIn_app kw43 (goodIn_app (goodIn_app (goodIn_app (goodIn_app (goodIn_app (goodIn_app (goodIn_app kw29 (goodIn_app kw30 (goodIn_app kw31 (goodIn_app kw32 (goodIn_app kw33 (goodIn_app kw34 (goodIn_app kw35 kw36))))))) kw37) kw38) kw39) kw40) kw41) kw42))
set_option maxRecDepth 20000 in
theorem gX5_run_X5_strikeClock : GoodIn wsX5_run (wsV RX5 148 RX5 yX5_strikeClock wsX5_strikeClock) := goodIn_app (goodIn_of _ (by decide +kernel)) ggX5_run_X5_strikeClock
set_option maxRecDepth 20000 in
theorem kw44 : GoodIn wsX5_run wsX5_arriveEverywhere_r1 := goodIn_r _ [47, 48, 15, 16, 17, 18, 19, 20, 21, 22, 23, 24, 25, 26, 27, 28, 29, 30, 31, 32, 33, 34, 35, 36] (by decide +kernel) (by decide +kernel)
set_option maxRecDepth 20000 in
theorem kw45 : GoodIn wsX5_run wsX5_arriveEverywhere_r2 := goodIn_r _ [37, 195, 196, 197, 7, 198, 4, 104, 200, 60, 201, 202, 203, 204, 205, 206, 207, 208, 209, 210, 211, 212, 213, 3] (by decide +kernel) (by decide +kernel)
set_option maxRecDepth 20000 in
theorem kw46 : GoodIn wsX5_run wsX5_arriveEverywhere_r3 := goodIn_r _ [214, 89, 90, 91, 92, 93, 94, 95, 174, 106, 175, 176, 116, 117, 118, 177, 178, 179, 180, 181, 182, 183, 184, 185] (by decide +kernel) (by decide +kernel)
set_option maxRecDepth 20000 in
theorem kw47 : GoodIn wsX5_run wsX5_arriveEverywhere_r4 := goodIn_r _ [125, 126, 186, 171, 172, 173, 187, 188, 189, 190, 131, 132, 133, 134, 135, 136, 137, 138, 139, 140, 141, 142, 143, 144] (by decide +kernel) (by decide +kernel)
set_option maxRecDepth 20000 in
theorem kw48 : GoodIn wsX5_run wsX5_arriveEverywhere_r5 := goodIn_r _ [145, 146, 147, 148, 149, 150, 151, 152, 153, 154, 155, 156, 157, 158, 159, 160, 161, 162, 163, 164, 165, 166, 167, 168] (by decide +kernel) (by decide +kernel)
set_option maxRecDepth 20000 in
theorem kw49 : GoodIn wsX5_run wsX5_arriveEverywhere_r6 := goodIn_r _ [169, 170, 215, 216, 217, 218, 219, 220, 221, 222] (by decide +kernel) (by decide +kernel)
set_option maxRecDepth 20000 in
theorem kw50 : GoodIn wsX5_run [Cond.code yX5_arriveEverywhere cX5_arriveEverywhere 2 none] := goodIn_r _ [194] (by decide +kernel) (by decide +kernel)
theorem ggX5_run_X5_arriveEverywhere : GoodIn wsX5_run wsX5_arriveEverywhere := (goodIn_app kw50 (goodIn_app (goodIn_app (goodIn_app (goodIn_app (goodIn_app (goodIn_app (goodIn_app kw44 (goodIn_app kw45 (goodIn_app kw46 (goodIn_app kw47 (goodIn_app kw48 kw49))))) kw37) kw39) kw38) kw40) kw42) kw41))
set_option maxRecDepth 20000 in
theorem gX5_run_X5_arriveEverywhere : GoodIn wsX5_run (wsV RX5 151 RX5 yX5_arriveEverywhere wsX5_arriveEverywhere) := goodIn_app (goodIn_of _ (by decide +kernel)) ggX5_run_X5_arriveEverywhere
set_option maxRecDepth 20000 in
theorem kw51 : GoodIn wsX5_run wsX5_departEverywhere_r1 := goodIn_r _ [47, 49, 15, 16, 17, 18, 19, 20, 21, 22, 23, 24, 25, 26, 27, 28, 29, 30, 31, 32, 33, 34, 35, 36] (by decide +kernel) (by decide +kernel)
set_option maxRecDepth 20000 in
theorem kw52 : GoodIn wsX5_run wsX5_departEverywhere_r2 := goodIn_r _ [37, 227, 228, 229, 7, 230, 104, 4, 231, 232, 233, 234, 48, 235, 51, 236, 237, 238, 239, 240, 241, 242, 243, 74] (by decide +kernel) (by decide +kernel)
set_option maxRecDepth 20000 in
theorem kw53 : GoodIn wsX5_run wsX5_departEverywhere_r3 := goodIn_r _ [54, 244, 245, 156, 246, 247, 90, 248, 249, 250, 251, 55, 76, 252, 253, 254, 255, 256, 257, 258, 5, 6, 8, 259] (by decide +kernel) (by decide +kernel)
set_option maxRecDepth 20000 in
theorem kw54 : GoodIn wsX5_run wsX5_departEverywhere_r4 := goodIn_r _ [60, 260, 261, 262, 203, 263, 264, 265, 215, 216, 217, 218, 219, 220, 221, 222, 125, 126, 186, 171, 172, 173, 266, 106] (by decide +kernel) (by decide +kernel)
set_option maxRecDepth 20000 in
theorem kw55 : GoodIn wsX5_run wsX5_departEverywhere_r5 := goodIn_r _ [267, 268, 116, 117, 118, 119, 120, 269, 122, 123, 124, 127, 128, 129, 130, 131, 132, 133, 134, 135, 136, 137, 138, 139] (by decide +kernel) (by decide +kernel)
set_option maxRecDepth 20000 in
theorem kw56 : GoodIn wsX5_run wsX5_departEverywhere_r6 := goodIn_r _ [140, 141, 142, 143, 144, 145, 146, 147, 148, 149, 150, 151, 152, 153, 154, 155, 157, 158, 159, 160, 161, 162, 163, 164] (by decide +kernel) (by decide +kernel)
set_option maxRecDepth 20000 in
theorem kw57 : GoodIn wsX5_run wsX5_departEverywhere_r7 := goodIn_r _ [165, 166, 167, 168, 169, 170] (by decide +kernel) (by decide +kernel)
set_option maxRecDepth 20000 in
theorem kw58 : GoodIn wsX5_run [Cond.code yX5_departEverywhere cX5_departEverywhere 2 none] := goodIn_r _ [226] (by decide +kernel) (by decide +kernel)
theorem ggX5_run_X5_departEverywhere : GoodIn wsX5_run wsX5_departEverywhere := (goodIn_app kw58 (goodIn_app (goodIn_app (goodIn_app (goodIn_app (goodIn_app (goodIn_app (goodIn_app kw51 (goodIn_app kw52 (goodIn_app kw53 (goodIn_app kw54 (goodIn_app kw55 (goodIn_app kw56 kw57)))))) kw37) kw39) kw38) kw41) kw42) kw40))
set_option maxRecDepth 20000 in
theorem gX5_run_X5_departEverywhere : GoodIn wsX5_run (wsV RX5 154 RX5 yX5_departEverywhere wsX5_departEverywhere) := goodIn_app (goodIn_of _ (by decide +kernel)) ggX5_run_X5_departEverywhere
theorem dX5_run_0 : decode cX5_run 0 = .ok (.iload_n 1, 1) := by decide +kernel
theorem dX5_run_1 : decode cX5_run 1 = .ok (.iconst 1, 1) := by decide +kernel
theorem dX5_run_2 : decode cX5_run 2 = .ok (.sipush 500, 3) := by decide +kernel
theorem dX5_run_5 : decode cX5_run 5 = .ok (.invokestatic 36, 3) := by decide +kernel
theorem dX5_run_8 : decode cX5_run 8 = .ok (.ifCond .eq 13, 3) := by decide +kernel
theorem dX5_run_11 : decode cX5_run 11 = .ok (.new 40, 3) := by decide +kernel
theorem dX5_run_14 : decode cX5_run 14 = .ok (.dup, 1) := by decide +kernel
theorem dX5_run_15 : decode cX5_run 15 = .ok (.ldc 146, 2) := by decide +kernel
theorem dX5_run_17 : decode cX5_run 17 = .ok (.invokespecial 44, 3) := by decide +kernel
theorem dX5_run_20 : decode cX5_run 20 = .ok (.athrow, 1) := by decide +kernel
theorem dX5_run_21 : decode cX5_run 21 = .ok (.aload_n 0, 1) := by decide +kernel
theorem dX5_run_22 : decode cX5_run 22 = .ok (.getfield 30, 3) := by decide +kernel
theorem dX5_run_25 : decode cX5_run 25 = .ok (.istore_n 2, 1) := by decide +kernel
theorem dX5_run_26 : decode cX5_run 26 = .ok (.iconst 0, 1) := by decide +kernel
theorem dX5_run_27 : decode cX5_run 27 = .ok (.istore_n 3, 1) := by decide +kernel
theorem dX5_run_28 : decode cX5_run 28 = .ok (.iload_n 3, 1) := by decide +kernel
theorem dX5_run_29 : decode cX5_run 29 = .ok (.iload_n 1, 1) := by decide +kernel
theorem dX5_run_30 : decode cX5_run 30 = .ok (.if_icmp .ge 31, 3) := by decide +kernel
theorem dX5_run_33 : decode cX5_run 33 = .ok (.aload_n 0, 1) := by decide +kernel
theorem dX5_run_34 : decode cX5_run 34 = .ok (.dup, 1) := by decide +kernel
theorem dX5_run_35 : decode cX5_run 35 = .ok (.getfield 26, 3) := by decide +kernel
theorem dX5_run_38 : decode cX5_run 38 = .ok (.iconst 1, 1) := by decide +kernel
theorem dX5_run_39 : decode cX5_run 39 = .ok (.iadd, 1) := by decide +kernel
theorem dX5_run_40 : decode cX5_run 40 = .ok (.putfield 26, 3) := by decide +kernel
theorem dX5_run_43 : decode cX5_run 43 = .ok (.aload_n 0, 1) := by decide +kernel
theorem dX5_run_44 : decode cX5_run 44 = .ok (.invokevirtual 148, 3) := by decide +kernel
theorem dX5_run_47 : decode cX5_run 47 = .ok (.aload_n 0, 1) := by decide +kernel
theorem dX5_run_48 : decode cX5_run 48 = .ok (.invokevirtual 151, 3) := by decide +kernel
theorem dX5_run_51 : decode cX5_run 51 = .ok (.aload_n 0, 1) := by decide +kernel
theorem dX5_run_52 : decode cX5_run 52 = .ok (.invokevirtual 154, 3) := by decide +kernel
theorem dX5_run_55 : decode cX5_run 55 = .ok (.iinc 3 1, 3) := by decide +kernel
theorem dX5_run_58 : decode cX5_run 58 = .ok (.goto (-30), 3) := by decide +kernel
theorem dX5_run_61 : decode cX5_run 61 = .ok (.aload_n 0, 1) := by decide +kernel
theorem dX5_run_62 : decode cX5_run 62 = .ok (.getfield 30, 3) := by decide +kernel
theorem dX5_run_65 : decode cX5_run 65 = .ok (.iload_n 2, 1) := by decide +kernel
theorem dX5_run_66 : decode cX5_run 66 = .ok (.isub, 1) := by decide +kernel
theorem dX5_run_67 : decode cX5_run 67 = .ok (.ireturn, 1) := by decide +kernel
set_option maxRecDepth 20000 in
theorem ggX5_carrier_Jx4a65c_size_8abf5 : GoodIn wsX5_carrier wsJx4a65c_size_8abf5 := goodIn_r _ [9, 10, 57, 58, 59] (by decide +kernel) (by decide +kernel)
set_option maxRecDepth 20000 in
theorem gX5_carrier_Jx4a65c_size_8abf5 : GoodIn wsX5_carrier (wsV RX5 50 RJx4a65c yJx4a65c_size_8abf5 wsJx4a65c_size_8abf5) := goodIn_app (goodIn_of _ (by decide +kernel)) ggX5_carrier_Jx4a65c_size_8abf5
set_option maxRecDepth 20000 in
theorem ggX5_carrier_X5_isOutside : GoodIn wsX5_carrier wsX5_isOutside := goodIn_r _ [14] (by decide +kernel) (by decide +kernel)
set_option maxRecDepth 20000 in
theorem gX5_carrier_X5_isOutside : GoodIn wsX5_carrier (va_wsS RX5 36 yX5_isOutside wsX5_isOutside) := goodIn_app (goodIn_of _ (by decide +kernel)) ggX5_carrier_X5_isOutside
set_option maxRecDepth 20000 in
theorem ggX5_carrier_Jx4a65c_get_915e3 : GoodIn wsX5_carrier wsJx4a65c_get_915e3 := goodIn_r _ [18, 10, 19, 20, 21, 22, 23, 24, 25, 26, 27, 28, 29, 8, 30, 31, 57, 58, 59] (by decide +kernel) (by decide +kernel)
set_option maxRecDepth 20000 in
theorem gX5_carrier_Jx4a65c_get_915e3 : GoodIn wsX5_carrier (wsV RX5 159 RJx4a65c yJx4a65c_get_915e3 wsJx4a65c_get_915e3) := goodIn_app (goodIn_of _ (by decide +kernel)) ggX5_carrier_Jx4a65c_get_915e3
theorem dX5_carrier_0 : decode cX5_carrier 0 = .ok (.iload_n 1, 1) := by decide +kernel
theorem dX5_carrier_1 : decode cX5_carrier 1 = .ok (.iconst 0, 1) := by decide +kernel
theorem dX5_carrier_2 : decode cX5_carrier 2 = .ok (.aload_n 0, 1) := by decide +kernel
theorem dX5_carrier_3 : decode cX5_carrier 3 = .ok (.getfield 23, 3) := by decide +kernel
theorem dX5_carrier_6 : decode cX5_carrier 6 = .ok (.invokevirtual 50, 3) := by decide +kernel
theorem dX5_carrier_9 : decode cX5_carrier 9 = .ok (.iconst 1, 1) := by decide +kernel
theorem dX5_carrier_10 : decode cX5_carrier 10 = .ok (.isub, 1) := by decide +kernel
theorem dX5_carrier_11 : decode cX5_carrier 11 = .ok (.invokestatic 36, 3) := by decide +kernel
theorem dX5_carrier_14 : decode cX5_carrier 14 = .ok (.ifCond .eq 13, 3) := by decide +kernel
theorem dX5_carrier_17 : decode cX5_carrier 17 = .ok (.new 127, 3) := by decide +kernel
theorem dX5_carrier_20 : decode cX5_carrier 20 = .ok (.dup, 1) := by decide +kernel
theorem dX5_carrier_21 : decode cX5_carrier 21 = .ok (.ldc 157, 2) := by decide +kernel
theorem dX5_carrier_23 : decode cX5_carrier 23 = .ok (.invokespecial 131, 3) := by decide +kernel
theorem dX5_carrier_26 : decode cX5_carrier 26 = .ok (.athrow, 1) := by decide +kernel
theorem dX5_carrier_27 : decode cX5_carrier 27 = .ok (.aload_n 0, 1) := by decide +kernel
theorem dX5_carrier_28 : decode cX5_carrier 28 = .ok (.getfield 23, 3) := by decide +kernel
theorem dX5_carrier_31 : decode cX5_carrier 31 = .ok (.iload_n 1, 1) := by decide +kernel
theorem dX5_carrier_32 : decode cX5_carrier 32 = .ok (.invokevirtual 159, 3) := by decide +kernel
theorem dX5_carrier_35 : decode cX5_carrier 35 = .ok (.checkcast 163, 3) := by decide +kernel
theorem dX5_carrier_38 : decode cX5_carrier 38 = .ok (.astore_n 3, 1) := by decide +kernel
theorem dX5_carrier_39 : decode cX5_carrier 39 = .ok (.iload_n 2, 1) := by decide +kernel
theorem dX5_carrier_40 : decode cX5_carrier 40 = .ok (.tableswitch 82 0 6 #[44, 49, 54, 62, 67, 72, 77], 44) := by decide +kernel
theorem dX5_carrier_84 : decode cX5_carrier 84 = .ok (.aload_n 3, 1) := by decide +kernel
theorem dX5_carrier_85 : decode cX5_carrier 85 = .ok (.getfield 165, 3) := by decide +kernel
theorem dX5_carrier_88 : decode cX5_carrier 88 = .ok (.ireturn, 1) := by decide +kernel
theorem dX5_carrier_89 : decode cX5_carrier 89 = .ok (.aload_n 3, 1) := by decide +kernel
theorem dX5_carrier_90 : decode cX5_carrier 90 = .ok (.getfield 168, 3) := by decide +kernel
theorem dX5_carrier_93 : decode cX5_carrier 93 = .ok (.ireturn, 1) := by decide +kernel
theorem dX5_carrier_94 : decode cX5_carrier 94 = .ok (.aload_n 3, 1) := by decide +kernel
theorem dX5_carrier_95 : decode cX5_carrier 95 = .ok (.getfield 171, 3) := by decide +kernel
theorem dX5_carrier_98 : decode cX5_carrier 98 = .ok (.getfield 175, 3) := by decide +kernel
theorem dX5_carrier_101 : decode cX5_carrier 101 = .ok (.ireturn, 1) := by decide +kernel
theorem dX5_carrier_102 : decode cX5_carrier 102 = .ok (.aload_n 3, 1) := by decide +kernel
theorem dX5_carrier_103 : decode cX5_carrier 103 = .ok (.getfield 178, 3) := by decide +kernel
theorem dX5_carrier_106 : decode cX5_carrier 106 = .ok (.ireturn, 1) := by decide +kernel
theorem dX5_carrier_107 : decode cX5_carrier 107 = .ok (.aload_n 3, 1) := by decide +kernel
theorem dX5_carrier_108 : decode cX5_carrier 108 = .ok (.getfield 181, 3) := by decide +kernel
theorem dX5_carrier_111 : decode cX5_carrier 111 = .ok (.ireturn, 1) := by decide +kernel
theorem dX5_carrier_112 : decode cX5_carrier 112 = .ok (.aload_n 3, 1) := by decide +kernel
theorem dX5_carrier_113 : decode cX5_carrier 113 = .ok (.getfield 184, 3) := by decide +kernel
theorem dX5_carrier_116 : decode cX5_carrier 116 = .ok (.ireturn, 1) := by decide +kernel
theorem dX5_carrier_117 : decode cX5_carrier 117 = .ok (.aload_n 3, 1) := by decide +kernel
theorem dX5_carrier_118 : decode cX5_carrier 118 = .ok (.getfield 187, 3) := by decide +kernel
theorem dX5_carrier_121 : decode cX5_carrier 121 = .ok (.ireturn, 1) := by decide +kernel
theorem dX5_carrier_122 : decode cX5_carrier 122 = .ok (.new 127, 3) := by decide +kernel
theorem dX5_carrier_125 : decode cX5_carrier 125 = .ok (.dup, 1) := by decide +kernel
theorem dX5_carrier_126 : decode cX5_carrier 126 = .ok (.ldc 190, 2) := by decide +kernel
theorem dX5_carrier_128 : decode cX5_carrier 128 = .ok (.invokespecial 131, 3) := by decide +kernel
theorem dX5_carrier_131 : decode cX5_carrier 131 = .ok (.athrow, 1) := by decide +kernel
set_option maxRecDepth 20000 in
theorem ggX5_count_Jx4a65c_size_8abf5 : GoodIn wsX5_count wsJx4a65c_size_8abf5 := goodIn_r _ [13, 14, 61, 62, 63] (by decide +kernel) (by decide +kernel)
set_option maxRecDepth 20000 in
theorem gX5_count_Jx4a65c_size_8abf5 : GoodIn wsX5_count (wsV RX5 50 RJx4a65c yJx4a65c_size_8abf5 wsJx4a65c_size_8abf5) := goodIn_app (goodIn_of _ (by decide +kernel)) ggX5_count_Jx4a65c_size_8abf5
set_option maxRecDepth 20000 in
theorem ggX5_count_X5_underWay : GoodIn wsX5_count wsX5_underWay := goodIn_r _ [19, 6, 7, 9, 10, 11, 12, 13, 14, 53, 54, 55, 56, 57, 58, 61, 62, 63] (by decide +kernel) (by decide +kernel)
set_option maxRecDepth 20000 in
theorem gX5_count_X5_underWay : GoodIn wsX5_count (wsV RX5 192 RX5 yX5_underWay wsX5_underWay) := goodIn_app (goodIn_of _ (by decide +kernel)) ggX5_count_X5_underWay
set_option maxRecDepth 20000 in
theorem ggX5_count_X5_jammedTubes : GoodIn wsX5_count wsX5_jammedTubes := goodIn_r _ [23, 4, 24, 3, 9, 10, 11, 12, 13, 14, 25, 26, 27, 28, 29, 30, 31, 32, 33, 34, 35, 36, 37, 38, 39, 40, 41, 42, 43, 44, 45, 46, 47, 48, 49, 50, 51, 52, 53, 54, 55, 56, 57, 58, 59, 60, 61, 62, 63, 64, 65, 66, 67, 68, 69, 70, 71, 72, 73, 74, 75, 76, 77, 78, 79, 80, 81, 82, 83] (by decide +kernel) (by decide +kernel)
set_option maxRecDepth 20000 in
theorem gX5_count_X5_jammedTubes : GoodIn wsX5_count (wsV RX5 195 RX5 yX5_jammedTubes wsX5_jammedTubes) := goodIn_app (goodIn_of _ (by decide +kernel)) ggX5_count_X5_jammedTubes
theorem dX5_count_0 : decode cX5_count 0 = .ok (.iload_n 1, 1) := by decide +kernel
theorem dX5_count_1 : decode cX5_count 1 = .ok (.tableswitch 114 0 8 #[51, 56, 67, 78, 86, 94, 99, 104, 109], 51) := by decide +kernel
theorem dX5_count_52 : decode cX5_count 52 = .ok (.aload_n 0, 1) := by decide +kernel
theorem dX5_count_53 : decode cX5_count 53 = .ok (.getfield 26, 3) := by decide +kernel
theorem dX5_count_56 : decode cX5_count 56 = .ok (.ireturn, 1) := by decide +kernel
theorem dX5_count_57 : decode cX5_count 57 = .ok (.aload_n 0, 1) := by decide +kernel
theorem dX5_count_58 : decode cX5_count 58 = .ok (.getfield 10, 3) := by decide +kernel
theorem dX5_count_61 : decode cX5_count 61 = .ok (.getfield 47, 3) := by decide +kernel
theorem dX5_count_64 : decode cX5_count 64 = .ok (.invokevirtual 50, 3) := by decide +kernel
theorem dX5_count_67 : decode cX5_count 67 = .ok (.ireturn, 1) := by decide +kernel
theorem dX5_count_68 : decode cX5_count 68 = .ok (.aload_n 0, 1) := by decide +kernel
theorem dX5_count_69 : decode cX5_count 69 = .ok (.getfield 10, 3) := by decide +kernel
theorem dX5_count_72 : decode cX5_count 72 = .ok (.getfield 73, 3) := by decide +kernel
theorem dX5_count_75 : decode cX5_count 75 = .ok (.invokevirtual 50, 3) := by decide +kernel
theorem dX5_count_78 : decode cX5_count 78 = .ok (.ireturn, 1) := by decide +kernel
theorem dX5_count_79 : decode cX5_count 79 = .ok (.aload_n 0, 1) := by decide +kernel
theorem dX5_count_80 : decode cX5_count 80 = .ok (.getfield 19, 3) := by decide +kernel
theorem dX5_count_83 : decode cX5_count 83 = .ok (.invokevirtual 50, 3) := by decide +kernel
theorem dX5_count_86 : decode cX5_count 86 = .ok (.ireturn, 1) := by decide +kernel
theorem dX5_count_87 : decode cX5_count 87 = .ok (.aload_n 0, 1) := by decide +kernel
theorem dX5_count_88 : decode cX5_count 88 = .ok (.getfield 23, 3) := by decide +kernel
theorem dX5_count_91 : decode cX5_count 91 = .ok (.invokevirtual 50, 3) := by decide +kernel
theorem dX5_count_94 : decode cX5_count 94 = .ok (.ireturn, 1) := by decide +kernel
theorem dX5_count_95 : decode cX5_count 95 = .ok (.aload_n 0, 1) := by decide +kernel
theorem dX5_count_96 : decode cX5_count 96 = .ok (.invokevirtual 192, 3) := by decide +kernel
theorem dX5_count_99 : decode cX5_count 99 = .ok (.ireturn, 1) := by decide +kernel
theorem dX5_count_100 : decode cX5_count 100 = .ok (.aload_n 0, 1) := by decide +kernel
theorem dX5_count_101 : decode cX5_count 101 = .ok (.getfield 30, 3) := by decide +kernel
theorem dX5_count_104 : decode cX5_count 104 = .ok (.ireturn, 1) := by decide +kernel
theorem dX5_count_105 : decode cX5_count 105 = .ok (.aload_n 0, 1) := by decide +kernel
theorem dX5_count_106 : decode cX5_count 106 = .ok (.invokevirtual 195, 3) := by decide +kernel
theorem dX5_count_109 : decode cX5_count 109 = .ok (.ireturn, 1) := by decide +kernel
theorem dX5_count_110 : decode cX5_count 110 = .ok (.aload_n 0, 1) := by decide +kernel
theorem dX5_count_111 : decode cX5_count 111 = .ok (.getfield 33, 3) := by decide +kernel
theorem dX5_count_114 : decode cX5_count 114 = .ok (.ireturn, 1) := by decide +kernel
theorem dX5_count_115 : decode cX5_count 115 = .ok (.new 127, 3) := by decide +kernel
theorem dX5_count_118 : decode cX5_count 118 = .ok (.dup, 1) := by decide +kernel
theorem dX5_count_119 : decode cX5_count 119 = .ok (.ldc 198, 2) := by decide +kernel
theorem dX5_count_121 : decode cX5_count 121 = .ok (.invokespecial 131, 3) := by decide +kernel
theorem dX5_count_124 : decode cX5_count 124 = .ok (.athrow, 1) := by decide +kernel
set_option maxRecDepth 20000 in
theorem ggX5_station_X5_knownStation : GoodIn wsX5_station wsX5_knownStation := goodIn_ca (goodIn_r _ [7, 1, 2, 8, 9, 10, 11, 12, 13, 14, 15, 16, 17, 18, 19, 20, 21, 22, 23, 24, 25, 26, 27, 28, 29, 30, 31, 32, 33, 34, 35, 36, 37, 49, 50, 51, 52, 53, 54, 55, 56, 57, 58, 59] (by decide +kernel) (by decide +kernel)) (goodIn_sub (fun _ h => List.mem_cons_of_mem _ (List.mem_append_right _ h)) (by decide +kernel))
set_option maxRecDepth 20000 in
theorem gX5_station_X5_knownStation : GoodIn wsX5_station (wsV RX5 63 RX5 yX5_knownStation wsX5_knownStation) := goodIn_app (goodIn_of _ (by decide +kernel)) ggX5_station_X5_knownStation
set_option maxRecDepth 20000 in
theorem ggX5_station_Jx4a65c_size_8abf5 : GoodIn wsX5_station wsJx4a65c_size_8abf5 := goodIn_r _ [19, 20, 57, 58, 59] (by decide +kernel) (by decide +kernel)
set_option maxRecDepth 20000 in
theorem gX5_station_Jx4a65c_size_8abf5 : GoodIn wsX5_station (wsV RX5 50 RJx4a65c yJx4a65c_size_8abf5 wsJx4a65c_size_8abf5) := goodIn_app (goodIn_of _ (by decide +kernel)) ggX5_station_Jx4a65c_size_8abf5
theorem dX5_station_0 : decode cX5_station 0 = .ok (.aload_n 0, 1) := by decide +kernel
theorem dX5_station_1 : decode cX5_station 1 = .ok (.iload_n 1, 1) := by decide +kernel
theorem dX5_station_2 : decode cX5_station 2 = .ok (.invokevirtual 63, 3) := by decide +kernel
theorem dX5_station_5 : decode cX5_station 5 = .ok (.astore_n 3, 1) := by decide +kernel
theorem dX5_station_6 : decode cX5_station 6 = .ok (.iload_n 2, 1) := by decide +kernel
theorem dX5_station_7 : decode cX5_station 7 = .ok (.tableswitch 73 0 5 #[37, 42, 47, 55, 60, 68], 37) := by decide +kernel
theorem dX5_station_44 : decode cX5_station 44 = .ok (.aload_n 3, 1) := by decide +kernel
theorem dX5_station_45 : decode cX5_station 45 = .ok (.getfield 200, 3) := by decide +kernel
theorem dX5_station_48 : decode cX5_station 48 = .ok (.ireturn, 1) := by decide +kernel
theorem dX5_station_49 : decode cX5_station 49 = .ok (.aload_n 3, 1) := by decide +kernel
theorem dX5_station_50 : decode cX5_station 50 = .ok (.getfield 203, 3) := by decide +kernel
theorem dX5_station_53 : decode cX5_station 53 = .ok (.ireturn, 1) := by decide +kernel
theorem dX5_station_54 : decode cX5_station 54 = .ok (.aload_n 3, 1) := by decide +kernel
theorem dX5_station_55 : decode cX5_station 55 = .ok (.getfield 76, 3) := by decide +kernel
theorem dX5_station_58 : decode cX5_station 58 = .ok (.invokevirtual 50, 3) := by decide +kernel
theorem dX5_station_61 : decode cX5_station 61 = .ok (.ireturn, 1) := by decide +kernel
theorem dX5_station_62 : decode cX5_station 62 = .ok (.aload_n 3, 1) := by decide +kernel
theorem dX5_station_63 : decode cX5_station 63 = .ok (.getfield 93, 3) := by decide +kernel
theorem dX5_station_66 : decode cX5_station 66 = .ok (.ireturn, 1) := by decide +kernel
theorem dX5_station_67 : decode cX5_station 67 = .ok (.aload_n 3, 1) := by decide +kernel
theorem dX5_station_68 : decode cX5_station 68 = .ok (.getfield 206, 3) := by decide +kernel
theorem dX5_station_71 : decode cX5_station 71 = .ok (.invokevirtual 50, 3) := by decide +kernel
theorem dX5_station_74 : decode cX5_station 74 = .ok (.ireturn, 1) := by decide +kernel
theorem dX5_station_75 : decode cX5_station 75 = .ok (.aload_n 3, 1) := by decide +kernel
theorem dX5_station_76 : decode cX5_station 76 = .ok (.getfield 209, 3) := by decide +kernel
theorem dX5_station_79 : decode cX5_station 79 = .ok (.ireturn, 1) := by decide +kernel
theorem dX5_station_80 : decode cX5_station 80 = .ok (.new 127, 3) := by decide +kernel
theorem dX5_station_83 : decode cX5_station 83 = .ok (.dup, 1) := by decide +kernel
theorem dX5_station_84 : decode cX5_station 84 = .ok (.ldc 212, 2) := by decide +kernel
theorem dX5_station_86 : decode cX5_station 86 = .ok (.invokespecial 131, 3) := by decide +kernel
theorem dX5_station_89 : decode cX5_station 89 = .ok (.athrow, 1) := by decide +kernel
set_option maxRecDepth 20000 in
theorem ggX5_tube_X5_knownTube : GoodIn wsX5_tube wsX5_knownTube := goodIn_ca (goodIn_r _ [8, 1, 2, 9, 10, 11, 12, 13, 14, 15, 16, 17, 18, 19, 20, 21, 22, 23, 24, 25, 26, 27, 28, 29, 30, 31, 32, 33, 34, 35, 36, 37, 38, 72, 73, 74, 75, 76, 77, 78, 79, 80, 81, 82] (by decide +kernel) (by decide +kernel)) (goodIn_sub (fun _ h => List.mem_cons_of_mem _ (List.mem_append_right _ h)) (by decide +kernel))
set_option maxRecDepth 20000 in
theorem gX5_tube_X5_knownTube : GoodIn wsX5_tube (wsV RX5 96 RX5 yX5_knownTube wsX5_knownTube) := goodIn_app (goodIn_of _ (by decide +kernel)) ggX5_tube_X5_knownTube
set_option maxRecDepth 20000 in
theorem ggX5_tube_Jx4a65c_size_8abf5 : GoodIn wsX5_tube wsJx4a65c_size_8abf5 := goodIn_r _ [20, 21, 80, 81, 82] (by decide +kernel) (by decide +kernel)
set_option maxRecDepth 20000 in
theorem gX5_tube_Jx4a65c_size_8abf5 : GoodIn wsX5_tube (wsV RX5 50 RJx4a65c yJx4a65c_size_8abf5 wsJx4a65c_size_8abf5) := goodIn_app (goodIn_of _ (by decide +kernel)) ggX5_tube_Jx4a65c_size_8abf5
set_option maxRecDepth 20000 in
theorem ggX5_tube_X4_isFirstAtEnd : GoodIn wsX5_tube wsX4_isFirstAtEnd := goodIn_r _ [43, 44, 45, 46, 47, 48, 19, 49, 21, 50, 23, 24, 25, 26, 27, 28, 29, 30, 31, 32, 33, 34, 35, 36, 37, 38, 51, 52, 53, 54, 55, 56, 57, 58, 59, 60, 61, 83, 84, 85, 86, 87, 88, 89, 90, 91, 80, 81, 82] (by decide +kernel) (by decide +kernel)
set_option maxRecDepth 20000 in
theorem gX5_tube_X4_isFirstAtEnd_n233 : GoodIn wsX5_tube (wsX4_isFirstAtEnd) := ggX5_tube_X4_isFirstAtEnd
theorem dX5_tube_0 : decode cX5_tube 0 = .ok (.aload_n 0, 1) := by decide +kernel
theorem dX5_tube_1 : decode cX5_tube 1 = .ok (.iload_n 1, 1) := by decide +kernel
theorem dX5_tube_2 : decode cX5_tube 2 = .ok (.invokevirtual 96, 3) := by decide +kernel
theorem dX5_tube_5 : decode cX5_tube 5 = .ok (.astore_n 3, 1) := by decide +kernel
theorem dX5_tube_6 : decode cX5_tube 6 = .ok (.iload_n 2, 1) := by decide +kernel
theorem dX5_tube_7 : decode cX5_tube 7 = .ok (.tableswitch 123 0 8 #[49, 57, 65, 70, 75, 80, 93, 101, 118], 49) := by decide +kernel
theorem dX5_tube_56 : decode cX5_tube 56 = .ok (.aload_n 3, 1) := by decide +kernel
theorem dX5_tube_57 : decode cX5_tube 57 = .ok (.getfield 214, 3) := by decide +kernel
theorem dX5_tube_60 : decode cX5_tube 60 = .ok (.getfield 175, 3) := by decide +kernel
theorem dX5_tube_63 : decode cX5_tube 63 = .ok (.ireturn, 1) := by decide +kernel
theorem dX5_tube_64 : decode cX5_tube 64 = .ok (.aload_n 3, 1) := by decide +kernel
theorem dX5_tube_65 : decode cX5_tube 65 = .ok (.getfield 217, 3) := by decide +kernel
theorem dX5_tube_68 : decode cX5_tube 68 = .ok (.getfield 175, 3) := by decide +kernel
theorem dX5_tube_71 : decode cX5_tube 71 = .ok (.ireturn, 1) := by decide +kernel
theorem dX5_tube_72 : decode cX5_tube 72 = .ok (.aload_n 3, 1) := by decide +kernel
theorem dX5_tube_73 : decode cX5_tube 73 = .ok (.getfield 220, 3) := by decide +kernel
theorem dX5_tube_76 : decode cX5_tube 76 = .ok (.ireturn, 1) := by decide +kernel
theorem dX5_tube_77 : decode cX5_tube 77 = .ok (.aload_n 3, 1) := by decide +kernel
theorem dX5_tube_78 : decode cX5_tube 78 = .ok (.getfield 100, 3) := by decide +kernel
theorem dX5_tube_81 : decode cX5_tube 81 = .ok (.ireturn, 1) := by decide +kernel
theorem dX5_tube_82 : decode cX5_tube 82 = .ok (.aload_n 3, 1) := by decide +kernel
theorem dX5_tube_83 : decode cX5_tube 83 = .ok (.getfield 223, 3) := by decide +kernel
theorem dX5_tube_86 : decode cX5_tube 86 = .ok (.ireturn, 1) := by decide +kernel
theorem dX5_tube_87 : decode cX5_tube 87 = .ok (.aload_n 3, 1) := by decide +kernel
theorem dX5_tube_88 : decode cX5_tube 88 = .ok (.getfield 226, 3) := by decide +kernel
theorem dX5_tube_91 : decode cX5_tube 91 = .ok (.ifCond .eq 7, 3) := by decide +kernel
theorem dX5_tube_94 : decode cX5_tube 94 = .ok (.iconst 1, 1) := by decide +kernel
theorem dX5_tube_95 : decode cX5_tube 95 = .ok (.goto 4, 3) := by decide +kernel
theorem dX5_tube_98 : decode cX5_tube 98 = .ok (.iconst 0, 1) := by decide +kernel
theorem dX5_tube_99 : decode cX5_tube 99 = .ok (.ireturn, 1) := by decide +kernel
theorem dX5_tube_100 : decode cX5_tube 100 = .ok (.aload_n 3, 1) := by decide +kernel
theorem dX5_tube_101 : decode cX5_tube 101 = .ok (.getfield 230, 3) := by decide +kernel
theorem dX5_tube_104 : decode cX5_tube 104 = .ok (.invokevirtual 50, 3) := by decide +kernel
theorem dX5_tube_107 : decode cX5_tube 107 = .ok (.ireturn, 1) := by decide +kernel
theorem dX5_tube_108 : decode cX5_tube 108 = .ok (.aload_n 3, 1) := by decide +kernel
theorem dX5_tube_109 : decode cX5_tube 109 = .ok (.aload_n 0, 1) := by decide +kernel
theorem dX5_tube_110 : decode cX5_tube 110 = .ok (.getfield 26, 3) := by decide +kernel
theorem dX5_tube_113 : decode cX5_tube 113 = .ok (.invokevirtual 233, 3) := by decide +kernel
theorem dX5_tube_116 : decode cX5_tube 116 = .ok (.ifCond .eq 7, 3) := by decide +kernel
theorem dX5_tube_119 : decode cX5_tube 119 = .ok (.iconst 1, 1) := by decide +kernel
theorem dX5_tube_120 : decode cX5_tube 120 = .ok (.goto 4, 3) := by decide +kernel
theorem dX5_tube_123 : decode cX5_tube 123 = .ok (.iconst 0, 1) := by decide +kernel
theorem dX5_tube_124 : decode cX5_tube 124 = .ok (.ireturn, 1) := by decide +kernel
theorem dX5_tube_125 : decode cX5_tube 125 = .ok (.aload_n 3, 1) := by decide +kernel
theorem dX5_tube_126 : decode cX5_tube 126 = .ok (.getfield 236, 3) := by decide +kernel
theorem dX5_tube_129 : decode cX5_tube 129 = .ok (.ireturn, 1) := by decide +kernel
theorem dX5_tube_130 : decode cX5_tube 130 = .ok (.new 127, 3) := by decide +kernel
theorem dX5_tube_133 : decode cX5_tube 133 = .ok (.dup, 1) := by decide +kernel
theorem dX5_tube_134 : decode cX5_tube 134 = .ok (.ldc 198, 2) := by decide +kernel
theorem dX5_tube_136 : decode cX5_tube 136 = .ok (.invokespecial 131, 3) := by decide +kernel
theorem dX5_tube_139 : decode cX5_tube 139 = .ok (.athrow, 1) := by decide +kernel
set_option maxRecDepth 20000 in
theorem ggX5_there_X5_knownStation : GoodIn wsX5_there wsX5_knownStation := goodIn_ca (goodIn_r _ [8, 1, 2, 9, 10, 11, 12, 13, 14, 15, 16, 17, 18, 19, 20, 21, 22, 23, 24, 25, 26, 27, 28, 29, 30, 31, 32, 33, 34, 35, 36, 37, 38, 62, 63, 64, 65, 66, 67, 68, 69, 70, 71, 72] (by decide +kernel) (by decide +kernel)) (goodIn_sub (fun _ h => List.mem_cons_of_mem _ (List.mem_append_right _ h)) (by decide +kernel))
set_option maxRecDepth 20000 in
theorem gX5_there_X5_knownStation : GoodIn wsX5_there (wsV RX5 63 RX5 yX5_knownStation wsX5_knownStation) := goodIn_app (goodIn_of _ (by decide +kernel)) ggX5_there_X5_knownStation
set_option maxRecDepth 20000 in
theorem ggX5_there_Jx4a65c_size_8abf5 : GoodIn wsX5_there wsJx4a65c_size_8abf5 := goodIn_r _ [20, 21, 70, 71, 72] (by decide +kernel) (by decide +kernel)
set_option maxRecDepth 20000 in
theorem gX5_there_Jx4a65c_size_8abf5 : GoodIn wsX5_there (wsV RX5 50 RJx4a65c yJx4a65c_size_8abf5 wsJx4a65c_size_8abf5) := goodIn_app (goodIn_of _ (by decide +kernel)) ggX5_there_Jx4a65c_size_8abf5
set_option maxRecDepth 20000 in
theorem ggX5_there_X5_isOutside : GoodIn wsX5_there wsX5_isOutside := goodIn_r _ [42] (by decide +kernel) (by decide +kernel)
set_option maxRecDepth 20000 in
theorem gX5_there_X5_isOutside : GoodIn wsX5_there (va_wsS RX5 36 yX5_isOutside wsX5_isOutside) := goodIn_app (goodIn_of _ (by decide +kernel)) ggX5_there_X5_isOutside
set_option maxRecDepth 20000 in
theorem ggX5_there_Jx4a65c_get_915e3 : GoodIn wsX5_there wsJx4a65c_get_915e3 := goodIn_r _ [25, 21, 26, 27, 28, 29, 30, 31, 32, 33, 34, 35, 36, 19, 37, 38, 70, 71, 72] (by decide +kernel) (by decide +kernel)
set_option maxRecDepth 20000 in
theorem gX5_there_Jx4a65c_get_915e3 : GoodIn wsX5_there (wsV RX5 159 RJx4a65c yJx4a65c_get_915e3 wsJx4a65c_get_915e3) := goodIn_app (goodIn_of _ (by decide +kernel)) ggX5_there_Jx4a65c_get_915e3
theorem dX5_there_0 : decode cX5_there 0 = .ok (.aload_n 0, 1) := by decide +kernel
theorem dX5_there_1 : decode cX5_there 1 = .ok (.iload_n 1, 1) := by decide +kernel
theorem dX5_there_2 : decode cX5_there 2 = .ok (.invokevirtual 63, 3) := by decide +kernel
theorem dX5_there_5 : decode cX5_there 5 = .ok (.getfield 206, 3) := by decide +kernel
theorem dX5_there_8 : decode cX5_there 8 = .ok (.astore_n 3, 1) := by decide +kernel
theorem dX5_there_9 : decode cX5_there 9 = .ok (.iload_n 2, 1) := by decide +kernel
theorem dX5_there_10 : decode cX5_there 10 = .ok (.iconst 0, 1) := by decide +kernel
theorem dX5_there_11 : decode cX5_there 11 = .ok (.aload_n 3, 1) := by decide +kernel
theorem dX5_there_12 : decode cX5_there 12 = .ok (.invokevirtual 50, 3) := by decide +kernel
theorem dX5_there_15 : decode cX5_there 15 = .ok (.iconst 1, 1) := by decide +kernel
theorem dX5_there_16 : decode cX5_there 16 = .ok (.isub, 1) := by decide +kernel
theorem dX5_there_17 : decode cX5_there 17 = .ok (.invokestatic 36, 3) := by decide +kernel
theorem dX5_there_20 : decode cX5_there 20 = .ok (.ifCond .eq 13, 3) := by decide +kernel
theorem dX5_there_23 : decode cX5_there 23 = .ok (.new 127, 3) := by decide +kernel
theorem dX5_there_26 : decode cX5_there 26 = .ok (.dup, 1) := by decide +kernel
theorem dX5_there_27 : decode cX5_there 27 = .ok (.ldc 239, 2) := by decide +kernel
theorem dX5_there_29 : decode cX5_there 29 = .ok (.invokespecial 131, 3) := by decide +kernel
theorem dX5_there_32 : decode cX5_there 32 = .ok (.athrow, 1) := by decide +kernel
theorem dX5_there_33 : decode cX5_there 33 = .ok (.aload_n 3, 1) := by decide +kernel
theorem dX5_there_34 : decode cX5_there 34 = .ok (.iload_n 2, 1) := by decide +kernel
theorem dX5_there_35 : decode cX5_there 35 = .ok (.invokevirtual 159, 3) := by decide +kernel
theorem dX5_there_38 : decode cX5_there 38 = .ok (.checkcast 163, 3) := by decide +kernel
theorem dX5_there_41 : decode cX5_there 41 = .ok (.getfield 241, 3) := by decide +kernel
theorem dX5_there_44 : decode cX5_there 44 = .ok (.ireturn, 1) := by decide +kernel
set_option maxRecDepth 20000 in
theorem ggX5_time_X5_knownStation : GoodIn wsX5_time wsX5_knownStation := goodIn_ca (goodIn_r _ [7, 8, 9, 1, 10, 11, 12, 13, 14, 15, 16, 17, 18, 19, 20, 21, 22, 23, 24, 25, 26, 27, 28, 29, 30, 31, 32, 33, 34, 35, 36, 37, 38, 67, 68, 69, 70, 71, 72, 73, 74, 75, 76, 77] (by decide +kernel) (by decide +kernel)) (goodIn_sub (fun _ h => List.mem_cons_of_mem _ (List.mem_append_right _ h)) (by decide +kernel))
set_option maxRecDepth 20000 in
theorem gX5_time_X5_knownStation : GoodIn wsX5_time (wsV RX5 63 RX5 yX5_knownStation wsX5_knownStation) := goodIn_app (goodIn_of _ (by decide +kernel)) ggX5_time_X5_knownStation
set_option maxRecDepth 20000 in
theorem ggX5_time_X2_leastTime : GoodIn wsX5_time wsX2_leastTime := goodIn_r _ [41, 42, 43, 44, 12, 45, 46, 15, 47, 48, 49, 50, 51, 52, 53, 54, 55, 56, 57, 58, 16, 17, 18, 19, 20, 21, 59, 23, 24, 25, 26, 27, 28, 29, 30, 31, 32, 33, 34, 35, 36, 37, 38, 60, 61, 62, 63, 64, 65, 66, 78, 79, 80, 81, 82, 83, 84, 85, 86, 87, 73, 74, 88, 89, 90, 91, 92, 93, 94, 95, 96, 97, 98, 75, 76, 77] (by decide +kernel) (by decide +kernel)
set_option maxRecDepth 20000 in
theorem gX5_time_X2_leastTime_n242 : GoodIn wsX5_time (wsX2_leastTime) := ggX5_time_X2_leastTime
theorem dX5_time_0 : decode cX5_time 0 = .ok (.aload_n 0, 1) := by decide +kernel
theorem dX5_time_1 : decode cX5_time 1 = .ok (.getfield 10, 3) := by decide +kernel
theorem dX5_time_4 : decode cX5_time 4 = .ok (.aload_n 0, 1) := by decide +kernel
theorem dX5_time_5 : decode cX5_time 5 = .ok (.iload_n 1, 1) := by decide +kernel
theorem dX5_time_6 : decode cX5_time 6 = .ok (.invokevirtual 63, 3) := by decide +kernel
theorem dX5_time_9 : decode cX5_time 9 = .ok (.aload_n 0, 1) := by decide +kernel
theorem dX5_time_10 : decode cX5_time 10 = .ok (.iload_n 2, 1) := by decide +kernel
theorem dX5_time_11 : decode cX5_time 11 = .ok (.invokevirtual 63, 3) := by decide +kernel
theorem dX5_time_14 : decode cX5_time 14 = .ok (.invokevirtual 242, 3) := by decide +kernel
theorem dX5_time_17 : decode cX5_time 17 = .ok (.istore_n 3, 1) := by decide +kernel
theorem dX5_time_18 : decode cX5_time 18 = .ok (.iload_n 3, 1) := by decide +kernel
theorem dX5_time_19 : decode cX5_time 19 = .ok (.ldc 246, 2) := by decide +kernel
theorem dX5_time_21 : decode cX5_time 21 = .ok (.if_icmp .ne 7, 3) := by decide +kernel
theorem dX5_time_24 : decode cX5_time 24 = .ok (.iconst (-1), 1) := by decide +kernel
theorem dX5_time_25 : decode cX5_time 25 = .ok (.goto 4, 3) := by decide +kernel
theorem dX5_time_28 : decode cX5_time 28 = .ok (.iload_n 3, 1) := by decide +kernel
theorem dX5_time_29 : decode cX5_time 29 = .ok (.ireturn, 1) := by decide +kernel
theorem dX5_mean_0 : decode cX5_mean 0 = .ok (.aload_n 0, 1) := by decide +kernel
theorem dX5_mean_1 : decode cX5_mean 1 = .ok (.getfield 30, 3) := by decide +kernel
theorem dX5_mean_4 : decode cX5_mean 4 = .ok (.ifCond .ne 5, 3) := by decide +kernel
theorem dX5_mean_7 : decode cX5_mean 7 = .ok (.dconst 0, 1) := by decide +kernel
theorem dX5_mean_8 : decode cX5_mean 8 = .ok (.dreturn, 1) := by decide +kernel
theorem dX5_mean_9 : decode cX5_mean 9 = .ok (.aload_n 0, 1) := by decide +kernel
theorem dX5_mean_10 : decode cX5_mean 10 = .ok (.getfield 33, 3) := by decide +kernel
theorem dX5_mean_13 : decode cX5_mean 13 = .ok (.i2d, 1) := by decide +kernel
theorem dX5_mean_14 : decode cX5_mean 14 = .ok (.aload_n 0, 1) := by decide +kernel
theorem dX5_mean_15 : decode cX5_mean 15 = .ok (.getfield 30, 3) := by decide +kernel
theorem dX5_mean_18 : decode cX5_mean 18 = .ok (.i2d, 1) := by decide +kernel
theorem dX5_mean_19 : decode cX5_mean 19 = .ok (.ddiv, 1) := by decide +kernel
theorem dX5_mean_20 : decode cX5_mean 20 = .ok (.dreturn, 1) := by decide +kernel
theorem dX5_isOutside_0 : decode cX5_isOutside 0 = .ok (.iload_n 0, 1) := by decide +kernel
theorem dX5_isOutside_1 : decode cX5_isOutside 1 = .ok (.iload_n 1, 1) := by decide +kernel
theorem dX5_isOutside_2 : decode cX5_isOutside 2 = .ok (.if_icmp .lt 8, 3) := by decide +kernel
theorem dX5_isOutside_5 : decode cX5_isOutside 5 = .ok (.iload_n 0, 1) := by decide +kernel
theorem dX5_isOutside_6 : decode cX5_isOutside 6 = .ok (.iload_n 2, 1) := by decide +kernel
theorem dX5_isOutside_7 : decode cX5_isOutside 7 = .ok (.if_icmp .le 7, 3) := by decide +kernel
theorem dX5_isOutside_10 : decode cX5_isOutside 10 = .ok (.iconst 1, 1) := by decide +kernel
theorem dX5_isOutside_11 : decode cX5_isOutside 11 = .ok (.goto 4, 3) := by decide +kernel
theorem dX5_isOutside_14 : decode cX5_isOutside 14 = .ok (.iconst 0, 1) := by decide +kernel
theorem dX5_isOutside_15 : decode cX5_isOutside 15 = .ok (.ireturn, 1) := by decide +kernel
set_option maxRecDepth 20000 in
theorem ggX5_knownStation_X2_hasStation : GoodIn wsX5_knownStation wsX2_hasStation := goodIn_r _ [8, 9, 10, 11, 12, 13, 14, 15, 39, 40, 41, 42, 43] (by decide +kernel) (by decide +kernel)
set_option maxRecDepth 20000 in
theorem gX5_knownStation_X2_hasStation_n278 : GoodIn wsX5_knownStation (wsX2_hasStation) := ggX5_knownStation_X2_hasStation
set_option maxRecDepth 20000 in
theorem ggX5_knownStation_Jx4a65c_get_915e3 : GoodIn wsX5_knownStation wsJx4a65c_get_915e3 := goodIn_r _ [19, 15, 20, 21, 22, 23, 24, 25, 26, 27, 28, 29, 30, 13, 31, 32, 41, 42, 43] (by decide +kernel) (by decide +kernel)
set_option maxRecDepth 20000 in
theorem gX5_knownStation_Jx4a65c_get_915e3 : GoodIn wsX5_knownStation (wsV RX5 159 RJx4a65c yJx4a65c_get_915e3 wsJx4a65c_get_915e3) := goodIn_app (goodIn_of _ (by decide +kernel)) ggX5_knownStation_Jx4a65c_get_915e3
theorem dX5_knownStation_0 : decode cX5_knownStation 0 = .ok (.aload_n 0, 1) := by decide +kernel
theorem dX5_knownStation_1 : decode cX5_knownStation 1 = .ok (.getfield 10, 3) := by decide +kernel
theorem dX5_knownStation_4 : decode cX5_knownStation 4 = .ok (.iload_n 1, 1) := by decide +kernel
theorem dX5_knownStation_5 : decode cX5_knownStation 5 = .ok (.invokevirtual 278, 3) := by decide +kernel
theorem dX5_knownStation_8 : decode cX5_knownStation 8 = .ok (.ifCond .ne 14, 3) := by decide +kernel
theorem dX5_knownStation_11 : decode cX5_knownStation 11 = .ok (.new 127, 3) := by decide +kernel
theorem dX5_knownStation_14 : decode cX5_knownStation 14 = .ok (.dup, 1) := by decide +kernel
theorem dX5_knownStation_15 : decode cX5_knownStation 15 = .ok (.ldc_w 281, 3) := by decide +kernel
theorem dX5_knownStation_18 : decode cX5_knownStation 18 = .ok (.invokespecial 131, 3) := by decide +kernel
theorem dX5_knownStation_21 : decode cX5_knownStation 21 = .ok (.athrow, 1) := by decide +kernel
theorem dX5_knownStation_22 : decode cX5_knownStation 22 = .ok (.aload_n 0, 1) := by decide +kernel
theorem dX5_knownStation_23 : decode cX5_knownStation 23 = .ok (.getfield 10, 3) := by decide +kernel
theorem dX5_knownStation_26 : decode cX5_knownStation 26 = .ok (.getfield 47, 3) := by decide +kernel
theorem dX5_knownStation_29 : decode cX5_knownStation 29 = .ok (.iload_n 1, 1) := by decide +kernel
theorem dX5_knownStation_30 : decode cX5_knownStation 30 = .ok (.invokevirtual 159, 3) := by decide +kernel
theorem dX5_knownStation_33 : decode cX5_knownStation 33 = .ok (.checkcast 77, 3) := by decide +kernel
theorem dX5_knownStation_36 : decode cX5_knownStation 36 = .ok (.areturn, 1) := by decide +kernel
set_option maxRecDepth 20000 in
theorem ggX5_knownTube_X2_hasTube : GoodIn wsX5_knownTube wsX2_hasTube := goodIn_r _ [8, 9, 10, 11, 12, 13, 14, 15, 39, 40, 41, 42, 43] (by decide +kernel) (by decide +kernel)
set_option maxRecDepth 20000 in
theorem gX5_knownTube_X2_hasTube_n283 : GoodIn wsX5_knownTube (wsX2_hasTube) := ggX5_knownTube_X2_hasTube
set_option maxRecDepth 20000 in
theorem ggX5_knownTube_Jx4a65c_get_915e3 : GoodIn wsX5_knownTube wsJx4a65c_get_915e3 := goodIn_r _ [19, 15, 20, 21, 22, 23, 24, 25, 26, 27, 28, 29, 30, 13, 31, 32, 41, 42, 43] (by decide +kernel) (by decide +kernel)
set_option maxRecDepth 20000 in
theorem gX5_knownTube_Jx4a65c_get_915e3 : GoodIn wsX5_knownTube (wsV RX5 159 RJx4a65c yJx4a65c_get_915e3 wsJx4a65c_get_915e3) := goodIn_app (goodIn_of _ (by decide +kernel)) ggX5_knownTube_Jx4a65c_get_915e3
theorem dX5_knownTube_0 : decode cX5_knownTube 0 = .ok (.aload_n 0, 1) := by decide +kernel
theorem dX5_knownTube_1 : decode cX5_knownTube 1 = .ok (.getfield 10, 3) := by decide +kernel
theorem dX5_knownTube_4 : decode cX5_knownTube 4 = .ok (.iload_n 1, 1) := by decide +kernel
theorem dX5_knownTube_5 : decode cX5_knownTube 5 = .ok (.invokevirtual 283, 3) := by decide +kernel
theorem dX5_knownTube_8 : decode cX5_knownTube 8 = .ok (.ifCond .ne 14, 3) := by decide +kernel
theorem dX5_knownTube_11 : decode cX5_knownTube 11 = .ok (.new 127, 3) := by decide +kernel
theorem dX5_knownTube_14 : decode cX5_knownTube 14 = .ok (.dup, 1) := by decide +kernel
theorem dX5_knownTube_15 : decode cX5_knownTube 15 = .ok (.ldc_w 286, 3) := by decide +kernel
theorem dX5_knownTube_18 : decode cX5_knownTube 18 = .ok (.invokespecial 131, 3) := by decide +kernel
theorem dX5_knownTube_21 : decode cX5_knownTube 21 = .ok (.athrow, 1) := by decide +kernel
theorem dX5_knownTube_22 : decode cX5_knownTube 22 = .ok (.aload_n 0, 1) := by decide +kernel
theorem dX5_knownTube_23 : decode cX5_knownTube 23 = .ok (.getfield 10, 3) := by decide +kernel
theorem dX5_knownTube_26 : decode cX5_knownTube 26 = .ok (.getfield 73, 3) := by decide +kernel
theorem dX5_knownTube_29 : decode cX5_knownTube 29 = .ok (.iload_n 1, 1) := by decide +kernel
theorem dX5_knownTube_30 : decode cX5_knownTube 30 = .ok (.invokevirtual 159, 3) := by decide +kernel
theorem dX5_knownTube_33 : decode cX5_knownTube 33 = .ok (.checkcast 101, 3) := by decide +kernel
theorem dX5_knownTube_36 : decode cX5_knownTube 36 = .ok (.areturn, 1) := by decide +kernel
set_option maxRecDepth 20000 in
theorem ggX5_refuseWrongSpeed_X5_isOutside : GoodIn wsX5_refuseWrongSpeed wsX5_isOutside := goodIn_r _ [6] (by decide +kernel) (by decide +kernel)
set_option maxRecDepth 20000 in
theorem gX5_refuseWrongSpeed_X5_isOutside : GoodIn wsX5_refuseWrongSpeed (va_wsS RX5 36 yX5_isOutside wsX5_isOutside) := goodIn_app (goodIn_of _ (by decide +kernel)) ggX5_refuseWrongSpeed_X5_isOutside
theorem dX5_refuseWrongSpeed_0 : decode cX5_refuseWrongSpeed 0 = .ok (.iload_n 0, 1) := by decide +kernel
theorem dX5_refuseWrongSpeed_1 : decode cX5_refuseWrongSpeed 1 = .ok (.iconst 1, 1) := by decide +kernel
theorem dX5_refuseWrongSpeed_2 : decode cX5_refuseWrongSpeed 2 = .ok (.bipush 6, 2) := by decide +kernel
theorem dX5_refuseWrongSpeed_4 : decode cX5_refuseWrongSpeed 4 = .ok (.invokestatic 36, 3) := by decide +kernel
theorem dX5_refuseWrongSpeed_7 : decode cX5_refuseWrongSpeed 7 = .ok (.ifCond .eq 14, 3) := by decide +kernel
theorem dX5_refuseWrongSpeed_10 : decode cX5_refuseWrongSpeed 10 = .ok (.new 40, 3) := by decide +kernel
theorem dX5_refuseWrongSpeed_13 : decode cX5_refuseWrongSpeed 13 = .ok (.dup, 1) := by decide +kernel
theorem dX5_refuseWrongSpeed_14 : decode cX5_refuseWrongSpeed 14 = .ok (.ldc_w 288, 3) := by decide +kernel
theorem dX5_refuseWrongSpeed_17 : decode cX5_refuseWrongSpeed 17 = .ok (.invokespecial 44, 3) := by decide +kernel
theorem dX5_refuseWrongSpeed_20 : decode cX5_refuseWrongSpeed 20 = .ok (.athrow, 1) := by decide +kernel
theorem dX5_refuseWrongSpeed_21 : decode cX5_refuseWrongSpeed 21 = .ok (.return_, 1) := by decide +kernel
set_option maxRecDepth 20000 in
theorem kw59 : GoodIn wsX5_strikeClock [.fieldLink RJx4a65c 48 "java/util/ArrayList" "size" "I"] := goodIn_r _ [9] (by decide +kernel) (by decide +kernel)
set_option maxRecDepth 20000 in
theorem kw60 : GoodIn wsX5_strikeClock wsJx4a65c0 := goodIn_r _ [188, 189, 190] (by decide +kernel) (by decide +kernel)
set_option maxRecDepth 20000 in
theorem kw61 : GoodIn wsX5_strikeClock [Cond.code yJx4a65c_size_8abf5 cJx4a65c_size_8abf5 1 (some .int)] := goodIn_r _ [8] (by decide +kernel) (by decide +kernel)
theorem ggX5_strikeClock_Jx4a65c_size_8abf5 : GoodIn wsX5_strikeClock wsJx4a65c_size_8abf5 := (goodIn_app kw61 (goodIn_app kw59 kw60))
set_option maxRecDepth 20000 in
theorem gX5_strikeClock_Jx4a65c_size_8abf5 : GoodIn wsX5_strikeClock (wsV RX5 50 RJx4a65c yJx4a65c_size_8abf5 wsJx4a65c_size_8abf5) := goodIn_app (goodIn_of _ (by decide +kernel)) ggX5_strikeClock_Jx4a65c_size_8abf5
set_option maxRecDepth 20000 in
theorem kw62 : GoodIn wsX5_strikeClock [.fieldLink RJx4a65c 48 "java/util/ArrayList" "size" "I", .methodLink RJx4a65c 118 yJ15_checkIndex_7cf53, .static yJ15_checkIndex_7cf53, .initialized RJ15, .code yJ15_checkIndex_7cf53 cJ15_checkIndex_7cf53 2 (some .int), .methodLink RJ15 105 yJ3_checkIndex_8e157, .static yJ3_checkIndex_8e157, .initialized RJ3, .code yJ3_checkIndex_8e157 cJ3_checkIndex_8e157 3 (some .int), .methodLink RJx4a65c 123 yJx4a65c_elementData_915e3, .instanceMethod yJx4a65c_elementData_915e3, .selects RJx4a65c yJx4a65c_elementData_915e3 yJx4a65c_elementData_915e3, .initialized RJx4a65c, .code yJx4a65c_elementData_915e3 cJx4a65c_elementData_915e3 2 (some (.object "java/lang/Object")), .fieldLink RJx4a65c 9 "java/util/ArrayList" "elementData" "[Ljava/lang/Object;"] := goodIn_r _ [9, 14, 15, 16, 17, 18, 19, 20, 21, 22, 23, 24, 7, 25, 26] (by decide +kernel) (by decide +kernel)
set_option maxRecDepth 20000 in
theorem kw63 : GoodIn wsX5_strikeClock [Cond.code yJx4a65c_get_915e3 cJx4a65c_get_915e3 2 (some (.object "java/lang/Object"))] := goodIn_r _ [13] (by decide +kernel) (by decide +kernel)
theorem ggX5_strikeClock_Jx4a65c_get_915e3 : GoodIn wsX5_strikeClock wsJx4a65c_get_915e3 := (goodIn_app kw63 (goodIn_app kw62 kw60))
set_option maxRecDepth 20000 in
theorem gX5_strikeClock_Jx4a65c_get_915e3 : GoodIn wsX5_strikeClock (wsV RX5 159 RJx4a65c yJx4a65c_get_915e3 wsJx4a65c_get_915e3) := goodIn_app (goodIn_of _ (by decide +kernel)) ggX5_strikeClock_Jx4a65c_get_915e3
theorem dX5_strikeClock_0 : decode cX5_strikeClock 0 = .ok (.iconst 0, 1) := by decide +kernel
theorem dX5_strikeClock_1 : decode cX5_strikeClock 1 = .ok (.istore_n 1, 1) := by decide +kernel
theorem dX5_strikeClock_2 : decode cX5_strikeClock 2 = .ok (.iload_n 1, 1) := by decide +kernel
theorem dX5_strikeClock_3 : decode cX5_strikeClock 3 = .ok (.aload_n 0, 1) := by decide +kernel
theorem dX5_strikeClock_4 : decode cX5_strikeClock 4 = .ok (.getfield 19, 3) := by decide +kernel
theorem dX5_strikeClock_7 : decode cX5_strikeClock 7 = .ok (.invokevirtual 50, 3) := by decide +kernel
theorem dX5_strikeClock_10 : decode cX5_strikeClock 10 = .ok (.if_icmp .ge 37, 3) := by decide +kernel
theorem dX5_strikeClock_13 : decode cX5_strikeClock 13 = .ok (.aload_n 0, 1) := by decide +kernel
theorem dX5_strikeClock_14 : decode cX5_strikeClock 14 = .ok (.getfield 19, 3) := by decide +kernel
theorem dX5_strikeClock_17 : decode cX5_strikeClock 17 = .ok (.iload_n 1, 1) := by decide +kernel
theorem dX5_strikeClock_18 : decode cX5_strikeClock 18 = .ok (.invokevirtual 159, 3) := by decide +kernel
theorem dX5_strikeClock_21 : decode cX5_strikeClock 21 = .ok (.checkcast 118, 3) := by decide +kernel
theorem dX5_strikeClock_24 : decode cX5_strikeClock 24 = .ok (.astore_n 2, 1) := by decide +kernel
theorem dX5_strikeClock_25 : decode cX5_strikeClock 25 = .ok (.aload_n 2, 1) := by decide +kernel
theorem dX5_strikeClock_26 : decode cX5_strikeClock 26 = .ok (.aload_n 0, 1) := by decide +kernel
theorem dX5_strikeClock_27 : decode cX5_strikeClock 27 = .ok (.getfield 26, 3) := by decide +kernel
theorem dX5_strikeClock_30 : decode cX5_strikeClock 30 = .ok (.invokevirtual 290, 3) := by decide +kernel
theorem dX5_strikeClock_33 : decode cX5_strikeClock 33 = .ok (.ifCond .eq 8, 3) := by decide +kernel
theorem dX5_strikeClock_36 : decode cX5_strikeClock 36 = .ok (.aload_n 0, 1) := by decide +kernel
theorem dX5_strikeClock_37 : decode cX5_strikeClock 37 = .ok (.aload_n 2, 1) := by decide +kernel
theorem dX5_strikeClock_38 : decode cX5_strikeClock 38 = .ok (.invokevirtual 293, 3) := by decide +kernel
theorem dX5_strikeClock_41 : decode cX5_strikeClock 41 = .ok (.iinc 1 1, 3) := by decide +kernel
theorem dX5_strikeClock_44 : decode cX5_strikeClock 44 = .ok (.goto (-42), 3) := by decide +kernel
theorem dX5_strikeClock_47 : decode cX5_strikeClock 47 = .ok (.return_, 1) := by decide +kernel
set_option maxRecDepth 20000 in
theorem ggX5_arriveEverywhere_Jx4a65c_size_8abf5 : GoodIn wsX5_arriveEverywhere wsJx4a65c_size_8abf5 := goodIn_r _ [7, 8, 139, 140, 141] (by decide +kernel) (by decide +kernel)
set_option maxRecDepth 20000 in
theorem gX5_arriveEverywhere_Jx4a65c_size_8abf5 : GoodIn wsX5_arriveEverywhere (wsV RX5 50 RJx4a65c yJx4a65c_size_8abf5 wsJx4a65c_size_8abf5) := goodIn_app (goodIn_of _ (by decide +kernel)) ggX5_arriveEverywhere_Jx4a65c_size_8abf5
set_option maxRecDepth 20000 in
theorem ggX5_arriveEverywhere_Jx4a65c_get_915e3 : GoodIn wsX5_arriveEverywhere wsJx4a65c_get_915e3 := goodIn_r _ [12, 8, 13, 14, 15, 16, 17, 18, 19, 20, 21, 22, 23, 6, 24, 25, 139, 140, 141] (by decide +kernel) (by decide +kernel)
set_option maxRecDepth 20000 in
theorem gX5_arriveEverywhere_Jx4a65c_get_915e3 : GoodIn wsX5_arriveEverywhere (wsV RX5 159 RJx4a65c yJx4a65c_get_915e3 wsJx4a65c_get_915e3) := goodIn_app (goodIn_of _ (by decide +kernel)) ggX5_arriveEverywhere_Jx4a65c_get_915e3
set_option maxRecDepth 20000 in
theorem ggX5_arriveEverywhere_X5_arriveFrom : GoodIn wsX5_arriveEverywhere wsX5_arriveFrom := goodIn_r _ [30, 31, 32, 3, 4, 5, 6, 7, 8, 33, 34, 35, 36, 37, 38, 39, 40, 41, 42, 43, 10, 11, 12, 13, 14, 15, 16, 17, 18, 19, 20, 21, 22, 23, 24, 25, 9, 44, 45, 46, 29, 47, 48, 49, 50, 51, 52, 53, 54, 55, 56, 57, 58, 59, 60, 61, 62, 63, 64, 65, 66, 67, 68, 69, 70, 71, 72, 73, 74, 75, 76, 77, 78, 79, 80, 81, 82, 83, 84, 85, 86, 87, 88, 89, 90, 91, 92, 93, 94, 95, 96, 97, 98, 99, 100, 101, 102, 103, 104, 105, 106, 107, 108, 109, 110, 111, 112, 113, 114, 115, 116, 117, 118, 119, 120, 121, 122, 123, 124, 125, 126, 127, 128, 129, 130, 142, 143, 144, 145, 146, 147, 148, 149, 150, 151, 152, 131, 132, 133, 134, 135, 136, 153, 154, 155, 156, 157, 158, 159, 160, 161, 139, 140, 141, 162, 163, 164, 165, 166, 167, 168, 169, 170, 171] (by decide +kernel) (by decide +kernel)
set_option maxRecDepth 20000 in
theorem gX5_arriveEverywhere_X5_arriveFrom : GoodIn wsX5_arriveEverywhere (wsV RX5 310 RX5 yX5_arriveFrom wsX5_arriveFrom) := goodIn_app (goodIn_of _ (by decide +kernel)) ggX5_arriveEverywhere_X5_arriveFrom
theorem dX5_arriveEverywhere_0 : decode cX5_arriveEverywhere 0 = .ok (.iconst 0, 1) := by decide +kernel
theorem dX5_arriveEverywhere_1 : decode cX5_arriveEverywhere 1 = .ok (.istore_n 1, 1) := by decide +kernel
theorem dX5_arriveEverywhere_2 : decode cX5_arriveEverywhere 2 = .ok (.iload_n 1, 1) := by decide +kernel
theorem dX5_arriveEverywhere_3 : decode cX5_arriveEverywhere 3 = .ok (.aload_n 0, 1) := by decide +kernel
theorem dX5_arriveEverywhere_4 : decode cX5_arriveEverywhere 4 = .ok (.getfield 10, 3) := by decide +kernel
theorem dX5_arriveEverywhere_7 : decode cX5_arriveEverywhere 7 = .ok (.getfield 73, 3) := by decide +kernel
theorem dX5_arriveEverywhere_10 : decode cX5_arriveEverywhere 10 = .ok (.invokevirtual 50, 3) := by decide +kernel
theorem dX5_arriveEverywhere_13 : decode cX5_arriveEverywhere 13 = .ok (.if_icmp .ge 27, 3) := by decide +kernel
theorem dX5_arriveEverywhere_16 : decode cX5_arriveEverywhere 16 = .ok (.aload_n 0, 1) := by decide +kernel
theorem dX5_arriveEverywhere_17 : decode cX5_arriveEverywhere 17 = .ok (.aload_n 0, 1) := by decide +kernel
theorem dX5_arriveEverywhere_18 : decode cX5_arriveEverywhere 18 = .ok (.getfield 10, 3) := by decide +kernel
theorem dX5_arriveEverywhere_21 : decode cX5_arriveEverywhere 21 = .ok (.getfield 73, 3) := by decide +kernel
theorem dX5_arriveEverywhere_24 : decode cX5_arriveEverywhere 24 = .ok (.iload_n 1, 1) := by decide +kernel
theorem dX5_arriveEverywhere_25 : decode cX5_arriveEverywhere 25 = .ok (.invokevirtual 159, 3) := by decide +kernel
theorem dX5_arriveEverywhere_28 : decode cX5_arriveEverywhere 28 = .ok (.checkcast 101, 3) := by decide +kernel
theorem dX5_arriveEverywhere_31 : decode cX5_arriveEverywhere 31 = .ok (.invokevirtual 310, 3) := by decide +kernel
theorem dX5_arriveEverywhere_34 : decode cX5_arriveEverywhere 34 = .ok (.iinc 1 1, 3) := by decide +kernel
theorem dX5_arriveEverywhere_37 : decode cX5_arriveEverywhere 37 = .ok (.goto (-35), 3) := by decide +kernel
theorem dX5_arriveEverywhere_40 : decode cX5_arriveEverywhere 40 = .ok (.return_, 1) := by decide +kernel
set_option maxRecDepth 20000 in
theorem ggX5_arriveFrom_Jx4a65c_size_8abf5 : GoodIn wsX5_arriveFrom wsJx4a65c_size_8abf5 := goodIn_r _ [7, 8, 151, 152, 153] (by decide +kernel) (by decide +kernel)
set_option maxRecDepth 20000 in
theorem gX5_arriveFrom_Jx4a65c_size_8abf5 : GoodIn wsX5_arriveFrom (wsV RX5 50 RJx4a65c yJx4a65c_size_8abf5 wsJx4a65c_size_8abf5) := goodIn_app (goodIn_of _ (by decide +kernel)) ggX5_arriveFrom_Jx4a65c_size_8abf5
set_option maxRecDepth 20000 in
theorem ggX5_arriveFrom_X4_isFirstAtEnd : GoodIn wsX5_arriveFrom wsX4_isFirstAtEnd := goodIn_r _ [12, 13, 14, 15, 16, 17, 6, 18, 8, 19, 20, 21, 22, 23, 24, 25, 26, 27, 28, 29, 30, 31, 32, 33, 34, 35, 125, 126, 127, 128, 129, 130, 131, 132, 133, 134, 135, 142, 143, 144, 145, 146, 147, 148, 149, 150, 151, 152, 153] (by decide +kernel) (by decide +kernel)
set_option maxRecDepth 20000 in
theorem gX5_arriveFrom_X4_isFirstAtEnd_n233 : GoodIn wsX5_arriveFrom (wsX4_isFirstAtEnd) := ggX5_arriveFrom_X4_isFirstAtEnd
set_option maxRecDepth 20000 in
theorem ggX5_arriveFrom_Jx4a65c_get_915e3 : GoodIn wsX5_arriveFrom wsJx4a65c_get_915e3 := goodIn_r _ [22, 8, 23, 24, 25, 26, 27, 28, 29, 30, 31, 32, 33, 6, 34, 35, 151, 152, 153] (by decide +kernel) (by decide +kernel)
set_option maxRecDepth 20000 in
theorem gX5_arriveFrom_Jx4a65c_get_915e3 : GoodIn wsX5_arriveFrom (wsV RX5 159 RJx4a65c yJx4a65c_get_915e3 wsJx4a65c_get_915e3) := goodIn_app (goodIn_of _ (by decide +kernel)) ggX5_arriveFrom_Jx4a65c_get_915e3
set_option maxRecDepth 20000 in
theorem ggX5_arriveFrom_X5_deliver : GoodIn wsX5_arriveFrom wsX5_deliver := goodIn_r _ [41, 1, 42, 43, 142, 143, 144, 145, 146, 147, 148, 149, 150, 154, 155, 156, 157, 158, 159, 160, 161, 162, 163, 136, 137, 138, 139, 140, 141] (by decide +kernel) (by decide +kernel)
set_option maxRecDepth 20000 in
theorem gX5_arriveFrom_X5_deliver : GoodIn wsX5_arriveFrom (wsV RX5 314 RX5 yX5_deliver wsX5_deliver) := goodIn_app (goodIn_of _ (by decide +kernel)) ggX5_arriveFrom_X5_deliver
set_option maxRecDepth 20000 in
theorem ggX5_arriveFrom_X3_hasRoom : GoodIn wsX5_arriveFrom wsX3_hasRoom := goodIn_r _ [47, 48, 49, 50, 4, 5, 6, 7, 8, 154, 155, 156, 157, 158, 159, 160, 161, 162, 163, 151, 152, 153] (by decide +kernel) (by decide +kernel)
set_option maxRecDepth 20000 in
theorem gX5_arriveFrom_X3_hasRoom_n318 : GoodIn wsX5_arriveFrom (wsX3_hasRoom) := ggX5_arriveFrom_X3_hasRoom
set_option maxRecDepth 20000 in
theorem ggX5_arriveFrom_X0_comeTo : GoodIn wsX5_arriveFrom wsX0_comeTo := goodIn_r _ [54, 55, 56, 57, 58, 45, 59, 60, 48, 61, 50, 4, 5, 6, 7, 8, 62, 20, 21, 22, 23, 24, 25, 26, 27, 28, 29, 30, 31, 32, 33, 34, 35, 63, 64, 65, 66, 67, 68, 69, 70, 71, 72, 73, 74, 75, 76, 77, 78, 79, 80, 81, 82, 83, 84, 85, 86, 87, 88, 89, 90, 91, 92, 93, 94, 95, 96, 97, 98, 99, 100, 101, 102, 103, 104, 105, 106, 107, 108, 109, 110, 111, 112, 113, 114, 115, 116, 142, 143, 144, 145, 146, 147, 148, 149, 150, 154, 155, 156, 157, 158, 159, 160, 161, 162, 163, 151, 152, 153] (by decide +kernel) (by decide +kernel)
set_option maxRecDepth 20000 in
theorem gX5_arriveFrom_X0_comeTo_n322 : GoodIn wsX5_arriveFrom (wsX0_comeTo) := ggX5_arriveFrom_X0_comeTo
set_option maxRecDepth 20000 in
theorem ggX5_arriveFrom_Jx4a65c_remove_915e3 : GoodIn wsX5_arriveFrom wsJx4a65c_remove_915e3 := goodIn_r _ [120, 8, 35, 23, 24, 25, 26, 27, 28, 29, 30, 121, 122, 123, 6, 124, 67, 68, 69, 70, 71, 72, 151, 152, 153] (by decide +kernel) (by decide +kernel)
set_option maxRecDepth 20000 in
theorem gX5_arriveFrom_Jx4a65c_remove_915e3 : GoodIn wsX5_arriveFrom (wsV RX5 326 RJx4a65c yJx4a65c_remove_915e3 wsJx4a65c_remove_915e3) := goodIn_app (goodIn_of _ (by decide +kernel)) ggX5_arriveFrom_Jx4a65c_remove_915e3
theorem dX5_arriveFrom_0 : decode cX5_arriveFrom 0 = .ok (.aload_n 1, 1) := by decide +kernel
theorem dX5_arriveFrom_1 : decode cX5_arriveFrom 1 = .ok (.getfield 230, 3) := by decide +kernel
theorem dX5_arriveFrom_4 : decode cX5_arriveFrom 4 = .ok (.invokevirtual 50, 3) := by decide +kernel
theorem dX5_arriveFrom_7 : decode cX5_arriveFrom 7 = .ok (.istore_n 2, 1) := by decide +kernel
theorem dX5_arriveFrom_8 : decode cX5_arriveFrom 8 = .ok (.iload_n 2, 1) := by decide +kernel
theorem dX5_arriveFrom_9 : decode cX5_arriveFrom 9 = .ok (.ifCond .le 86, 3) := by decide +kernel
theorem dX5_arriveFrom_12 : decode cX5_arriveFrom 12 = .ok (.aload_n 1, 1) := by decide +kernel
theorem dX5_arriveFrom_13 : decode cX5_arriveFrom 13 = .ok (.aload_n 0, 1) := by decide +kernel
theorem dX5_arriveFrom_14 : decode cX5_arriveFrom 14 = .ok (.getfield 26, 3) := by decide +kernel
theorem dX5_arriveFrom_17 : decode cX5_arriveFrom 17 = .ok (.invokevirtual 233, 3) := by decide +kernel
theorem dX5_arriveFrom_20 : decode cX5_arriveFrom 20 = .ok (.ifCond .eq 75, 3) := by decide +kernel
theorem dX5_arriveFrom_23 : decode cX5_arriveFrom 23 = .ok (.aload_n 1, 1) := by decide +kernel
theorem dX5_arriveFrom_24 : decode cX5_arriveFrom 24 = .ok (.getfield 230, 3) := by decide +kernel
theorem dX5_arriveFrom_27 : decode cX5_arriveFrom 27 = .ok (.iconst 0, 1) := by decide +kernel
theorem dX5_arriveFrom_28 : decode cX5_arriveFrom 28 = .ok (.invokevirtual 159, 3) := by decide +kernel
theorem dX5_arriveFrom_31 : decode cX5_arriveFrom 31 = .ok (.checkcast 163, 3) := by decide +kernel
theorem dX5_arriveFrom_34 : decode cX5_arriveFrom 34 = .ok (.astore_n 3, 1) := by decide +kernel
theorem dX5_arriveFrom_35 : decode cX5_arriveFrom 35 = .ok (.aload_n 3, 1) := by decide +kernel
theorem dX5_arriveFrom_36 : decode cX5_arriveFrom 36 = .ok (.getfield 171, 3) := by decide +kernel
theorem dX5_arriveFrom_39 : decode cX5_arriveFrom 39 = .ok (.aload_n 1, 1) := by decide +kernel
theorem dX5_arriveFrom_40 : decode cX5_arriveFrom 40 = .ok (.getfield 217, 3) := by decide +kernel
theorem dX5_arriveFrom_43 : decode cX5_arriveFrom 43 = .ok (.if_acmp .ne 11, 3) := by decide +kernel
theorem dX5_arriveFrom_46 : decode cX5_arriveFrom 46 = .ok (.aload_n 0, 1) := by decide +kernel
theorem dX5_arriveFrom_47 : decode cX5_arriveFrom 47 = .ok (.aload_n 3, 1) := by decide +kernel
theorem dX5_arriveFrom_48 : decode cX5_arriveFrom 48 = .ok (.invokevirtual 314, 3) := by decide +kernel
theorem dX5_arriveFrom_51 : decode cX5_arriveFrom 51 = .ok (.goto 29, 3) := by decide +kernel
theorem dX5_arriveFrom_54 : decode cX5_arriveFrom 54 = .ok (.aload_n 1, 1) := by decide +kernel
theorem dX5_arriveFrom_55 : decode cX5_arriveFrom 55 = .ok (.getfield 217, 3) := by decide +kernel
theorem dX5_arriveFrom_58 : decode cX5_arriveFrom 58 = .ok (.invokevirtual 318, 3) := by decide +kernel
theorem dX5_arriveFrom_61 : decode cX5_arriveFrom 61 = .ok (.ifCond .eq 18, 3) := by decide +kernel
theorem dX5_arriveFrom_64 : decode cX5_arriveFrom 64 = .ok (.aload_n 3, 1) := by decide +kernel
theorem dX5_arriveFrom_65 : decode cX5_arriveFrom 65 = .ok (.aload_n 1, 1) := by decide +kernel
theorem dX5_arriveFrom_66 : decode cX5_arriveFrom 66 = .ok (.getfield 217, 3) := by decide +kernel
theorem dX5_arriveFrom_69 : decode cX5_arriveFrom 69 = .ok (.aload_n 0, 1) := by decide +kernel
theorem dX5_arriveFrom_70 : decode cX5_arriveFrom 70 = .ok (.getfield 26, 3) := by decide +kernel
theorem dX5_arriveFrom_73 : decode cX5_arriveFrom 73 = .ok (.invokevirtual 322, 3) := by decide +kernel
theorem dX5_arriveFrom_76 : decode cX5_arriveFrom 76 = .ok (.goto 4, 3) := by decide +kernel
theorem dX5_arriveFrom_79 : decode cX5_arriveFrom 79 = .ok (.return_, 1) := by decide +kernel
theorem dX5_arriveFrom_80 : decode cX5_arriveFrom 80 = .ok (.aload_n 1, 1) := by decide +kernel
theorem dX5_arriveFrom_81 : decode cX5_arriveFrom 81 = .ok (.getfield 230, 3) := by decide +kernel
theorem dX5_arriveFrom_84 : decode cX5_arriveFrom 84 = .ok (.iconst 0, 1) := by decide +kernel
theorem dX5_arriveFrom_85 : decode cX5_arriveFrom 85 = .ok (.invokevirtual 326, 3) := by decide +kernel
theorem dX5_arriveFrom_88 : decode cX5_arriveFrom 88 = .ok (.pop, 1) := by decide +kernel
theorem dX5_arriveFrom_89 : decode cX5_arriveFrom 89 = .ok (.iinc 2 (-1), 3) := by decide +kernel
theorem dX5_arriveFrom_92 : decode cX5_arriveFrom 92 = .ok (.goto (-84), 3) := by decide +kernel
theorem dX5_arriveFrom_95 : decode cX5_arriveFrom 95 = .ok (.return_, 1) := by decide +kernel
theorem dX5_deliver_0 : decode cX5_deliver 0 = .ok (.aload_n 1, 1) := by decide +kernel
theorem dX5_deliver_1 : decode cX5_deliver 1 = .ok (.iconst 3, 1) := by decide +kernel
theorem dX5_deliver_2 : decode cX5_deliver 2 = .ok (.putfield 165, 3) := by decide +kernel
theorem dX5_deliver_5 : decode cX5_deliver 5 = .ok (.aload_n 1, 1) := by decide +kernel
theorem dX5_deliver_6 : decode cX5_deliver 6 = .ok (.aload_n 1, 1) := by decide +kernel
theorem dX5_deliver_7 : decode cX5_deliver 7 = .ok (.getfield 171, 3) := by decide +kernel
theorem dX5_deliver_10 : decode cX5_deliver 10 = .ok (.getfield 175, 3) := by decide +kernel
theorem dX5_deliver_13 : decode cX5_deliver 13 = .ok (.putfield 168, 3) := by decide +kernel
theorem dX5_deliver_16 : decode cX5_deliver 16 = .ok (.aload_n 1, 1) := by decide +kernel
theorem dX5_deliver_17 : decode cX5_deliver 17 = .ok (.aload_n 0, 1) := by decide +kernel
theorem dX5_deliver_18 : decode cX5_deliver 18 = .ok (.getfield 26, 3) := by decide +kernel
theorem dX5_deliver_21 : decode cX5_deliver 21 = .ok (.putfield 184, 3) := by decide +kernel
theorem dX5_deliver_24 : decode cX5_deliver 24 = .ok (.aload_n 1, 1) := by decide +kernel
theorem dX5_deliver_25 : decode cX5_deliver 25 = .ok (.getfield 171, 3) := by decide +kernel
theorem dX5_deliver_28 : decode cX5_deliver 28 = .ok (.dup, 1) := by decide +kernel
theorem dX5_deliver_29 : decode cX5_deliver 29 = .ok (.getfield 209, 3) := by decide +kernel
theorem dX5_deliver_32 : decode cX5_deliver 32 = .ok (.iconst 1, 1) := by decide +kernel
theorem dX5_deliver_33 : decode cX5_deliver 33 = .ok (.iadd, 1) := by decide +kernel
theorem dX5_deliver_34 : decode cX5_deliver 34 = .ok (.putfield 209, 3) := by decide +kernel
theorem dX5_deliver_37 : decode cX5_deliver 37 = .ok (.aload_n 0, 1) := by decide +kernel
theorem dX5_deliver_38 : decode cX5_deliver 38 = .ok (.dup, 1) := by decide +kernel
theorem dX5_deliver_39 : decode cX5_deliver 39 = .ok (.getfield 30, 3) := by decide +kernel
theorem dX5_deliver_42 : decode cX5_deliver 42 = .ok (.iconst 1, 1) := by decide +kernel
theorem dX5_deliver_43 : decode cX5_deliver 43 = .ok (.iadd, 1) := by decide +kernel
theorem dX5_deliver_44 : decode cX5_deliver 44 = .ok (.putfield 30, 3) := by decide +kernel
theorem dX5_deliver_47 : decode cX5_deliver 47 = .ok (.aload_n 0, 1) := by decide +kernel
theorem dX5_deliver_48 : decode cX5_deliver 48 = .ok (.dup, 1) := by decide +kernel
theorem dX5_deliver_49 : decode cX5_deliver 49 = .ok (.getfield 33, 3) := by decide +kernel
theorem dX5_deliver_52 : decode cX5_deliver 52 = .ok (.aload_n 0, 1) := by decide +kernel
theorem dX5_deliver_53 : decode cX5_deliver 53 = .ok (.getfield 26, 3) := by decide +kernel
theorem dX5_deliver_56 : decode cX5_deliver 56 = .ok (.aload_n 1, 1) := by decide +kernel
theorem dX5_deliver_57 : decode cX5_deliver 57 = .ok (.getfield 181, 3) := by decide +kernel
theorem dX5_deliver_60 : decode cX5_deliver 60 = .ok (.isub, 1) := by decide +kernel
theorem dX5_deliver_61 : decode cX5_deliver 61 = .ok (.iadd, 1) := by decide +kernel
theorem dX5_deliver_62 : decode cX5_deliver 62 = .ok (.putfield 33, 3) := by decide +kernel
theorem dX5_deliver_65 : decode cX5_deliver 65 = .ok (.return_, 1) := by decide +kernel
set_option maxRecDepth 20000 in
theorem ggX5_departEverywhere_Jx4a65c_size_8abf5 : GoodIn wsX5_departEverywhere wsJx4a65c_size_8abf5 := goodIn_r _ [7, 8, 159, 160, 161] (by decide +kernel) (by decide +kernel)
set_option maxRecDepth 20000 in
theorem gX5_departEverywhere_Jx4a65c_size_8abf5 : GoodIn wsX5_departEverywhere (wsV RX5 50 RJx4a65c yJx4a65c_size_8abf5 wsJx4a65c_size_8abf5) := goodIn_app (goodIn_of _ (by decide +kernel)) ggX5_departEverywhere_Jx4a65c_size_8abf5
set_option maxRecDepth 20000 in
theorem ggX5_departEverywhere_Jx4a65c_get_915e3 : GoodIn wsX5_departEverywhere wsJx4a65c_get_915e3 := goodIn_r _ [12, 8, 13, 14, 15, 16, 17, 18, 19, 20, 21, 22, 23, 6, 24, 25, 159, 160, 161] (by decide +kernel) (by decide +kernel)
set_option maxRecDepth 20000 in
theorem gX5_departEverywhere_Jx4a65c_get_915e3 : GoodIn wsX5_departEverywhere (wsV RX5 159 RJx4a65c yJx4a65c_get_915e3 wsJx4a65c_get_915e3) := goodIn_app (goodIn_of _ (by decide +kernel)) ggX5_departEverywhere_Jx4a65c_get_915e3
set_option maxRecDepth 20000 in
theorem ggX5_departEverywhere_X5_departFrom : GoodIn wsX5_departEverywhere wsX5_departFrom := goodIn_r _ [30, 31, 32, 3, 4, 5, 6, 7, 8, 9, 10, 11, 12, 13, 14, 15, 16, 17, 18, 19, 20, 21, 22, 23, 24, 25, 33, 34, 35, 29, 36, 1, 37, 38, 39, 40, 41, 42, 43, 44, 45, 46, 47, 48, 49, 50, 51, 52, 53, 54, 55, 56, 57, 58, 59, 60, 61, 62, 63, 64, 65, 66, 67, 68, 69, 70, 71, 72, 73, 74, 75, 76, 77, 78, 79, 80, 81, 82, 83, 84, 85, 86, 87, 88, 89, 90, 91, 92, 93, 94, 95, 96, 97, 98, 99, 100, 101, 102, 103, 104, 105, 106, 107, 108, 109, 110, 111, 112, 113, 114, 115, 116, 117, 118, 119, 120, 121, 122, 123, 124, 125, 126, 127, 128, 129, 130, 131, 132, 133, 134, 135, 136, 137, 138, 139, 140, 141, 142, 143, 144, 145, 146, 147, 148, 149, 150, 162, 163, 164, 165, 166, 167, 168, 169, 170, 171, 151, 152, 153, 154, 155, 156, 159, 160, 161, 172, 173, 174, 175, 176, 177, 178, 179, 180, 181, 182, 183, 184, 185, 186, 187, 188, 189, 190, 191, 157, 158] (by decide +kernel) (by decide +kernel)
set_option maxRecDepth 20000 in
theorem gX5_departEverywhere_X5_departFrom : GoodIn wsX5_departEverywhere (wsV RX5 329 RX5 yX5_departFrom wsX5_departFrom) := goodIn_app (goodIn_of _ (by decide +kernel)) ggX5_departEverywhere_X5_departFrom
theorem dX5_departEverywhere_0 : decode cX5_departEverywhere 0 = .ok (.iconst 0, 1) := by decide +kernel
theorem dX5_departEverywhere_1 : decode cX5_departEverywhere 1 = .ok (.istore_n 1, 1) := by decide +kernel
theorem dX5_departEverywhere_2 : decode cX5_departEverywhere 2 = .ok (.iload_n 1, 1) := by decide +kernel
theorem dX5_departEverywhere_3 : decode cX5_departEverywhere 3 = .ok (.aload_n 0, 1) := by decide +kernel
theorem dX5_departEverywhere_4 : decode cX5_departEverywhere 4 = .ok (.getfield 10, 3) := by decide +kernel
theorem dX5_departEverywhere_7 : decode cX5_departEverywhere 7 = .ok (.getfield 47, 3) := by decide +kernel
theorem dX5_departEverywhere_10 : decode cX5_departEverywhere 10 = .ok (.invokevirtual 50, 3) := by decide +kernel
theorem dX5_departEverywhere_13 : decode cX5_departEverywhere 13 = .ok (.if_icmp .ge 27, 3) := by decide +kernel
theorem dX5_departEverywhere_16 : decode cX5_departEverywhere 16 = .ok (.aload_n 0, 1) := by decide +kernel
theorem dX5_departEverywhere_17 : decode cX5_departEverywhere 17 = .ok (.aload_n 0, 1) := by decide +kernel
theorem dX5_departEverywhere_18 : decode cX5_departEverywhere 18 = .ok (.getfield 10, 3) := by decide +kernel
theorem dX5_departEverywhere_21 : decode cX5_departEverywhere 21 = .ok (.getfield 47, 3) := by decide +kernel
theorem dX5_departEverywhere_24 : decode cX5_departEverywhere 24 = .ok (.iload_n 1, 1) := by decide +kernel
theorem dX5_departEverywhere_25 : decode cX5_departEverywhere 25 = .ok (.invokevirtual 159, 3) := by decide +kernel
theorem dX5_departEverywhere_28 : decode cX5_departEverywhere 28 = .ok (.checkcast 77, 3) := by decide +kernel
theorem dX5_departEverywhere_31 : decode cX5_departEverywhere 31 = .ok (.invokevirtual 329, 3) := by decide +kernel
theorem dX5_departEverywhere_34 : decode cX5_departEverywhere 34 = .ok (.iinc 1 1, 3) := by decide +kernel
theorem dX5_departEverywhere_37 : decode cX5_departEverywhere 37 = .ok (.goto (-35), 3) := by decide +kernel
theorem dX5_departEverywhere_40 : decode cX5_departEverywhere 40 = .ok (.return_, 1) := by decide +kernel
set_option maxRecDepth 20000 in
theorem ggX5_departFrom_Jx4a65c_size_8abf5 : GoodIn wsX5_departFrom wsJx4a65c_size_8abf5 := goodIn_r _ [7, 8, 162, 163, 164] (by decide +kernel) (by decide +kernel)
set_option maxRecDepth 20000 in
theorem gX5_departFrom_Jx4a65c_size_8abf5 : GoodIn wsX5_departFrom (wsV RX5 50 RJx4a65c yJx4a65c_size_8abf5 wsJx4a65c_size_8abf5) := goodIn_app (goodIn_of _ (by decide +kernel)) ggX5_departFrom_Jx4a65c_size_8abf5
set_option maxRecDepth 20000 in
theorem ggX5_departFrom_Jx4a65c_get_915e3 : GoodIn wsX5_departFrom wsJx4a65c_get_915e3 := goodIn_r _ [12, 8, 13, 14, 15, 16, 17, 18, 19, 20, 21, 22, 23, 6, 24, 25, 162, 163, 164] (by decide +kernel) (by decide +kernel)
set_option maxRecDepth 20000 in
theorem gX5_departFrom_Jx4a65c_get_915e3 : GoodIn wsX5_departFrom (wsV RX5 159 RJx4a65c yJx4a65c_get_915e3 wsJx4a65c_get_915e3) := goodIn_app (goodIn_of _ (by decide +kernel)) ggX5_departFrom_Jx4a65c_get_915e3
set_option maxRecDepth 20000 in
theorem ggX5_departFrom_X5_tubeToEnter : GoodIn wsX5_departFrom wsX5_tubeToEnter := goodIn_r _ [30, 2, 31, 32, 33, 34, 35, 36, 37, 38, 39, 40, 41, 42, 43, 44, 45, 46, 47, 48, 49, 50, 51, 52, 53, 54, 55, 4, 5, 6, 7, 8, 56, 10, 11, 12, 13, 14, 15, 16, 17, 18, 19, 20, 21, 22, 23, 24, 25, 57, 58, 59, 60, 61, 62, 63, 3, 64, 65, 29, 66, 9, 67, 68, 69, 70, 71, 72, 73, 74, 75, 156, 157, 158, 159, 160, 161, 165, 166, 167, 168, 169, 170, 171, 172, 173, 146, 147, 148, 149, 150, 151, 152, 153, 154, 155, 174, 175, 176, 177, 178, 179, 180, 181, 182, 183, 184, 185, 186, 162, 163, 164] (by decide +kernel) (by decide +kernel)
set_option maxRecDepth 20000 in
theorem gX5_departFrom_X5_tubeToEnter : GoodIn wsX5_departFrom (wsV RX5 333 RX5 yX5_tubeToEnter wsX5_tubeToEnter) := goodIn_app (goodIn_of _ (by decide +kernel)) ggX5_departFrom_X5_tubeToEnter
set_option maxRecDepth 20000 in
theorem ggX5_departFrom_Jx4a65c_remove_915e3 : GoodIn wsX5_departFrom wsJx4a65c_remove_915e3 := goodIn_r _ [79, 8, 25, 13, 14, 15, 16, 17, 18, 19, 20, 80, 81, 82, 6, 83, 84, 85, 86, 87, 88, 89, 162, 163, 164] (by decide +kernel) (by decide +kernel)
set_option maxRecDepth 20000 in
theorem gX5_departFrom_Jx4a65c_remove_915e3 : GoodIn wsX5_departFrom (wsV RX5 326 RJx4a65c yJx4a65c_remove_915e3 wsJx4a65c_remove_915e3) := goodIn_app (goodIn_of _ (by decide +kernel)) ggX5_departFrom_Jx4a65c_remove_915e3
set_option maxRecDepth 20000 in
theorem ggX5_departFrom_X0_enter : GoodIn wsX5_departFrom wsX0_enter := goodIn_r _ [93, 94, 95, 96, 97, 98, 99, 100, 101, 6, 102, 84, 85, 25, 8, 103, 104, 105, 106, 107, 108, 109, 110, 111, 112, 113, 114, 115, 116, 117, 118, 119, 120, 121, 122, 123, 124, 125, 126, 127, 128, 129, 130, 131, 47, 132, 133, 134, 135, 136, 137, 138, 139, 140, 141, 142, 143, 144, 145, 87, 88, 89, 165, 166, 167, 168, 169, 170, 171, 172, 173, 174, 175, 176, 177, 178, 179, 180, 181, 182, 183, 184, 162, 163, 164] (by decide +kernel) (by decide +kernel)
set_option maxRecDepth 20000 in
theorem gX5_departFrom_X0_enter_n337 : GoodIn wsX5_departFrom (wsX0_enter) := ggX5_departFrom_X0_enter
theorem dX5_departFrom_0 : decode cX5_departFrom 0 = .ok (.aload_n 1, 1) := by decide +kernel
theorem dX5_departFrom_1 : decode cX5_departFrom 1 = .ok (.getfield 206, 3) := by decide +kernel
theorem dX5_departFrom_4 : decode cX5_departFrom 4 = .ok (.astore_n 2, 1) := by decide +kernel
theorem dX5_departFrom_5 : decode cX5_departFrom 5 = .ok (.iconst 0, 1) := by decide +kernel
theorem dX5_departFrom_6 : decode cX5_departFrom 6 = .ok (.istore_n 3, 1) := by decide +kernel
theorem dX5_departFrom_7 : decode cX5_departFrom 7 = .ok (.aload_n 2, 1) := by decide +kernel
theorem dX5_departFrom_8 : decode cX5_departFrom 8 = .ok (.invokevirtual 50, 3) := by decide +kernel
theorem dX5_departFrom_11 : decode cX5_departFrom 11 = .ok (.istore 4, 2) := by decide +kernel
theorem dX5_departFrom_13 : decode cX5_departFrom 13 = .ok (.iload 4, 2) := by decide +kernel
theorem dX5_departFrom_15 : decode cX5_departFrom 15 = .ok (.ifCond .le 64, 3) := by decide +kernel
theorem dX5_departFrom_18 : decode cX5_departFrom 18 = .ok (.iload_n 3, 1) := by decide +kernel
theorem dX5_departFrom_19 : decode cX5_departFrom 19 = .ok (.aload_n 2, 1) := by decide +kernel
theorem dX5_departFrom_20 : decode cX5_departFrom 20 = .ok (.invokevirtual 50, 3) := by decide +kernel
theorem dX5_departFrom_23 : decode cX5_departFrom 23 = .ok (.if_icmp .ge 56, 3) := by decide +kernel
theorem dX5_departFrom_26 : decode cX5_departFrom 26 = .ok (.aload_n 2, 1) := by decide +kernel
theorem dX5_departFrom_27 : decode cX5_departFrom 27 = .ok (.iload_n 3, 1) := by decide +kernel
theorem dX5_departFrom_28 : decode cX5_departFrom 28 = .ok (.invokevirtual 159, 3) := by decide +kernel
theorem dX5_departFrom_31 : decode cX5_departFrom 31 = .ok (.checkcast 163, 3) := by decide +kernel
theorem dX5_departFrom_34 : decode cX5_departFrom 34 = .ok (.astore 5, 2) := by decide +kernel
theorem dX5_departFrom_36 : decode cX5_departFrom 36 = .ok (.aload_n 0, 1) := by decide +kernel
theorem dX5_departFrom_37 : decode cX5_departFrom 37 = .ok (.aload_n 1, 1) := by decide +kernel
theorem dX5_departFrom_38 : decode cX5_departFrom 38 = .ok (.aload 5, 2) := by decide +kernel
theorem dX5_departFrom_40 : decode cX5_departFrom 40 = .ok (.invokevirtual 333, 3) := by decide +kernel
theorem dX5_departFrom_43 : decode cX5_departFrom 43 = .ok (.astore 6, 2) := by decide +kernel
theorem dX5_departFrom_45 : decode cX5_departFrom 45 = .ok (.aload 6, 2) := by decide +kernel
theorem dX5_departFrom_47 : decode cX5_departFrom 47 = .ok (.ifnonnull 9, 3) := by decide +kernel
theorem dX5_departFrom_50 : decode cX5_departFrom 50 = .ok (.iinc 3 1, 3) := by decide +kernel
theorem dX5_departFrom_53 : decode cX5_departFrom 53 = .ok (.goto 20, 3) := by decide +kernel
theorem dX5_departFrom_56 : decode cX5_departFrom 56 = .ok (.aload_n 2, 1) := by decide +kernel
theorem dX5_departFrom_57 : decode cX5_departFrom 57 = .ok (.iload_n 3, 1) := by decide +kernel
theorem dX5_departFrom_58 : decode cX5_departFrom 58 = .ok (.invokevirtual 326, 3) := by decide +kernel
theorem dX5_departFrom_61 : decode cX5_departFrom 61 = .ok (.pop, 1) := by decide +kernel
theorem dX5_departFrom_62 : decode cX5_departFrom 62 = .ok (.aload 5, 2) := by decide +kernel
theorem dX5_departFrom_64 : decode cX5_departFrom 64 = .ok (.aload 6, 2) := by decide +kernel
theorem dX5_departFrom_66 : decode cX5_departFrom 66 = .ok (.aload_n 0, 1) := by decide +kernel
theorem dX5_departFrom_67 : decode cX5_departFrom 67 = .ok (.getfield 26, 3) := by decide +kernel
theorem dX5_departFrom_70 : decode cX5_departFrom 70 = .ok (.invokevirtual 337, 3) := by decide +kernel
theorem dX5_departFrom_73 : decode cX5_departFrom 73 = .ok (.iinc 4 (-1), 3) := by decide +kernel
theorem dX5_departFrom_76 : decode cX5_departFrom 76 = .ok (.goto (-63), 3) := by decide +kernel
theorem dX5_departFrom_79 : decode cX5_departFrom 79 = .ok (.return_, 1) := by decide +kernel
set_option maxRecDepth 20000 in
theorem ggX5_tubeToEnter_X2_wayFor : GoodIn wsX5_tubeToEnter wsX2_wayFor := goodIn_r _ [7, 8, 9, 10, 11, 12, 5, 13, 14, 15, 16, 17, 18, 19, 20, 21, 22, 23, 24, 25, 26, 27, 28, 29, 30, 31, 32, 33, 34, 35, 36, 37, 38, 39, 40, 41, 42, 43, 44, 45, 46, 47, 48, 49, 50, 51, 52, 53, 54, 55, 86, 87, 88, 89, 90, 91, 92, 93, 94, 95, 96, 97, 98, 99, 100, 101, 102, 103, 104, 105, 106, 107, 108, 109, 110, 111] (by decide +kernel) (by decide +kernel)
set_option maxRecDepth 20000 in
theorem gX5_tubeToEnter_X2_wayFor_n247 : GoodIn wsX5_tubeToEnter (wsX2_wayFor) := ggX5_tubeToEnter_X2_wayFor
set_option maxRecDepth 20000 in
theorem ggX5_tubeToEnter_Jx4a65c_size_8abf5 : GoodIn wsX5_tubeToEnter wsJx4a65c_size_8abf5 := goodIn_r _ [30, 31, 109, 110, 111] (by decide +kernel) (by decide +kernel)
set_option maxRecDepth 20000 in
theorem gX5_tubeToEnter_Jx4a65c_size_8abf5 : GoodIn wsX5_tubeToEnter (wsV RX5 50 RJx4a65c yJx4a65c_size_8abf5 wsJx4a65c_size_8abf5) := goodIn_app (goodIn_of _ (by decide +kernel)) ggX5_tubeToEnter_Jx4a65c_size_8abf5
set_option maxRecDepth 20000 in
theorem ggX5_tubeToEnter_X5_isOutside : GoodIn wsX5_tubeToEnter wsX5_isOutside := goodIn_r _ [60] (by decide +kernel) (by decide +kernel)
set_option maxRecDepth 20000 in
theorem gX5_tubeToEnter_X5_isOutside : GoodIn wsX5_tubeToEnter (va_wsS RX5 36 yX5_isOutside wsX5_isOutside) := goodIn_app (goodIn_of _ (by decide +kernel)) ggX5_tubeToEnter_X5_isOutside
set_option maxRecDepth 20000 in
theorem ggX5_tubeToEnter_Jx4a65c_get_915e3 : GoodIn wsX5_tubeToEnter wsJx4a65c_get_915e3 := goodIn_r _ [35, 31, 36, 37, 38, 39, 40, 41, 42, 43, 44, 45, 46, 29, 47, 48, 109, 110, 111] (by decide +kernel) (by decide +kernel)
set_option maxRecDepth 20000 in
theorem gX5_tubeToEnter_Jx4a65c_get_915e3 : GoodIn wsX5_tubeToEnter (wsV RX5 159 RJx4a65c yJx4a65c_get_915e3 wsJx4a65c_get_915e3) := goodIn_app (goodIn_of _ (by decide +kernel)) ggX5_tubeToEnter_Jx4a65c_get_915e3
set_option maxRecDepth 20000 in
theorem ggX5_tubeToEnter_X4_canBeEnteredAt : GoodIn wsX5_tubeToEnter wsX4_canBeEnteredAt := goodIn_r _ [65, 66, 67, 68, 69, 70, 27, 28, 29, 30, 31, 96, 97, 98, 99, 100, 101, 102, 103, 104, 105, 106, 109, 110, 111] (by decide +kernel) (by decide +kernel)
set_option maxRecDepth 20000 in
theorem gX5_tubeToEnter_X4_canBeEnteredAt_n341 : GoodIn wsX5_tubeToEnter (wsX4_canBeEnteredAt) := ggX5_tubeToEnter_X4_canBeEnteredAt
theorem dX5_tubeToEnter_0 : decode cX5_tubeToEnter 0 = .ok (.aload_n 0, 1) := by decide +kernel
theorem dX5_tubeToEnter_1 : decode cX5_tubeToEnter 1 = .ok (.getfield 26, 3) := by decide +kernel
theorem dX5_tubeToEnter_4 : decode cX5_tubeToEnter 4 = .ok (.aload_n 2, 1) := by decide +kernel
theorem dX5_tubeToEnter_5 : decode cX5_tubeToEnter 5 = .ok (.getfield 184, 3) := by decide +kernel
theorem dX5_tubeToEnter_8 : decode cX5_tubeToEnter 8 = .ok (.isub, 1) := by decide +kernel
theorem dX5_tubeToEnter_9 : decode cX5_tubeToEnter 9 = .ok (.aload_n 1, 1) := by decide +kernel
theorem dX5_tubeToEnter_10 : decode cX5_tubeToEnter 10 = .ok (.getfield 203, 3) := by decide +kernel
theorem dX5_tubeToEnter_13 : decode cX5_tubeToEnter 13 = .ok (.if_icmp .ge 5, 3) := by decide +kernel
theorem dX5_tubeToEnter_16 : decode cX5_tubeToEnter 16 = .ok (.aconst_null, 1) := by decide +kernel
theorem dX5_tubeToEnter_17 : decode cX5_tubeToEnter 17 = .ok (.areturn, 1) := by decide +kernel
theorem dX5_tubeToEnter_18 : decode cX5_tubeToEnter 18 = .ok (.aload_n 0, 1) := by decide +kernel
theorem dX5_tubeToEnter_19 : decode cX5_tubeToEnter 19 = .ok (.getfield 10, 3) := by decide +kernel
theorem dX5_tubeToEnter_22 : decode cX5_tubeToEnter 22 = .ok (.aload_n 1, 1) := by decide +kernel
theorem dX5_tubeToEnter_23 : decode cX5_tubeToEnter 23 = .ok (.aload_n 2, 1) := by decide +kernel
theorem dX5_tubeToEnter_24 : decode cX5_tubeToEnter 24 = .ok (.getfield 171, 3) := by decide +kernel
theorem dX5_tubeToEnter_27 : decode cX5_tubeToEnter 27 = .ok (.invokevirtual 247, 3) := by decide +kernel
theorem dX5_tubeToEnter_30 : decode cX5_tubeToEnter 30 = .ok (.istore_n 3, 1) := by decide +kernel
theorem dX5_tubeToEnter_31 : decode cX5_tubeToEnter 31 = .ok (.iload_n 3, 1) := by decide +kernel
theorem dX5_tubeToEnter_32 : decode cX5_tubeToEnter 32 = .ok (.iconst 0, 1) := by decide +kernel
theorem dX5_tubeToEnter_33 : decode cX5_tubeToEnter 33 = .ok (.aload_n 1, 1) := by decide +kernel
theorem dX5_tubeToEnter_34 : decode cX5_tubeToEnter 34 = .ok (.getfield 76, 3) := by decide +kernel
theorem dX5_tubeToEnter_37 : decode cX5_tubeToEnter 37 = .ok (.invokevirtual 50, 3) := by decide +kernel
theorem dX5_tubeToEnter_40 : decode cX5_tubeToEnter 40 = .ok (.iconst 1, 1) := by decide +kernel
theorem dX5_tubeToEnter_41 : decode cX5_tubeToEnter 41 = .ok (.isub, 1) := by decide +kernel
theorem dX5_tubeToEnter_42 : decode cX5_tubeToEnter 42 = .ok (.invokestatic 36, 3) := by decide +kernel
theorem dX5_tubeToEnter_45 : decode cX5_tubeToEnter 45 = .ok (.ifCond .eq 5, 3) := by decide +kernel
theorem dX5_tubeToEnter_48 : decode cX5_tubeToEnter 48 = .ok (.aconst_null, 1) := by decide +kernel
theorem dX5_tubeToEnter_49 : decode cX5_tubeToEnter 49 = .ok (.areturn, 1) := by decide +kernel
theorem dX5_tubeToEnter_50 : decode cX5_tubeToEnter 50 = .ok (.aload_n 1, 1) := by decide +kernel
theorem dX5_tubeToEnter_51 : decode cX5_tubeToEnter 51 = .ok (.getfield 76, 3) := by decide +kernel
theorem dX5_tubeToEnter_54 : decode cX5_tubeToEnter 54 = .ok (.iload_n 3, 1) := by decide +kernel
theorem dX5_tubeToEnter_55 : decode cX5_tubeToEnter 55 = .ok (.invokevirtual 159, 3) := by decide +kernel
theorem dX5_tubeToEnter_58 : decode cX5_tubeToEnter 58 = .ok (.checkcast 101, 3) := by decide +kernel
theorem dX5_tubeToEnter_61 : decode cX5_tubeToEnter 61 = .ok (.astore 4, 2) := by decide +kernel
theorem dX5_tubeToEnter_63 : decode cX5_tubeToEnter 63 = .ok (.aload 4, 2) := by decide +kernel
theorem dX5_tubeToEnter_65 : decode cX5_tubeToEnter 65 = .ok (.aload_n 0, 1) := by decide +kernel
theorem dX5_tubeToEnter_66 : decode cX5_tubeToEnter 66 = .ok (.getfield 26, 3) := by decide +kernel
theorem dX5_tubeToEnter_69 : decode cX5_tubeToEnter 69 = .ok (.invokevirtual 341, 3) := by decide +kernel
theorem dX5_tubeToEnter_72 : decode cX5_tubeToEnter 72 = .ok (.ifCond .eq 8, 3) := by decide +kernel
theorem dX5_tubeToEnter_75 : decode cX5_tubeToEnter 75 = .ok (.aload 4, 2) := by decide +kernel
theorem dX5_tubeToEnter_77 : decode cX5_tubeToEnter 77 = .ok (.goto 4, 3) := by decide +kernel
theorem dX5_tubeToEnter_80 : decode cX5_tubeToEnter 80 = .ok (.aconst_null, 1) := by decide +kernel
theorem dX5_tubeToEnter_81 : decode cX5_tubeToEnter 81 = .ok (.areturn, 1) := by decide +kernel
set_option maxRecDepth 20000 in
theorem ggX5_underWay_Jx4a65c_size_8abf5 : GoodIn wsX5_underWay wsJx4a65c_size_8abf5 := goodIn_r _ [7, 8, 15, 16, 17] (by decide +kernel) (by decide +kernel)
set_option maxRecDepth 20000 in
theorem gX5_underWay_Jx4a65c_size_8abf5 : GoodIn wsX5_underWay (wsV RX5 50 RJx4a65c yJx4a65c_size_8abf5 wsJx4a65c_size_8abf5) := goodIn_app (goodIn_of _ (by decide +kernel)) ggX5_underWay_Jx4a65c_size_8abf5
theorem dX5_underWay_0 : decode cX5_underWay 0 = .ok (.aload_n 0, 1) := by decide +kernel
theorem dX5_underWay_1 : decode cX5_underWay 1 = .ok (.getfield 23, 3) := by decide +kernel
theorem dX5_underWay_4 : decode cX5_underWay 4 = .ok (.invokevirtual 50, 3) := by decide +kernel
theorem dX5_underWay_7 : decode cX5_underWay 7 = .ok (.aload_n 0, 1) := by decide +kernel
theorem dX5_underWay_8 : decode cX5_underWay 8 = .ok (.getfield 30, 3) := by decide +kernel
theorem dX5_underWay_11 : decode cX5_underWay 11 = .ok (.isub, 1) := by decide +kernel
theorem dX5_underWay_12 : decode cX5_underWay 12 = .ok (.ireturn, 1) := by decide +kernel
set_option maxRecDepth 20000 in
theorem ggX5_canTakeLetterAt_X3_hasRoom : GoodIn wsX5_canTakeLetterAt wsX3_hasRoom := goodIn_r _ [5, 6, 7, 8, 9, 10, 11, 12, 13, 27, 28, 29, 30, 31, 32, 33, 34, 35, 36, 37, 38, 39] (by decide +kernel) (by decide +kernel)
set_option maxRecDepth 20000 in
theorem gX5_canTakeLetterAt_X3_hasRoom_n318 : GoodIn wsX5_canTakeLetterAt (wsX3_hasRoom) := ggX5_canTakeLetterAt_X3_hasRoom
set_option maxRecDepth 20000 in
theorem ggX5_canTakeLetterAt_X5_underWay : GoodIn wsX5_canTakeLetterAt wsX5_underWay := goodIn_r _ [18, 1, 19, 20, 9, 10, 11, 12, 13, 21, 22, 23, 24, 25, 26, 37, 38, 39] (by decide +kernel) (by decide +kernel)
set_option maxRecDepth 20000 in
theorem gX5_canTakeLetterAt_X5_underWay : GoodIn wsX5_canTakeLetterAt (wsV RX5 192 RX5 yX5_underWay wsX5_underWay) := goodIn_app (goodIn_of _ (by decide +kernel)) ggX5_canTakeLetterAt_X5_underWay
set_option maxRecDepth 20000 in
theorem ggX5_canTakeLetterAt_Jx4a65c_size_8abf5 : GoodIn wsX5_canTakeLetterAt wsJx4a65c_size_8abf5 := goodIn_r _ [12, 13, 37, 38, 39] (by decide +kernel) (by decide +kernel)
set_option maxRecDepth 20000 in
theorem gX5_canTakeLetterAt_Jx4a65c_size_8abf5 : GoodIn wsX5_canTakeLetterAt (wsV RX5 50 RJx4a65c yJx4a65c_size_8abf5 wsJx4a65c_size_8abf5) := goodIn_app (goodIn_of _ (by decide +kernel)) ggX5_canTakeLetterAt_Jx4a65c_size_8abf5
theorem dX5_canTakeLetterAt_0 : decode cX5_canTakeLetterAt 0 = .ok (.aload_n 1, 1) := by decide +kernel
theorem dX5_canTakeLetterAt_1 : decode cX5_canTakeLetterAt 1 = .ok (.invokevirtual 318, 3) := by decide +kernel
theorem dX5_canTakeLetterAt_4 : decode cX5_canTakeLetterAt 4 = .ok (.ifCond .eq 29, 3) := by decide +kernel
theorem dX5_canTakeLetterAt_7 : decode cX5_canTakeLetterAt 7 = .ok (.aload_n 0, 1) := by decide +kernel
theorem dX5_canTakeLetterAt_8 : decode cX5_canTakeLetterAt 8 = .ok (.invokevirtual 192, 3) := by decide +kernel
theorem dX5_canTakeLetterAt_11 : decode cX5_canTakeLetterAt 11 = .ok (.bipush 40, 2) := by decide +kernel
theorem dX5_canTakeLetterAt_13 : decode cX5_canTakeLetterAt 13 = .ok (.if_icmp .ge 20, 3) := by decide +kernel
theorem dX5_canTakeLetterAt_16 : decode cX5_canTakeLetterAt 16 = .ok (.aload_n 0, 1) := by decide +kernel
theorem dX5_canTakeLetterAt_17 : decode cX5_canTakeLetterAt 17 = .ok (.getfield 23, 3) := by decide +kernel
theorem dX5_canTakeLetterAt_20 : decode cX5_canTakeLetterAt 20 = .ok (.invokevirtual 50, 3) := by decide +kernel
theorem dX5_canTakeLetterAt_23 : decode cX5_canTakeLetterAt 23 = .ok (.sipush 500, 3) := by decide +kernel
theorem dX5_canTakeLetterAt_26 : decode cX5_canTakeLetterAt 26 = .ok (.if_icmp .ge 7, 3) := by decide +kernel
theorem dX5_canTakeLetterAt_29 : decode cX5_canTakeLetterAt 29 = .ok (.iconst 1, 1) := by decide +kernel
theorem dX5_canTakeLetterAt_30 : decode cX5_canTakeLetterAt 30 = .ok (.goto 4, 3) := by decide +kernel
theorem dX5_canTakeLetterAt_33 : decode cX5_canTakeLetterAt 33 = .ok (.iconst 0, 1) := by decide +kernel
theorem dX5_canTakeLetterAt_34 : decode cX5_canTakeLetterAt 34 = .ok (.ireturn, 1) := by decide +kernel
set_option maxRecDepth 20000 in
theorem ggX5_dispatch_Jx4a65c_size_8abf5 : GoodIn wsX5_dispatch wsJx4a65c_size_8abf5 := goodIn_r _ [10, 11, 130, 131, 132] (by decide +kernel) (by decide +kernel)
set_option maxRecDepth 20000 in
theorem gX5_dispatch_Jx4a65c_size_8abf5 : GoodIn wsX5_dispatch (wsV RX5 50 RJx4a65c yJx4a65c_size_8abf5 wsJx4a65c_size_8abf5) := goodIn_app (goodIn_of _ (by decide +kernel)) ggX5_dispatch_Jx4a65c_size_8abf5
set_option maxRecDepth 20000 in
theorem ggX5_dispatch_X0_init : GoodIn wsX5_dispatch wsX0_init := goodIn_r _ [13, 14, 15, 16, 17, 18, 19, 20, 21, 22, 23, 24, 25, 115, 116, 117, 118, 119, 120, 121, 122, 123] (by decide +kernel) (by decide +kernel)
set_option maxRecDepth 20000 in
theorem gX5_dispatch_X0_init_n344 : GoodIn wsX5_dispatch (wsX0_init) := ggX5_dispatch_X0_init
set_option maxRecDepth 20000 in
theorem ggX5_dispatch_Jx4a65c_add_9ea2d : GoodIn wsX5_dispatch wsJx4a65c_add_9ea2d := goodIn_r _ [29, 30, 31, 32, 11, 33, 34, 35, 9, 36, 37, 38, 39, 40, 41, 42, 43, 44, 45, 46, 47, 48, 49, 50, 51, 52, 53, 54, 55, 56, 57, 58, 59, 60, 61, 62, 63, 64, 65, 66, 67, 68, 69, 70, 71, 72, 73, 74, 75, 76, 77, 78, 79, 130, 131, 132] (by decide +kernel) (by decide +kernel)
set_option maxRecDepth 20000 in
theorem gX5_dispatch_Jx4a65c_add_9ea2d : GoodIn wsX5_dispatch (wsV RX5 123 RJx4a65c yJx4a65c_add_9ea2d wsJx4a65c_add_9ea2d) := goodIn_app (goodIn_of _ (by decide +kernel)) ggX5_dispatch_Jx4a65c_add_9ea2d
set_option maxRecDepth 20000 in
theorem ggX5_dispatch_X0_comeTo : GoodIn wsX5_dispatch wsX0_comeTo := goodIn_r _ [82, 21, 22, 23, 83, 84, 85, 86, 87, 88, 89, 7, 8, 9, 10, 11, 90, 91, 92, 93, 94, 95, 96, 97, 98, 99, 100, 101, 102, 103, 104, 105, 32, 106, 107, 108, 109, 30, 31, 110, 77, 78, 79, 111, 112, 113, 114, 37, 38, 39, 40, 41, 42, 43, 44, 45, 46, 47, 48, 49, 50, 51, 52, 53, 54, 55, 56, 57, 58, 59, 60, 61, 62, 63, 64, 65, 66, 67, 68, 69, 70, 71, 72, 73, 74, 75, 76, 115, 116, 117, 118, 119, 120, 121, 122, 123, 133, 134, 135, 136, 137, 138, 139, 140, 141, 142, 130, 131, 132] (by decide +kernel) (by decide +kernel)
set_option maxRecDepth 20000 in
theorem gX5_dispatch_X0_comeTo_n322 : GoodIn wsX5_dispatch (wsX0_comeTo) := ggX5_dispatch_X0_comeTo
theorem dX5_dispatch_0 : decode cX5_dispatch 0 = .ok (.new 163, 3) := by decide +kernel
theorem dX5_dispatch_3 : decode cX5_dispatch 3 = .ok (.dup, 1) := by decide +kernel
theorem dX5_dispatch_4 : decode cX5_dispatch 4 = .ok (.aload_n 0, 1) := by decide +kernel
theorem dX5_dispatch_5 : decode cX5_dispatch 5 = .ok (.getfield 23, 3) := by decide +kernel
theorem dX5_dispatch_8 : decode cX5_dispatch 8 = .ok (.invokevirtual 50, 3) := by decide +kernel
theorem dX5_dispatch_11 : decode cX5_dispatch 11 = .ok (.aload_n 2, 1) := by decide +kernel
theorem dX5_dispatch_12 : decode cX5_dispatch 12 = .ok (.iload_n 3, 1) := by decide +kernel
theorem dX5_dispatch_13 : decode cX5_dispatch 13 = .ok (.aload_n 0, 1) := by decide +kernel
theorem dX5_dispatch_14 : decode cX5_dispatch 14 = .ok (.getfield 26, 3) := by decide +kernel
theorem dX5_dispatch_17 : decode cX5_dispatch 17 = .ok (.invokespecial 344, 3) := by decide +kernel
theorem dX5_dispatch_20 : decode cX5_dispatch 20 = .ok (.astore 4, 2) := by decide +kernel
theorem dX5_dispatch_22 : decode cX5_dispatch 22 = .ok (.aload_n 0, 1) := by decide +kernel
theorem dX5_dispatch_23 : decode cX5_dispatch 23 = .ok (.getfield 23, 3) := by decide +kernel
theorem dX5_dispatch_26 : decode cX5_dispatch 26 = .ok (.aload 4, 2) := by decide +kernel
theorem dX5_dispatch_28 : decode cX5_dispatch 28 = .ok (.invokevirtual 123, 3) := by decide +kernel
theorem dX5_dispatch_31 : decode cX5_dispatch 31 = .ok (.pop, 1) := by decide +kernel
theorem dX5_dispatch_32 : decode cX5_dispatch 32 = .ok (.aload 4, 2) := by decide +kernel
theorem dX5_dispatch_34 : decode cX5_dispatch 34 = .ok (.aload_n 1, 1) := by decide +kernel
theorem dX5_dispatch_35 : decode cX5_dispatch 35 = .ok (.aload_n 0, 1) := by decide +kernel
theorem dX5_dispatch_36 : decode cX5_dispatch 36 = .ok (.getfield 26, 3) := by decide +kernel
theorem dX5_dispatch_39 : decode cX5_dispatch 39 = .ok (.invokevirtual 322, 3) := by decide +kernel
theorem dX5_dispatch_42 : decode cX5_dispatch 42 = .ok (.return_, 1) := by decide +kernel
set_option maxRecDepth 20000 in
theorem ggX5_jammedTubes_Jx4a65c_size_8abf5 : GoodIn wsX5_jammedTubes wsJx4a65c_size_8abf5 := goodIn_r _ [8, 9, 46, 47, 48] (by decide +kernel) (by decide +kernel)
set_option maxRecDepth 20000 in
theorem gX5_jammedTubes_Jx4a65c_size_8abf5 : GoodIn wsX5_jammedTubes (wsV RX5 50 RJx4a65c yJx4a65c_size_8abf5 wsJx4a65c_size_8abf5) := goodIn_app (goodIn_of _ (by decide +kernel)) ggX5_jammedTubes_Jx4a65c_size_8abf5
set_option maxRecDepth 20000 in
theorem ggX5_jammedTubes_Jx4a65c_get_915e3 : GoodIn wsX5_jammedTubes wsJx4a65c_get_915e3 := goodIn_r _ [13, 9, 14, 15, 16, 17, 18, 19, 20, 21, 22, 23, 24, 7, 25, 26, 46, 47, 48] (by decide +kernel) (by decide +kernel)
set_option maxRecDepth 20000 in
theorem gX5_jammedTubes_Jx4a65c_get_915e3 : GoodIn wsX5_jammedTubes (wsV RX5 159 RJx4a65c yJx4a65c_get_915e3 wsJx4a65c_get_915e3) := goodIn_app (goodIn_of _ (by decide +kernel)) ggX5_jammedTubes_Jx4a65c_get_915e3
set_option maxRecDepth 20000 in
theorem ggX5_jammedTubes_X4_isFirstAtEnd : GoodIn wsX5_jammedTubes wsX4_isFirstAtEnd := goodIn_r _ [30, 31, 32, 33, 34, 35, 7, 36, 9, 37, 11, 12, 13, 14, 15, 16, 17, 18, 19, 20, 21, 22, 23, 24, 25, 26, 49, 50, 51, 52, 53, 54, 55, 56, 57, 58, 59, 60, 61, 62, 63, 64, 65, 66, 67, 68, 46, 47, 48] (by decide +kernel) (by decide +kernel)
set_option maxRecDepth 20000 in
theorem gX5_jammedTubes_X4_isFirstAtEnd_n233 : GoodIn wsX5_jammedTubes (wsX4_isFirstAtEnd) := ggX5_jammedTubes_X4_isFirstAtEnd
theorem dX5_jammedTubes_0 : decode cX5_jammedTubes 0 = .ok (.iconst 0, 1) := by decide +kernel
theorem dX5_jammedTubes_1 : decode cX5_jammedTubes 1 = .ok (.istore_n 1, 1) := by decide +kernel
theorem dX5_jammedTubes_2 : decode cX5_jammedTubes 2 = .ok (.iconst 0, 1) := by decide +kernel
theorem dX5_jammedTubes_3 : decode cX5_jammedTubes 3 = .ok (.istore_n 2, 1) := by decide +kernel
theorem dX5_jammedTubes_4 : decode cX5_jammedTubes 4 = .ok (.iload_n 2, 1) := by decide +kernel
theorem dX5_jammedTubes_5 : decode cX5_jammedTubes 5 = .ok (.aload_n 0, 1) := by decide +kernel
theorem dX5_jammedTubes_6 : decode cX5_jammedTubes 6 = .ok (.getfield 10, 3) := by decide +kernel
theorem dX5_jammedTubes_9 : decode cX5_jammedTubes 9 = .ok (.getfield 73, 3) := by decide +kernel
theorem dX5_jammedTubes_12 : decode cX5_jammedTubes 12 = .ok (.invokevirtual 50, 3) := by decide +kernel
theorem dX5_jammedTubes_15 : decode cX5_jammedTubes 15 = .ok (.if_icmp .ge 36, 3) := by decide +kernel
theorem dX5_jammedTubes_18 : decode cX5_jammedTubes 18 = .ok (.aload_n 0, 1) := by decide +kernel
theorem dX5_jammedTubes_19 : decode cX5_jammedTubes 19 = .ok (.getfield 10, 3) := by decide +kernel
theorem dX5_jammedTubes_22 : decode cX5_jammedTubes 22 = .ok (.getfield 73, 3) := by decide +kernel
theorem dX5_jammedTubes_25 : decode cX5_jammedTubes 25 = .ok (.iload_n 2, 1) := by decide +kernel
theorem dX5_jammedTubes_26 : decode cX5_jammedTubes 26 = .ok (.invokevirtual 159, 3) := by decide +kernel
theorem dX5_jammedTubes_29 : decode cX5_jammedTubes 29 = .ok (.checkcast 101, 3) := by decide +kernel
theorem dX5_jammedTubes_32 : decode cX5_jammedTubes 32 = .ok (.aload_n 0, 1) := by decide +kernel
theorem dX5_jammedTubes_33 : decode cX5_jammedTubes 33 = .ok (.getfield 26, 3) := by decide +kernel
theorem dX5_jammedTubes_36 : decode cX5_jammedTubes 36 = .ok (.invokevirtual 233, 3) := by decide +kernel
theorem dX5_jammedTubes_39 : decode cX5_jammedTubes 39 = .ok (.ifCond .eq 6, 3) := by decide +kernel
theorem dX5_jammedTubes_42 : decode cX5_jammedTubes 42 = .ok (.iinc 1 1, 3) := by decide +kernel
theorem dX5_jammedTubes_45 : decode cX5_jammedTubes 45 = .ok (.iinc 2 1, 3) := by decide +kernel
theorem dX5_jammedTubes_48 : decode cX5_jammedTubes 48 = .ok (.goto (-44), 3) := by decide +kernel
theorem dX5_jammedTubes_51 : decode cX5_jammedTubes 51 = .ok (.iload_n 1, 1) := by decide +kernel
theorem dX5_jammedTubes_52 : decode cX5_jammedTubes 52 = .ok (.ireturn, 1) := by decide +kernel
set_option maxRecDepth 20000 in
theorem ggL_build_X5_addStation : GoodIn wsL_build wsX5_addStation := goodIn_ca (goodIn_ca (goodIn_r _ [33, 34, 35, 36, 37, 38, 39, 40, 32, 41, 42, 43, 44, 45, 46, 47, 48, 49, 50, 51, 52, 53, 54, 55, 56, 57, 58, 59, 9, 10, 60, 61, 62, 63, 64, 65, 66, 4, 67, 68, 69, 70, 71, 72, 73, 74, 75, 76, 77, 78, 79, 80, 81, 82, 83, 84, 85, 86, 87, 88, 89, 90, 91, 92, 93, 94, 95, 96, 97, 98, 99, 100, 101, 102, 103, 104, 105, 106, 107, 108, 109, 110, 111, 112, 113, 114, 115, 116, 117, 118, 119, 120, 121, 122, 123, 124, 125, 126, 127, 128, 129, 130, 131, 132, 133, 134, 135, 136, 137, 138, 139, 140, 141, 142, 143, 144, 145, 146, 147, 148, 149, 150, 151, 152, 153, 154, 155, 156, 157, 158, 159, 230, 231, 232, 233, 234, 235, 236, 237, 238, 239, 240, 241, 242, 243, 244, 245, 246, 247, 248, 249, 250] (by decide +kernel) (by decide +kernel)) (goodIn_sub (fun _ h => List.mem_cons_of_mem _ (List.mem_append_left _ (List.mem_append_left _ (List.mem_append_right _ h)))) (by decide +kernel))) (goodIn_sub (fun _ h => List.mem_cons_of_mem _ (List.mem_append_left _ (List.mem_append_right _ h))) (by decide +kernel))
set_option maxRecDepth 20000 in
theorem gL_build_X5_addStation : GoodIn wsL_build (wsV RL 22 RX5 yX5_addStation wsX5_addStation) := goodIn_app (goodIn_of _ (by decide +kernel)) ggL_build_X5_addStation
set_option maxRecDepth 20000 in
theorem ggL_build_X5_addTube : GoodIn wsL_build wsX5_addTube := goodIn_ca (goodIn_ca (goodIn_ca (goodIn_r _ [174, 34, 35, 36, 37, 38, 175, 176, 177, 32, 178, 179, 180, 181, 182, 49, 183, 184, 52, 56, 43, 44, 45, 46, 47, 185, 145, 146, 147, 148, 149, 150, 151, 152, 153, 154, 155, 156, 157, 158, 159, 76, 39, 40, 41, 186, 187, 188, 42, 189, 190, 191, 192, 193, 194, 195, 196, 197, 198, 9, 10, 199, 200, 201, 202, 203, 204, 205, 206, 64, 207, 208, 209, 210, 211, 212, 213, 214, 215, 73, 74, 75, 77, 78, 79, 80, 81, 82, 83, 84, 85, 86, 87, 88, 89, 90, 91, 92, 93, 94, 95, 96, 97, 98, 99, 100, 101, 102, 103, 104, 105, 106, 107, 108, 109, 110, 111, 112, 113, 114, 115, 116, 117, 118, 119, 120, 121, 122, 123, 124, 125, 126, 127, 128, 129, 130, 131, 132, 133, 134, 135, 136, 137, 138, 139, 140, 141, 142, 143, 144, 230, 231, 232, 233, 234, 235, 236, 237, 241, 242, 243, 244, 245, 246, 247, 248, 249, 250, 238, 239, 240, 251, 252, 253, 254, 255, 256, 257, 258, 259, 260, 261] (by decide +kernel) (by decide +kernel)) (goodIn_sub (fun _ h => List.mem_cons_of_mem _ (List.mem_append_left _ (List.mem_append_left _ (List.mem_append_right _ h)))) (by decide +kernel))) (goodIn_sub (fun _ h => List.mem_cons_of_mem _ (List.mem_append_left _ (List.mem_append_right _ h))) (by decide +kernel))) (goodIn_sub (fun _ h => List.mem_cons_of_mem _ (List.mem_append_right _ h)) (by decide +kernel))
set_option maxRecDepth 20000 in
theorem gL_build_X5_addTube : GoodIn wsL_build (wsV RL 34 RX5 yX5_addTube wsX5_addTube) := goodIn_app (goodIn_of _ (by decide +kernel)) ggL_build_X5_addTube
