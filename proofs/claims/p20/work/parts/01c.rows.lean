theorem nmX0 : ∀ a, a < 9 → ∀ b, b < 9 → a ≠ b → (TX0 a).2.1 ≠ (TX0 b).2.1 := by decide +kernel
theorem tyX0_ok : ∀ k, k < 9 → parseFieldDescriptor (TX0 k).2.2.1 = some (tyX0 k) := by decide +kernel
theorem nmX1 : ∀ a, a < 0 → ∀ b, b < 0 → a ≠ b → (TX1 a).2.1 ≠ (TX1 b).2.1 := by decide +kernel
theorem tyX1_ok : ∀ k, k < 0 → parseFieldDescriptor (TX1 k).2.2.1 = some (tyX1 k) := by decide +kernel
theorem nmX2 : ∀ a, a < 2 → ∀ b, b < 2 → a ≠ b → (TX2 a).2.1 ≠ (TX2 b).2.1 := by decide +kernel
theorem tyX2_ok : ∀ k, k < 2 → parseFieldDescriptor (TX2 k).2.2.1 = some (tyX2 k) := by decide +kernel
theorem nmX3 : ∀ a, a < 10 → ∀ b, b < 10 → a ≠ b → (TX3 a).2.1 ≠ (TX3 b).2.1 := by decide +kernel
theorem tyX3_ok : ∀ k, k < 10 → parseFieldDescriptor (TX3 k).2.2.1 = some (tyX3 k) := by decide +kernel
theorem nmX4 : ∀ a, a < 11 → ∀ b, b < 11 → a ≠ b → (TX4 a).2.1 ≠ (TX4 b).2.1 := by decide +kernel
theorem tyX4_ok : ∀ k, k < 11 → parseFieldDescriptor (TX4 k).2.2.1 = some (tyX4 k) := by decide +kernel
theorem nmX6 : ∀ a, a < 0 → ∀ b, b < 0 → a ≠ b → (TX6 a).2.1 ≠ (TX6 b).2.1 := by decide +kernel
theorem tyX6_ok : ∀ k, k < 0 → parseFieldDescriptor (TX6 k).2.2.1 = some (tyX6 k) := by decide +kernel
theorem nmX7 : ∀ a, a < 10 → ∀ b, b < 10 → a ≠ b → (TX7 a).2.1 ≠ (TX7 b).2.1 := by decide +kernel
theorem tyX7_ok : ∀ k, k < 10 → parseFieldDescriptor (TX7 k).2.2.1 = some (tyX7 k) := by decide +kernel
theorem nmX8 : ∀ a, a < 0 → ∀ b, b < 0 → a ≠ b → (TX8 a).2.1 ≠ (TX8 b).2.1 := by decide +kernel
theorem tyX8_ok : ∀ k, k < 0 → parseFieldDescriptor (TX8 k).2.2.1 = some (tyX8 k) := by decide +kernel
theorem nmJx145de : ∀ a, a < 0 → ∀ b, b < 0 → a ≠ b → (TJx145de a).2.1 ≠ (TJx145de b).2.1 := by decide +kernel
theorem tyJx145de_ok : ∀ k, k < 0 → parseFieldDescriptor (TJx145de k).2.2.1 = some (tyJx145de k) := by decide +kernel
theorem nmJx8e188 : ∀ a, a < 0 → ∀ b, b < 0 → a ≠ b → (TJx8e188 a).2.1 ≠ (TJx8e188 b).2.1 := by decide +kernel
theorem tyJx8e188_ok : ∀ k, k < 0 → parseFieldDescriptor (TJx8e188 k).2.2.1 = some (tyJx8e188 k) := by decide +kernel
theorem nmJxab1ab : ∀ a, a < 0 → ∀ b, b < 0 → a ≠ b → (TJxab1ab a).2.1 ≠ (TJxab1ab b).2.1 := by decide +kernel
theorem tyJxab1ab_ok : ∀ k, k < 0 → parseFieldDescriptor (TJxab1ab k).2.2.1 = some (tyJxab1ab k) := by decide +kernel
theorem nmJ9 : ∀ a, a < 0 → ∀ b, b < 0 → a ≠ b → (TJ9 a).2.1 ≠ (TJ9 b).2.1 := by decide +kernel
theorem tyJ9_ok : ∀ k, k < 0 → parseFieldDescriptor (TJ9 k).2.2.1 = some (tyJ9 k) := by decide +kernel
theorem nmJ0 : ∀ a, a < 0 → ∀ b, b < 0 → a ≠ b → (TJ0 a).2.1 ≠ (TJ0 b).2.1 := by decide +kernel
theorem tyJ0_ok : ∀ k, k < 0 → parseFieldDescriptor (TJ0 k).2.2.1 = some (tyJ0 k) := by decide +kernel
theorem nmJ10 : ∀ a, a < 0 → ∀ b, b < 0 → a ≠ b → (TJ10 a).2.1 ≠ (TJ10 b).2.1 := by decide +kernel
theorem tyJ10_ok : ∀ k, k < 0 → parseFieldDescriptor (TJ10 k).2.2.1 = some (tyJ10 k) := by decide +kernel
theorem nmJxa1e45 : ∀ a, a < 0 → ∀ b, b < 0 → a ≠ b → (TJxa1e45 a).2.1 ≠ (TJxa1e45 b).2.1 := by decide +kernel
theorem tyJxa1e45_ok : ∀ k, k < 0 → parseFieldDescriptor (TJxa1e45 k).2.2.1 = some (tyJxa1e45 k) := by decide +kernel
theorem nmJxc12de : ∀ a, a < 0 → ∀ b, b < 0 → a ≠ b → (TJxc12de a).2.1 ≠ (TJxc12de b).2.1 := by decide +kernel
theorem tyJxc12de_ok : ∀ k, k < 0 → parseFieldDescriptor (TJxc12de k).2.2.1 = some (tyJxc12de k) := by decide +kernel
theorem nmJx4a65c : ∀ a, a < 3 → ∀ b, b < 3 → a ≠ b → (TJx4a65c a).2.1 ≠ (TJx4a65c b).2.1 := by decide +kernel
theorem tyJx4a65c_ok : ∀ k, k < 3 → parseFieldDescriptor (TJx4a65c k).2.2.1 = some (tyJx4a65c k) := by decide +kernel
theorem nmJ7 : ∀ a, a < 0 → ∀ b, b < 0 → a ≠ b → (TJ7 a).2.1 ≠ (TJ7 b).2.1 := by decide +kernel
theorem tyJ7_ok : ∀ k, k < 0 → parseFieldDescriptor (TJ7 k).2.2.1 = some (tyJ7 k) := by decide +kernel
theorem nmJx5ef63 : ∀ a, a < 0 → ∀ b, b < 0 → a ≠ b → (TJx5ef63 a).2.1 ≠ (TJx5ef63 b).2.1 := by decide +kernel
theorem tyJx5ef63_ok : ∀ k, k < 0 → parseFieldDescriptor (TJx5ef63 k).2.2.1 = some (tyJx5ef63 k) := by decide +kernel
theorem nmJxbd725 : ∀ a, a < 0 → ∀ b, b < 0 → a ≠ b → (TJxbd725 a).2.1 ≠ (TJxbd725 b).2.1 := by decide +kernel
theorem tyJxbd725_ok : ∀ k, k < 0 → parseFieldDescriptor (TJxbd725 k).2.2.1 = some (tyJxbd725 k) := by decide +kernel
theorem nmJ15 : ∀ a, a < 0 → ∀ b, b < 0 → a ≠ b → (TJ15 a).2.1 ≠ (TJ15 b).2.1 := by decide +kernel
theorem tyJ15_ok : ∀ k, k < 0 → parseFieldDescriptor (TJ15 k).2.2.1 = some (tyJ15 k) := by decide +kernel
theorem nmJxf0a74 : ∀ a, a < 0 → ∀ b, b < 0 → a ≠ b → (TJxf0a74 a).2.1 ≠ (TJxf0a74 b).2.1 := by decide +kernel
theorem tyJxf0a74_ok : ∀ k, k < 0 → parseFieldDescriptor (TJxf0a74 k).2.2.1 = some (tyJxf0a74 k) := by decide +kernel
theorem nmJxa66e6 : ∀ a, a < 0 → ∀ b, b < 0 → a ≠ b → (TJxa66e6 a).2.1 ≠ (TJxa66e6 b).2.1 := by decide +kernel
theorem tyJxa66e6_ok : ∀ k, k < 0 → parseFieldDescriptor (TJxa66e6 k).2.2.1 = some (tyJxa66e6 k) := by decide +kernel
theorem nmJ8 : ∀ a, a < 0 → ∀ b, b < 0 → a ≠ b → (TJ8 a).2.1 ≠ (TJ8 b).2.1 := by decide +kernel
theorem tyJ8_ok : ∀ k, k < 0 → parseFieldDescriptor (TJ8 k).2.2.1 = some (tyJ8 k) := by decide +kernel
theorem nmJ3 : ∀ a, a < 0 → ∀ b, b < 0 → a ≠ b → (TJ3 a).2.1 ≠ (TJ3 b).2.1 := by decide +kernel
theorem tyJ3_ok : ∀ k, k < 0 → parseFieldDescriptor (TJ3 k).2.2.1 = some (tyJ3 k) := by decide +kernel
theorem dX0_init_0 : decode cX0_init 0 = .ok (.aload_n 0, 1) := by decide +kernel
theorem dX0_init_1 : decode cX0_init 1 = .ok (.invokespecial 3, 3) := by decide +kernel
theorem dX0_init_4 : decode cX0_init 4 = .ok (.aload_n 0, 1) := by decide +kernel
theorem dX0_init_5 : decode cX0_init 5 = .ok (.iload_n 1, 1) := by decide +kernel
theorem dX0_init_6 : decode cX0_init 6 = .ok (.putfield 9, 3) := by decide +kernel
theorem dX0_init_9 : decode cX0_init 9 = .ok (.aload_n 0, 1) := by decide +kernel
theorem dX0_init_10 : decode cX0_init 10 = .ok (.aload_n 2, 1) := by decide +kernel
theorem dX0_init_11 : decode cX0_init 11 = .ok (.putfield 15, 3) := by decide +kernel
theorem dX0_init_14 : decode cX0_init 14 = .ok (.aload_n 0, 1) := by decide +kernel
theorem dX0_init_15 : decode cX0_init 15 = .ok (.iload_n 3, 1) := by decide +kernel
theorem dX0_init_16 : decode cX0_init 16 = .ok (.putfield 19, 3) := by decide +kernel
theorem dX0_init_19 : decode cX0_init 19 = .ok (.aload_n 0, 1) := by decide +kernel
theorem dX0_init_20 : decode cX0_init 20 = .ok (.iload 4, 2) := by decide +kernel
theorem dX0_init_22 : decode cX0_init 22 = .ok (.putfield 22, 3) := by decide +kernel
theorem dX0_init_25 : decode cX0_init 25 = .ok (.aload_n 0, 1) := by decide +kernel
theorem dX0_init_26 : decode cX0_init 26 = .ok (.iconst 1, 1) := by decide +kernel
theorem dX0_init_27 : decode cX0_init 27 = .ok (.putfield 25, 3) := by decide +kernel
theorem dX0_init_30 : decode cX0_init 30 = .ok (.aload_n 0, 1) := by decide +kernel
theorem dX0_init_31 : decode cX0_init 31 = .ok (.iconst 0, 1) := by decide +kernel
theorem dX0_init_32 : decode cX0_init 32 = .ok (.putfield 28, 3) := by decide +kernel
theorem dX0_init_35 : decode cX0_init 35 = .ok (.aload_n 0, 1) := by decide +kernel
theorem dX0_init_36 : decode cX0_init 36 = .ok (.iload 4, 2) := by decide +kernel
theorem dX0_init_38 : decode cX0_init 38 = .ok (.putfield 31, 3) := by decide +kernel
theorem dX0_init_41 : decode cX0_init 41 = .ok (.aload_n 0, 1) := by decide +kernel
theorem dX0_init_42 : decode cX0_init 42 = .ok (.iconst 0, 1) := by decide +kernel
theorem dX0_init_43 : decode cX0_init 43 = .ok (.putfield 34, 3) := by decide +kernel
theorem dX0_init_46 : decode cX0_init 46 = .ok (.aload_n 0, 1) := by decide +kernel
theorem dX0_init_47 : decode cX0_init 47 = .ok (.iconst 0, 1) := by decide +kernel
theorem dX0_init_48 : decode cX0_init 48 = .ok (.putfield 37, 3) := by decide +kernel
theorem dX0_init_51 : decode cX0_init 51 = .ok (.return_, 1) := by decide +kernel
set_option maxRecDepth 20000 in
theorem ggX0_comeTo_X3_lineUp : GoodIn wsX0_comeTo wsX3_lineUp := goodIn_r _ [7, 8, 9, 10, 11, 12, 13, 14, 15, 16, 17, 18, 19, 20, 21, 22, 23, 24, 25, 26, 27, 28, 29, 30, 31, 32, 33, 34, 35, 36, 37, 38, 39, 40, 41, 42, 43, 44, 45, 46, 47, 48, 49, 50, 51, 52, 53, 54, 55, 56, 57, 58, 59, 60, 61, 62, 63, 64, 65, 66, 67, 68, 69, 70, 71, 72, 73, 74, 75, 76, 77, 78, 79, 80, 81, 82, 83, 84, 85, 86, 96, 97, 98, 99, 100, 101, 102, 103, 104, 105, 87, 88, 89, 90, 91, 92, 93, 94, 95, 106, 107, 108] (by decide +kernel) (by decide +kernel)
set_option maxRecDepth 20000 in
theorem gX0_comeTo_X3_lineUp_n43 : GoodIn wsX0_comeTo (wsX3_lineUp) := ggX0_comeTo_X3_lineUp
theorem dX0_comeTo_0 : decode cX0_comeTo 0 = .ok (.aload_n 0, 1) := by decide +kernel
theorem dX0_comeTo_1 : decode cX0_comeTo 1 = .ok (.iconst 1, 1) := by decide +kernel
theorem dX0_comeTo_2 : decode cX0_comeTo 2 = .ok (.putfield 25, 3) := by decide +kernel
theorem dX0_comeTo_5 : decode cX0_comeTo 5 = .ok (.aload_n 0, 1) := by decide +kernel
theorem dX0_comeTo_6 : decode cX0_comeTo 6 = .ok (.aload_n 1, 1) := by decide +kernel
theorem dX0_comeTo_7 : decode cX0_comeTo 7 = .ok (.getfield 40, 3) := by decide +kernel
theorem dX0_comeTo_10 : decode cX0_comeTo 10 = .ok (.putfield 28, 3) := by decide +kernel
theorem dX0_comeTo_13 : decode cX0_comeTo 13 = .ok (.aload_n 0, 1) := by decide +kernel
theorem dX0_comeTo_14 : decode cX0_comeTo 14 = .ok (.iload_n 2, 1) := by decide +kernel
theorem dX0_comeTo_15 : decode cX0_comeTo 15 = .ok (.putfield 31, 3) := by decide +kernel
theorem dX0_comeTo_18 : decode cX0_comeTo 18 = .ok (.aload_n 1, 1) := by decide +kernel
theorem dX0_comeTo_19 : decode cX0_comeTo 19 = .ok (.aload_n 0, 1) := by decide +kernel
theorem dX0_comeTo_20 : decode cX0_comeTo 20 = .ok (.invokevirtual 43, 3) := by decide +kernel
theorem dX0_comeTo_23 : decode cX0_comeTo 23 = .ok (.return_, 1) := by decide +kernel
set_option maxRecDepth 20000 in
theorem ggX0_enter_Jx4a65c_add_9ea2d : GoodIn wsX0_enter wsJx4a65c_add_9ea2d := goodIn_r _ [10, 11, 12, 13, 14, 15, 16, 17, 9, 18, 19, 20, 21, 22, 23, 24, 25, 26, 27, 28, 29, 30, 31, 32, 33, 34, 35, 36, 37, 38, 39, 40, 41, 42, 43, 44, 45, 46, 47, 48, 49, 50, 51, 52, 53, 54, 55, 56, 57, 58, 59, 60, 61, 82, 83, 84] (by decide +kernel) (by decide +kernel)
set_option maxRecDepth 20000 in
theorem gX0_enter_Jx4a65c_add_9ea2d : GoodIn wsX0_enter (wsV RX0 57 RJx4a65c yJx4a65c_add_9ea2d wsJx4a65c_add_9ea2d) := goodIn_app (goodIn_of _ (by decide +kernel)) ggX0_enter_Jx4a65c_add_9ea2d
theorem dX0_enter_0 : decode cX0_enter 0 = .ok (.aload_n 0, 1) := by decide +kernel
theorem dX0_enter_1 : decode cX0_enter 1 = .ok (.iconst 2, 1) := by decide +kernel
theorem dX0_enter_2 : decode cX0_enter 2 = .ok (.putfield 25, 3) := by decide +kernel
theorem dX0_enter_5 : decode cX0_enter 5 = .ok (.aload_n 0, 1) := by decide +kernel
theorem dX0_enter_6 : decode cX0_enter 6 = .ok (.aload_n 1, 1) := by decide +kernel
theorem dX0_enter_7 : decode cX0_enter 7 = .ok (.getfield 47, 3) := by decide +kernel
theorem dX0_enter_10 : decode cX0_enter 10 = .ok (.putfield 28, 3) := by decide +kernel
theorem dX0_enter_13 : decode cX0_enter 13 = .ok (.aload_n 0, 1) := by decide +kernel
theorem dX0_enter_14 : decode cX0_enter 14 = .ok (.iload_n 2, 1) := by decide +kernel
theorem dX0_enter_15 : decode cX0_enter 15 = .ok (.putfield 31, 3) := by decide +kernel
theorem dX0_enter_18 : decode cX0_enter 18 = .ok (.aload_n 0, 1) := by decide +kernel
theorem dX0_enter_19 : decode cX0_enter 19 = .ok (.aload_n 1, 1) := by decide +kernel
theorem dX0_enter_20 : decode cX0_enter 20 = .ok (.getfield 50, 3) := by decide +kernel
theorem dX0_enter_23 : decode cX0_enter 23 = .ok (.putfield 34, 3) := by decide +kernel
theorem dX0_enter_26 : decode cX0_enter 26 = .ok (.aload_n 0, 1) := by decide +kernel
theorem dX0_enter_27 : decode cX0_enter 27 = .ok (.dup, 1) := by decide +kernel
theorem dX0_enter_28 : decode cX0_enter 28 = .ok (.getfield 37, 3) := by decide +kernel
theorem dX0_enter_31 : decode cX0_enter 31 = .ok (.iconst 1, 1) := by decide +kernel
theorem dX0_enter_32 : decode cX0_enter 32 = .ok (.iadd, 1) := by decide +kernel
theorem dX0_enter_33 : decode cX0_enter 33 = .ok (.putfield 37, 3) := by decide +kernel
theorem dX0_enter_36 : decode cX0_enter 36 = .ok (.aload_n 1, 1) := by decide +kernel
theorem dX0_enter_37 : decode cX0_enter 37 = .ok (.getfield 53, 3) := by decide +kernel
theorem dX0_enter_40 : decode cX0_enter 40 = .ok (.aload_n 0, 1) := by decide +kernel
theorem dX0_enter_41 : decode cX0_enter 41 = .ok (.invokevirtual 57, 3) := by decide +kernel
theorem dX0_enter_44 : decode cX0_enter 44 = .ok (.pop, 1) := by decide +kernel
theorem dX0_enter_45 : decode cX0_enter 45 = .ok (.aload_n 1, 1) := by decide +kernel
theorem dX0_enter_46 : decode cX0_enter 46 = .ok (.dup, 1) := by decide +kernel
theorem dX0_enter_47 : decode cX0_enter 47 = .ok (.getfield 63, 3) := by decide +kernel
theorem dX0_enter_50 : decode cX0_enter 50 = .ok (.iconst 1, 1) := by decide +kernel
theorem dX0_enter_51 : decode cX0_enter 51 = .ok (.iadd, 1) := by decide +kernel
theorem dX0_enter_52 : decode cX0_enter 52 = .ok (.putfield 63, 3) := by decide +kernel
theorem dX0_enter_55 : decode cX0_enter 55 = .ok (.aload_n 1, 1) := by decide +kernel
theorem dX0_enter_56 : decode cX0_enter 56 = .ok (.iload_n 2, 1) := by decide +kernel
theorem dX0_enter_57 : decode cX0_enter 57 = .ok (.putfield 66, 3) := by decide +kernel
theorem dX0_enter_60 : decode cX0_enter 60 = .ok (.return_, 1) := by decide +kernel
set_option maxRecDepth 20000 in
theorem ggX2_init_Jx4a65c_init_da8c8 : GoodIn wsX2_init wsJx4a65c_init_da8c8 := goodIn_r _ [11, 12, 13, 14, 15, 16, 17, 18, 19, 20, 21, 22, 23, 2, 3, 24, 25, 26] (by decide +kernel) (by decide +kernel)
set_option maxRecDepth 20000 in
theorem gX2_init_Jx4a65c_init_da8c8 : GoodIn wsX2_init (wsJx4a65c_init_da8c8) := ggX2_init_Jx4a65c_init_da8c8
theorem dX2_init_0 : decode cX2_init 0 = .ok (.aload_n 0, 1) := by decide +kernel
theorem dX2_init_1 : decode cX2_init 1 = .ok (.invokespecial 3, 3) := by decide +kernel
theorem dX2_init_4 : decode cX2_init 4 = .ok (.aload_n 0, 1) := by decide +kernel
theorem dX2_init_5 : decode cX2_init 5 = .ok (.new 9, 3) := by decide +kernel
theorem dX2_init_8 : decode cX2_init 8 = .ok (.dup, 1) := by decide +kernel
theorem dX2_init_9 : decode cX2_init 9 = .ok (.invokespecial 11, 3) := by decide +kernel
theorem dX2_init_12 : decode cX2_init 12 = .ok (.putfield 12, 3) := by decide +kernel
theorem dX2_init_15 : decode cX2_init 15 = .ok (.aload_n 0, 1) := by decide +kernel
theorem dX2_init_16 : decode cX2_init 16 = .ok (.new 9, 3) := by decide +kernel
theorem dX2_init_19 : decode cX2_init 19 = .ok (.dup, 1) := by decide +kernel
theorem dX2_init_20 : decode cX2_init 20 = .ok (.invokespecial 11, 3) := by decide +kernel
theorem dX2_init_23 : decode cX2_init 23 = .ok (.putfield 18, 3) := by decide +kernel
theorem dX2_init_26 : decode cX2_init 26 = .ok (.return_, 1) := by decide +kernel
set_option maxRecDepth 20000 in
theorem ggX2_build_Jx4a65c_size_8abf5 : GoodIn wsX2_build wsJx4a65c_size_8abf5 := goodIn_r _ [9, 10, 130, 131, 132] (by decide +kernel) (by decide +kernel)
set_option maxRecDepth 20000 in
theorem gX2_build_Jx4a65c_size_8abf5 : GoodIn wsX2_build (wsV RX2 23 RJx4a65c yJx4a65c_size_8abf5 wsJx4a65c_size_8abf5) := goodIn_app (goodIn_of _ (by decide +kernel)) ggX2_build_Jx4a65c_size_8abf5
set_option maxRecDepth 20000 in
theorem ggX2_build_X3_init : GoodIn wsX2_build wsX3_init := goodIn_r _ [12, 13, 14, 15, 16, 17, 18, 19, 20, 8, 21, 22, 23, 24, 25, 26, 27, 28, 29, 30, 31, 32, 33, 34, 35, 36, 37, 38, 39, 40, 41, 42, 43, 120, 121, 122, 123, 124, 125, 126, 127, 128, 129, 130, 131, 132] (by decide +kernel) (by decide +kernel)
set_option maxRecDepth 20000 in
theorem gX2_build_X3_init_n27 : GoodIn wsX2_build (wsX3_init) := ggX2_build_X3_init
set_option maxRecDepth 20000 in
theorem ggX2_build_Jx4a65c_add_9ea2d : GoodIn wsX2_build wsJx4a65c_add_9ea2d := goodIn_r _ [47, 48, 49, 33, 10, 50, 51, 52, 8, 53, 54, 55, 56, 57, 58, 59, 60, 61, 32, 62, 63, 64, 65, 66, 67, 68, 69, 70, 71, 72, 73, 74, 75, 76, 77, 78, 79, 80, 81, 82, 83, 84, 85, 86, 87, 88, 89, 90, 91, 92, 93, 94, 95, 130, 131, 132] (by decide +kernel) (by decide +kernel)
set_option maxRecDepth 20000 in
theorem gX2_build_Jx4a65c_add_9ea2d : GoodIn wsX2_build (wsV RX2 30 RJx4a65c yJx4a65c_add_9ea2d wsJx4a65c_add_9ea2d) := goodIn_app (goodIn_of _ (by decide +kernel)) ggX2_build_Jx4a65c_add_9ea2d
set_option maxRecDepth 20000 in
theorem ggX2_build_X2_forgetTimes : GoodIn wsX2_build wsX2_forgetTimes := goodIn_r _ [100, 1, 101, 5, 6, 7, 8, 9, 10, 102, 103, 104, 105, 106, 107, 108, 109, 110, 111, 112, 113, 114, 115, 116, 117, 33, 118, 119, 120, 121, 122, 123, 124, 125, 126, 127, 128, 129, 130, 131, 132] (by decide +kernel) (by decide +kernel)
set_option maxRecDepth 20000 in
theorem gX2_build_X2_forgetTimes : GoodIn wsX2_build (wsV RX2 34 RX2 yX2_forgetTimes wsX2_forgetTimes) := goodIn_app (goodIn_of _ (by decide +kernel)) ggX2_build_X2_forgetTimes
theorem dX2_build_0 : decode cX2_build 0 = .ok (.aload_n 0, 1) := by decide +kernel
theorem dX2_build_1 : decode cX2_build 1 = .ok (.getfield 12, 3) := by decide +kernel
theorem dX2_build_4 : decode cX2_build 4 = .ok (.new 21, 3) := by decide +kernel
theorem dX2_build_7 : decode cX2_build 7 = .ok (.dup, 1) := by decide +kernel
theorem dX2_build_8 : decode cX2_build 8 = .ok (.aload_n 0, 1) := by decide +kernel
theorem dX2_build_9 : decode cX2_build 9 = .ok (.getfield 12, 3) := by decide +kernel
theorem dX2_build_12 : decode cX2_build 12 = .ok (.invokevirtual 23, 3) := by decide +kernel
theorem dX2_build_15 : decode cX2_build 15 = .ok (.iload_n 1, 1) := by decide +kernel
theorem dX2_build_16 : decode cX2_build 16 = .ok (.iload_n 2, 1) := by decide +kernel
theorem dX2_build_17 : decode cX2_build 17 = .ok (.invokespecial 27, 3) := by decide +kernel
theorem dX2_build_20 : decode cX2_build 20 = .ok (.invokevirtual 30, 3) := by decide +kernel
theorem dX2_build_23 : decode cX2_build 23 = .ok (.pop, 1) := by decide +kernel
theorem dX2_build_24 : decode cX2_build 24 = .ok (.aload_n 0, 1) := by decide +kernel
theorem dX2_build_25 : decode cX2_build 25 = .ok (.invokevirtual 34, 3) := by decide +kernel
theorem dX2_build_28 : decode cX2_build 28 = .ok (.aload_n 0, 1) := by decide +kernel
theorem dX2_build_29 : decode cX2_build 29 = .ok (.getfield 12, 3) := by decide +kernel
theorem dX2_build_32 : decode cX2_build 32 = .ok (.invokevirtual 23, 3) := by decide +kernel
theorem dX2_build_35 : decode cX2_build 35 = .ok (.iconst 1, 1) := by decide +kernel
theorem dX2_build_36 : decode cX2_build 36 = .ok (.isub, 1) := by decide +kernel
theorem dX2_build_37 : decode cX2_build 37 = .ok (.ireturn, 1) := by decide +kernel
set_option maxRecDepth 20000 in
theorem ggX2_lay_Jx4a65c_size_8abf5 : GoodIn wsX2_lay wsJx4a65c_size_8abf5 := goodIn_r _ [9, 10, 146, 147, 148] (by decide +kernel) (by decide +kernel)
set_option maxRecDepth 20000 in
theorem gX2_lay_Jx4a65c_size_8abf5 : GoodIn wsX2_lay (wsV RX2 23 RJx4a65c yJx4a65c_size_8abf5 wsJx4a65c_size_8abf5) := goodIn_app (goodIn_of _ (by decide +kernel)) ggX2_lay_Jx4a65c_size_8abf5
set_option maxRecDepth 20000 in
theorem ggX2_lay_X4_init : GoodIn wsX2_lay wsX4_init := goodIn_r _ [12, 13, 14, 15, 16, 17, 18, 19, 20, 21, 22, 23, 24, 8, 25, 26, 27, 28, 29, 30, 3, 31, 32, 33, 34, 35, 36, 37, 38, 39, 40, 41, 42, 43, 44, 45, 46, 47, 123, 124, 125, 126, 127, 128, 129, 130, 131, 132, 133, 146, 147, 148] (by decide +kernel) (by decide +kernel)
set_option maxRecDepth 20000 in
theorem gX2_lay_X4_init_n39 : GoodIn wsX2_lay (wsX4_init) := ggX2_lay_X4_init
set_option maxRecDepth 20000 in
theorem ggX2_lay_Jx4a65c_add_9ea2d : GoodIn wsX2_lay wsJx4a65c_add_9ea2d := goodIn_r _ [51, 52, 53, 37, 10, 54, 55, 56, 8, 57, 58, 59, 60, 61, 62, 63, 64, 65, 36, 66, 67, 68, 69, 70, 71, 72, 73, 74, 75, 76, 77, 78, 79, 80, 81, 82, 83, 84, 85, 86, 87, 88, 89, 90, 91, 92, 93, 94, 95, 96, 97, 98, 99, 146, 147, 148] (by decide +kernel) (by decide +kernel)
set_option maxRecDepth 20000 in
theorem gX2_lay_Jx4a65c_add_9ea2d : GoodIn wsX2_lay (wsV RX2 30 RJx4a65c yJx4a65c_add_9ea2d wsJx4a65c_add_9ea2d) := goodIn_app (goodIn_of _ (by decide +kernel)) ggX2_lay_Jx4a65c_add_9ea2d
set_option maxRecDepth 20000 in
theorem ggX2_lay_X2_forgetTimes : GoodIn wsX2_lay wsX2_forgetTimes := goodIn_r _ [104, 105, 106, 5, 6, 7, 8, 9, 10, 107, 108, 109, 110, 111, 112, 113, 114, 115, 116, 117, 118, 119, 120, 121, 122, 37, 134, 135, 136, 137, 138, 139, 140, 141, 142, 143, 144, 145, 146, 147, 148] (by decide +kernel) (by decide +kernel)
set_option maxRecDepth 20000 in
theorem gX2_lay_X2_forgetTimes : GoodIn wsX2_lay (wsV RX2 34 RX2 yX2_forgetTimes wsX2_forgetTimes) := goodIn_app (goodIn_of _ (by decide +kernel)) ggX2_lay_X2_forgetTimes
theorem dX2_lay_0 : decode cX2_lay 0 = .ok (.new 37, 3) := by decide +kernel
theorem dX2_lay_3 : decode cX2_lay 3 = .ok (.dup, 1) := by decide +kernel
theorem dX2_lay_4 : decode cX2_lay 4 = .ok (.aload_n 0, 1) := by decide +kernel
theorem dX2_lay_5 : decode cX2_lay 5 = .ok (.getfield 18, 3) := by decide +kernel
theorem dX2_lay_8 : decode cX2_lay 8 = .ok (.invokevirtual 23, 3) := by decide +kernel
theorem dX2_lay_11 : decode cX2_lay 11 = .ok (.aload_n 1, 1) := by decide +kernel
theorem dX2_lay_12 : decode cX2_lay 12 = .ok (.aload_n 2, 1) := by decide +kernel
theorem dX2_lay_13 : decode cX2_lay 13 = .ok (.iload_n 3, 1) := by decide +kernel
theorem dX2_lay_14 : decode cX2_lay 14 = .ok (.iload 4, 2) := by decide +kernel
theorem dX2_lay_16 : decode cX2_lay 16 = .ok (.iload 5, 2) := by decide +kernel
theorem dX2_lay_18 : decode cX2_lay 18 = .ok (.invokespecial 39, 3) := by decide +kernel
theorem dX2_lay_21 : decode cX2_lay 21 = .ok (.astore 6, 2) := by decide +kernel
theorem dX2_lay_23 : decode cX2_lay 23 = .ok (.aload_n 0, 1) := by decide +kernel
theorem dX2_lay_24 : decode cX2_lay 24 = .ok (.getfield 18, 3) := by decide +kernel
theorem dX2_lay_27 : decode cX2_lay 27 = .ok (.aload 6, 2) := by decide +kernel
theorem dX2_lay_29 : decode cX2_lay 29 = .ok (.invokevirtual 30, 3) := by decide +kernel
theorem dX2_lay_32 : decode cX2_lay 32 = .ok (.pop, 1) := by decide +kernel
theorem dX2_lay_33 : decode cX2_lay 33 = .ok (.aload_n 1, 1) := by decide +kernel
theorem dX2_lay_34 : decode cX2_lay 34 = .ok (.getfield 42, 3) := by decide +kernel
theorem dX2_lay_37 : decode cX2_lay 37 = .ok (.aload 6, 2) := by decide +kernel
theorem dX2_lay_39 : decode cX2_lay 39 = .ok (.invokevirtual 30, 3) := by decide +kernel
theorem dX2_lay_42 : decode cX2_lay 42 = .ok (.pop, 1) := by decide +kernel
theorem dX2_lay_43 : decode cX2_lay 43 = .ok (.aload_n 0, 1) := by decide +kernel
theorem dX2_lay_44 : decode cX2_lay 44 = .ok (.invokevirtual 34, 3) := by decide +kernel
theorem dX2_lay_47 : decode cX2_lay 47 = .ok (.aload 6, 2) := by decide +kernel
theorem dX2_lay_49 : decode cX2_lay 49 = .ok (.getfield 45, 3) := by decide +kernel
theorem dX2_lay_52 : decode cX2_lay 52 = .ok (.ireturn, 1) := by decide +kernel
set_option maxRecDepth 20000 in
theorem ggX2_hasStation_Jx4a65c_size_8abf5 : GoodIn wsX2_hasStation wsJx4a65c_size_8abf5 := goodIn_r _ [6, 7, 10, 11, 12] (by decide +kernel) (by decide +kernel)
set_option maxRecDepth 20000 in
theorem gX2_hasStation_Jx4a65c_size_8abf5 : GoodIn wsX2_hasStation (wsV RX2 23 RJx4a65c yJx4a65c_size_8abf5 wsJx4a65c_size_8abf5) := goodIn_app (goodIn_of _ (by decide +kernel)) ggX2_hasStation_Jx4a65c_size_8abf5
theorem dX2_hasStation_0 : decode cX2_hasStation 0 = .ok (.iload_n 1, 1) := by decide +kernel
theorem dX2_hasStation_1 : decode cX2_hasStation 1 = .ok (.ifCond .lt 18, 3) := by decide +kernel
theorem dX2_hasStation_4 : decode cX2_hasStation 4 = .ok (.iload_n 1, 1) := by decide +kernel
theorem dX2_hasStation_5 : decode cX2_hasStation 5 = .ok (.aload_n 0, 1) := by decide +kernel
theorem dX2_hasStation_6 : decode cX2_hasStation 6 = .ok (.getfield 12, 3) := by decide +kernel
theorem dX2_hasStation_9 : decode cX2_hasStation 9 = .ok (.invokevirtual 23, 3) := by decide +kernel
theorem dX2_hasStation_12 : decode cX2_hasStation 12 = .ok (.if_icmp .ge 7, 3) := by decide +kernel
theorem dX2_hasStation_15 : decode cX2_hasStation 15 = .ok (.iconst 1, 1) := by decide +kernel
theorem dX2_hasStation_16 : decode cX2_hasStation 16 = .ok (.goto 4, 3) := by decide +kernel
theorem dX2_hasStation_19 : decode cX2_hasStation 19 = .ok (.iconst 0, 1) := by decide +kernel
theorem dX2_hasStation_20 : decode cX2_hasStation 20 = .ok (.ireturn, 1) := by decide +kernel
set_option maxRecDepth 20000 in
theorem ggX2_hasTube_Jx4a65c_size_8abf5 : GoodIn wsX2_hasTube wsJx4a65c_size_8abf5 := goodIn_r _ [6, 7, 10, 11, 12] (by decide +kernel) (by decide +kernel)
set_option maxRecDepth 20000 in
theorem gX2_hasTube_Jx4a65c_size_8abf5 : GoodIn wsX2_hasTube (wsV RX2 23 RJx4a65c yJx4a65c_size_8abf5 wsJx4a65c_size_8abf5) := goodIn_app (goodIn_of _ (by decide +kernel)) ggX2_hasTube_Jx4a65c_size_8abf5
theorem dX2_hasTube_0 : decode cX2_hasTube 0 = .ok (.iload_n 1, 1) := by decide +kernel
theorem dX2_hasTube_1 : decode cX2_hasTube 1 = .ok (.ifCond .lt 18, 3) := by decide +kernel
theorem dX2_hasTube_4 : decode cX2_hasTube 4 = .ok (.iload_n 1, 1) := by decide +kernel
theorem dX2_hasTube_5 : decode cX2_hasTube 5 = .ok (.aload_n 0, 1) := by decide +kernel
theorem dX2_hasTube_6 : decode cX2_hasTube 6 = .ok (.getfield 18, 3) := by decide +kernel
theorem dX2_hasTube_9 : decode cX2_hasTube 9 = .ok (.invokevirtual 23, 3) := by decide +kernel
theorem dX2_hasTube_12 : decode cX2_hasTube 12 = .ok (.if_icmp .ge 7, 3) := by decide +kernel
theorem dX2_hasTube_15 : decode cX2_hasTube 15 = .ok (.iconst 1, 1) := by decide +kernel
theorem dX2_hasTube_16 : decode cX2_hasTube 16 = .ok (.goto 4, 3) := by decide +kernel
theorem dX2_hasTube_19 : decode cX2_hasTube 19 = .ok (.iconst 0, 1) := by decide +kernel
theorem dX2_hasTube_20 : decode cX2_hasTube 20 = .ok (.ireturn, 1) := by decide +kernel
set_option maxRecDepth 20000 in
theorem ggX2_forgetTimes_Jx4a65c_size_8abf5 : GoodIn wsX2_forgetTimes wsJx4a65c_size_8abf5 := goodIn_r _ [7, 8, 38, 39, 40] (by decide +kernel) (by decide +kernel)
set_option maxRecDepth 20000 in
theorem gX2_forgetTimes_Jx4a65c_size_8abf5 : GoodIn wsX2_forgetTimes (wsV RX2 23 RJx4a65c yJx4a65c_size_8abf5 wsJx4a65c_size_8abf5) := goodIn_app (goodIn_of _ (by decide +kernel)) ggX2_forgetTimes_Jx4a65c_size_8abf5
set_option maxRecDepth 20000 in
theorem ggX2_forgetTimes_Jx4a65c_get_915e3 : GoodIn wsX2_forgetTimes wsJx4a65c_get_915e3 := goodIn_r _ [12, 8, 13, 14, 15, 16, 17, 18, 19, 20, 21, 22, 23, 6, 24, 25, 38, 39, 40] (by decide +kernel) (by decide +kernel)
set_option maxRecDepth 20000 in
theorem gX2_forgetTimes_Jx4a65c_get_915e3 : GoodIn wsX2_forgetTimes (wsV RX2 57 RJx4a65c yJx4a65c_get_915e3 wsJx4a65c_get_915e3) := goodIn_app (goodIn_of _ (by decide +kernel)) ggX2_forgetTimes_Jx4a65c_get_915e3
theorem dX2_forgetTimes_0 : decode cX2_forgetTimes 0 = .ok (.iconst 0, 1) := by decide +kernel
theorem dX2_forgetTimes_1 : decode cX2_forgetTimes 1 = .ok (.istore_n 1, 1) := by decide +kernel
theorem dX2_forgetTimes_2 : decode cX2_forgetTimes 2 = .ok (.iload_n 1, 1) := by decide +kernel
theorem dX2_forgetTimes_3 : decode cX2_forgetTimes 3 = .ok (.aload_n 0, 1) := by decide +kernel
theorem dX2_forgetTimes_4 : decode cX2_forgetTimes 4 = .ok (.getfield 12, 3) := by decide +kernel
theorem dX2_forgetTimes_7 : decode cX2_forgetTimes 7 = .ok (.invokevirtual 23, 3) := by decide +kernel
theorem dX2_forgetTimes_10 : decode cX2_forgetTimes 10 = .ok (.if_icmp .ge 24, 3) := by decide +kernel
theorem dX2_forgetTimes_13 : decode cX2_forgetTimes 13 = .ok (.aload_n 0, 1) := by decide +kernel
theorem dX2_forgetTimes_14 : decode cX2_forgetTimes 14 = .ok (.getfield 12, 3) := by decide +kernel
theorem dX2_forgetTimes_17 : decode cX2_forgetTimes 17 = .ok (.iload_n 1, 1) := by decide +kernel
theorem dX2_forgetTimes_18 : decode cX2_forgetTimes 18 = .ok (.invokevirtual 57, 3) := by decide +kernel
theorem dX2_forgetTimes_21 : decode cX2_forgetTimes 21 = .ok (.checkcast 21, 3) := by decide +kernel
theorem dX2_forgetTimes_24 : decode cX2_forgetTimes 24 = .ok (.iconst 0, 1) := by decide +kernel
theorem dX2_forgetTimes_25 : decode cX2_forgetTimes 25 = .ok (.putfield 61, 3) := by decide +kernel
theorem dX2_forgetTimes_28 : decode cX2_forgetTimes 28 = .ok (.iinc 1 1, 3) := by decide +kernel
theorem dX2_forgetTimes_31 : decode cX2_forgetTimes 31 = .ok (.goto (-29), 3) := by decide +kernel
theorem dX2_forgetTimes_34 : decode cX2_forgetTimes 34 = .ok (.return_, 1) := by decide +kernel
set_option maxRecDepth 20000 in
theorem ggX2_leastTime_X2_reckonTimesTo : GoodIn wsX2_leastTime wsX2_reckonTimesTo := goodIn_r _ [5, 6, 7, 8, 9, 10, 11, 12, 13, 14, 15, 16, 17, 18, 19, 20, 21, 22, 23, 24, 25, 26, 27, 28, 29, 30, 31, 32, 33, 34, 35, 36, 37, 38, 39, 40, 41, 42, 43, 44, 45, 46, 47, 48, 4, 49, 50, 51, 52, 53, 54, 55, 56, 57, 58, 59, 60, 61, 62, 63, 64, 65, 66, 67, 68, 69, 70, 71, 72, 73, 74, 75] (by decide +kernel) (by decide +kernel)
set_option maxRecDepth 20000 in
theorem gX2_leastTime_X2_reckonTimesTo : GoodIn wsX2_leastTime (wsV RX2 64 RX2 yX2_reckonTimesTo wsX2_reckonTimesTo) := goodIn_app (goodIn_of _ (by decide +kernel)) ggX2_leastTime_X2_reckonTimesTo
set_option maxRecDepth 20000 in
theorem ggX2_leastTime_X3_timeFrom : GoodIn wsX2_leastTime wsX3_timeFrom := goodIn_r _ [45, 18, 19, 46, 50, 51, 52, 53, 54, 55, 56, 57, 58, 59] (by decide +kernel) (by decide +kernel)
set_option maxRecDepth 20000 in
theorem gX2_leastTime_X3_timeFrom_n68 : GoodIn wsX2_leastTime (wsX3_timeFrom) := ggX2_leastTime_X3_timeFrom
theorem dX2_leastTime_0 : decode cX2_leastTime 0 = .ok (.aload_n 0, 1) := by decide +kernel
theorem dX2_leastTime_1 : decode cX2_leastTime 1 = .ok (.aload_n 2, 1) := by decide +kernel
theorem dX2_leastTime_2 : decode cX2_leastTime 2 = .ok (.invokevirtual 64, 3) := by decide +kernel
theorem dX2_leastTime_5 : decode cX2_leastTime 5 = .ok (.aload_n 2, 1) := by decide +kernel
theorem dX2_leastTime_6 : decode cX2_leastTime 6 = .ok (.aload_n 1, 1) := by decide +kernel
theorem dX2_leastTime_7 : decode cX2_leastTime 7 = .ok (.invokevirtual 68, 3) := by decide +kernel
theorem dX2_leastTime_10 : decode cX2_leastTime 10 = .ok (.ireturn, 1) := by decide +kernel
set_option maxRecDepth 20000 in
theorem ggX2_wayFor_X2_reckonTimesTo : GoodIn wsX2_wayFor wsX2_reckonTimesTo := goodIn_r _ [7, 1, 8, 9, 2, 10, 11, 12, 13, 14, 15, 16, 17, 18, 19, 20, 21, 22, 23, 24, 25, 26, 27, 28, 29, 30, 31, 32, 33, 34, 35, 36, 37, 38, 39, 40, 41, 42, 43, 44, 45, 46, 47, 48, 6, 49, 50, 51, 52, 53, 54, 55, 56, 57, 58, 59, 71, 72, 60, 61, 62, 63, 64, 65, 66, 67, 68, 69, 70, 73, 74, 75] (by decide +kernel) (by decide +kernel)
set_option maxRecDepth 20000 in
theorem gX2_wayFor_X2_reckonTimesTo : GoodIn wsX2_wayFor (wsV RX2 64 RX2 yX2_reckonTimesTo wsX2_reckonTimesTo) := goodIn_app (goodIn_of _ (by decide +kernel)) ggX2_wayFor_X2_reckonTimesTo
set_option maxRecDepth 20000 in
theorem ggX2_wayFor_Jx4a65c_size_8abf5 : GoodIn wsX2_wayFor wsJx4a65c_size_8abf5 := goodIn_r _ [24, 25, 73, 74, 75] (by decide +kernel) (by decide +kernel)
set_option maxRecDepth 20000 in
theorem gX2_wayFor_Jx4a65c_size_8abf5 : GoodIn wsX2_wayFor (wsV RX2 23 RJx4a65c yJx4a65c_size_8abf5 wsJx4a65c_size_8abf5) := goodIn_app (goodIn_of _ (by decide +kernel)) ggX2_wayFor_Jx4a65c_size_8abf5
set_option maxRecDepth 20000 in
theorem ggX2_wayFor_Jx4a65c_get_915e3 : GoodIn wsX2_wayFor wsJx4a65c_get_915e3 := goodIn_r _ [29, 25, 30, 31, 32, 33, 34, 35, 36, 37, 38, 39, 40, 23, 41, 42, 73, 74, 75] (by decide +kernel) (by decide +kernel)
set_option maxRecDepth 20000 in
theorem gX2_wayFor_Jx4a65c_get_915e3 : GoodIn wsX2_wayFor (wsV RX2 57 RJx4a65c yJx4a65c_get_915e3 wsJx4a65c_get_915e3) := goodIn_app (goodIn_of _ (by decide +kernel)) ggX2_wayFor_Jx4a65c_get_915e3
set_option maxRecDepth 20000 in
theorem ggX2_wayFor_X3_timeFrom : GoodIn wsX2_wayFor wsX3_timeFrom := goodIn_r _ [45, 18, 19, 46, 50, 51, 52, 53, 54, 55, 56, 57, 58, 59] (by decide +kernel) (by decide +kernel)
set_option maxRecDepth 20000 in
theorem gX2_wayFor_X3_timeFrom_n68 : GoodIn wsX2_wayFor (wsX3_timeFrom) := ggX2_wayFor_X3_timeFrom
set_option maxRecDepth 20000 in
theorem ggX2_wayFor_X2_timeBy : GoodIn wsX2_wayFor wsX2_timeBy := goodIn_r _ [49, 1, 60, 61, 62, 63, 64, 65, 66, 67, 68, 69, 70, 50, 51, 52, 53, 54, 55, 56, 57, 58, 59] (by decide +kernel) (by decide +kernel)
set_option maxRecDepth 20000 in
theorem gX2_wayFor_X2_timeBy : GoodIn wsX2_wayFor (va_wsS RX2 80 yX2_timeBy wsX2_timeBy) := goodIn_app (goodIn_of _ (by decide +kernel)) ggX2_wayFor_X2_timeBy
theorem dX2_wayFor_0 : decode cX2_wayFor 0 = .ok (.aload_n 1, 1) := by decide +kernel
theorem dX2_wayFor_1 : decode cX2_wayFor 1 = .ok (.aload_n 2, 1) := by decide +kernel
theorem dX2_wayFor_2 : decode cX2_wayFor 2 = .ok (.if_acmp .ne 5, 3) := by decide +kernel
theorem dX2_wayFor_5 : decode cX2_wayFor 5 = .ok (.iconst (-1), 1) := by decide +kernel
theorem dX2_wayFor_6 : decode cX2_wayFor 6 = .ok (.ireturn, 1) := by decide +kernel
theorem dX2_wayFor_7 : decode cX2_wayFor 7 = .ok (.aload_n 1, 1) := by decide +kernel
theorem dX2_wayFor_8 : decode cX2_wayFor 8 = .ok (.getfield 72, 3) := by decide +kernel
theorem dX2_wayFor_11 : decode cX2_wayFor 11 = .ok (.iconst (-1), 1) := by decide +kernel
theorem dX2_wayFor_12 : decode cX2_wayFor 12 = .ok (.if_icmp .eq 8, 3) := by decide +kernel
theorem dX2_wayFor_15 : decode cX2_wayFor 15 = .ok (.aload_n 1, 1) := by decide +kernel
theorem dX2_wayFor_16 : decode cX2_wayFor 16 = .ok (.getfield 72, 3) := by decide +kernel
theorem dX2_wayFor_19 : decode cX2_wayFor 19 = .ok (.ireturn, 1) := by decide +kernel
theorem dX2_wayFor_20 : decode cX2_wayFor 20 = .ok (.aload_n 0, 1) := by decide +kernel
theorem dX2_wayFor_21 : decode cX2_wayFor 21 = .ok (.aload_n 2, 1) := by decide +kernel
theorem dX2_wayFor_22 : decode cX2_wayFor 22 = .ok (.invokevirtual 64, 3) := by decide +kernel
theorem dX2_wayFor_25 : decode cX2_wayFor 25 = .ok (.iconst (-1), 1) := by decide +kernel
theorem dX2_wayFor_26 : decode cX2_wayFor 26 = .ok (.istore_n 3, 1) := by decide +kernel
theorem dX2_wayFor_27 : decode cX2_wayFor 27 = .ok (.ldc 75, 2) := by decide +kernel
theorem dX2_wayFor_29 : decode cX2_wayFor 29 = .ok (.istore 4, 2) := by decide +kernel
theorem dX2_wayFor_31 : decode cX2_wayFor 31 = .ok (.iconst 0, 1) := by decide +kernel
theorem dX2_wayFor_32 : decode cX2_wayFor 32 = .ok (.istore 5, 2) := by decide +kernel
theorem dX2_wayFor_34 : decode cX2_wayFor 34 = .ok (.iload 5, 2) := by decide +kernel
theorem dX2_wayFor_36 : decode cX2_wayFor 36 = .ok (.aload_n 1, 1) := by decide +kernel
theorem dX2_wayFor_37 : decode cX2_wayFor 37 = .ok (.getfield 42, 3) := by decide +kernel
theorem dX2_wayFor_40 : decode cX2_wayFor 40 = .ok (.invokevirtual 23, 3) := by decide +kernel
theorem dX2_wayFor_43 : decode cX2_wayFor 43 = .ok (.if_icmp .ge 54, 3) := by decide +kernel
theorem dX2_wayFor_46 : decode cX2_wayFor 46 = .ok (.aload_n 1, 1) := by decide +kernel
theorem dX2_wayFor_47 : decode cX2_wayFor 47 = .ok (.getfield 42, 3) := by decide +kernel
theorem dX2_wayFor_50 : decode cX2_wayFor 50 = .ok (.iload 5, 2) := by decide +kernel
theorem dX2_wayFor_52 : decode cX2_wayFor 52 = .ok (.invokevirtual 57, 3) := by decide +kernel
theorem dX2_wayFor_55 : decode cX2_wayFor 55 = .ok (.checkcast 37, 3) := by decide +kernel
theorem dX2_wayFor_58 : decode cX2_wayFor 58 = .ok (.astore 6, 2) := by decide +kernel
theorem dX2_wayFor_60 : decode cX2_wayFor 60 = .ok (.aload 6, 2) := by decide +kernel
theorem dX2_wayFor_62 : decode cX2_wayFor 62 = .ok (.aload_n 2, 1) := by decide +kernel
theorem dX2_wayFor_63 : decode cX2_wayFor 63 = .ok (.aload_n 2, 1) := by decide +kernel
theorem dX2_wayFor_64 : decode cX2_wayFor 64 = .ok (.aload 6, 2) := by decide +kernel
theorem dX2_wayFor_66 : decode cX2_wayFor 66 = .ok (.getfield 76, 3) := by decide +kernel
theorem dX2_wayFor_69 : decode cX2_wayFor 69 = .ok (.invokevirtual 68, 3) := by decide +kernel
theorem dX2_wayFor_72 : decode cX2_wayFor 72 = .ok (.invokestatic 80, 3) := by decide +kernel
theorem dX2_wayFor_75 : decode cX2_wayFor 75 = .ok (.istore 7, 2) := by decide +kernel
theorem dX2_wayFor_77 : decode cX2_wayFor 77 = .ok (.iload 7, 2) := by decide +kernel
theorem dX2_wayFor_79 : decode cX2_wayFor 79 = .ok (.iload 4, 2) := by decide +kernel
theorem dX2_wayFor_81 : decode cX2_wayFor 81 = .ok (.if_icmp .ge 10, 3) := by decide +kernel
theorem dX2_wayFor_84 : decode cX2_wayFor 84 = .ok (.iload 7, 2) := by decide +kernel
theorem dX2_wayFor_86 : decode cX2_wayFor 86 = .ok (.istore 4, 2) := by decide +kernel
theorem dX2_wayFor_88 : decode cX2_wayFor 88 = .ok (.iload 5, 2) := by decide +kernel
theorem dX2_wayFor_90 : decode cX2_wayFor 90 = .ok (.istore_n 3, 1) := by decide +kernel
theorem dX2_wayFor_91 : decode cX2_wayFor 91 = .ok (.iinc 5 1, 3) := by decide +kernel
theorem dX2_wayFor_94 : decode cX2_wayFor 94 = .ok (.goto (-60), 3) := by decide +kernel
theorem dX2_wayFor_97 : decode cX2_wayFor 97 = .ok (.iload_n 3, 1) := by decide +kernel
theorem dX2_wayFor_98 : decode cX2_wayFor 98 = .ok (.ireturn, 1) := by decide +kernel
set_option maxRecDepth 20000 in
theorem ggX2_reckonTimesTo_J7_fill_53178 : GoodIn wsX2_reckonTimesTo wsJ7_fill_53178 := goodIn_r _ [8] (by decide +kernel) (by decide +kernel)
set_option maxRecDepth 20000 in
theorem gX2_reckonTimesTo_J7_fill_53178 : GoodIn wsX2_reckonTimesTo (va_wsS RX2 88 yJ7_fill_53178 wsJ7_fill_53178) := goodIn_app (goodIn_of _ (by decide +kernel)) ggX2_reckonTimesTo_J7_fill_53178
set_option maxRecDepth 20000 in
theorem ggX2_reckonTimesTo_X3_keepTimeFrom : GoodIn wsX2_reckonTimesTo wsX3_keepTimeFrom := goodIn_r _ [12, 13, 14, 46, 47, 48, 49, 50, 51, 52, 53, 54, 55] (by decide +kernel) (by decide +kernel)
set_option maxRecDepth 20000 in
theorem gX2_reckonTimesTo_X3_keepTimeFrom_n94 : GoodIn wsX2_reckonTimesTo (wsX3_keepTimeFrom) := ggX2_reckonTimesTo_X3_keepTimeFrom
set_option maxRecDepth 20000 in
theorem ggX2_reckonTimesTo_Jx4a65c_size_8abf5 : GoodIn wsX2_reckonTimesTo wsJx4a65c_size_8abf5 := goodIn_r _ [19, 20, 69, 70, 71] (by decide +kernel) (by decide +kernel)
set_option maxRecDepth 20000 in
theorem gX2_reckonTimesTo_Jx4a65c_size_8abf5 : GoodIn wsX2_reckonTimesTo (wsV RX2 23 RJx4a65c yJx4a65c_size_8abf5 wsJx4a65c_size_8abf5) := goodIn_app (goodIn_of _ (by decide +kernel)) ggX2_reckonTimesTo_Jx4a65c_size_8abf5
set_option maxRecDepth 20000 in
theorem ggX2_reckonTimesTo_Jx4a65c_get_915e3 : GoodIn wsX2_reckonTimesTo wsJx4a65c_get_915e3 := goodIn_r _ [24, 20, 25, 26, 27, 28, 29, 30, 31, 32, 33, 34, 35, 18, 36, 37, 69, 70, 71] (by decide +kernel) (by decide +kernel)
set_option maxRecDepth 20000 in
theorem gX2_reckonTimesTo_Jx4a65c_get_915e3 : GoodIn wsX2_reckonTimesTo (wsV RX2 57 RJx4a65c yJx4a65c_get_915e3 wsJx4a65c_get_915e3) := goodIn_app (goodIn_of _ (by decide +kernel)) ggX2_reckonTimesTo_Jx4a65c_get_915e3
set_option maxRecDepth 20000 in
theorem ggX2_reckonTimesTo_X3_timeFrom : GoodIn wsX2_reckonTimesTo wsX3_timeFrom := goodIn_r _ [40, 13, 14, 41, 46, 47, 48, 49, 50, 51, 52, 53, 54, 55] (by decide +kernel) (by decide +kernel)
set_option maxRecDepth 20000 in
theorem gX2_reckonTimesTo_X3_timeFrom_n68 : GoodIn wsX2_reckonTimesTo (wsX3_timeFrom) := ggX2_reckonTimesTo_X3_timeFrom
set_option maxRecDepth 20000 in
theorem ggX2_reckonTimesTo_X2_timeBy : GoodIn wsX2_reckonTimesTo wsX2_timeBy := goodIn_r _ [45, 1, 58, 59, 60, 61, 62, 63, 64, 65, 66, 67, 68, 46, 47, 48, 49, 50, 51, 52, 53, 54, 55] (by decide +kernel) (by decide +kernel)
set_option maxRecDepth 20000 in
theorem gX2_reckonTimesTo_X2_timeBy : GoodIn wsX2_reckonTimesTo (va_wsS RX2 80 yX2_timeBy wsX2_timeBy) := goodIn_app (goodIn_of _ (by decide +kernel)) ggX2_reckonTimesTo_X2_timeBy
theorem dX2_reckonTimesTo_0 : decode cX2_reckonTimesTo 0 = .ok (.aload_n 1, 1) := by decide +kernel
theorem dX2_reckonTimesTo_1 : decode cX2_reckonTimesTo 1 = .ok (.getfield 61, 3) := by decide +kernel
theorem dX2_reckonTimesTo_4 : decode cX2_reckonTimesTo 4 = .ok (.ifCond .eq 4, 3) := by decide +kernel
theorem dX2_reckonTimesTo_7 : decode cX2_reckonTimesTo 7 = .ok (.return_, 1) := by decide +kernel
theorem dX2_reckonTimesTo_8 : decode cX2_reckonTimesTo 8 = .ok (.aload_n 1, 1) := by decide +kernel
theorem dX2_reckonTimesTo_9 : decode cX2_reckonTimesTo 9 = .ok (.getfield 84, 3) := by decide +kernel
theorem dX2_reckonTimesTo_12 : decode cX2_reckonTimesTo 12 = .ok (.ldc 75, 2) := by decide +kernel
theorem dX2_reckonTimesTo_14 : decode cX2_reckonTimesTo 14 = .ok (.invokestatic 88, 3) := by decide +kernel
theorem dX2_reckonTimesTo_17 : decode cX2_reckonTimesTo 17 = .ok (.aload_n 1, 1) := by decide +kernel
theorem dX2_reckonTimesTo_18 : decode cX2_reckonTimesTo 18 = .ok (.aload_n 1, 1) := by decide +kernel
theorem dX2_reckonTimesTo_19 : decode cX2_reckonTimesTo 19 = .ok (.iconst 0, 1) := by decide +kernel
theorem dX2_reckonTimesTo_20 : decode cX2_reckonTimesTo 20 = .ok (.invokevirtual 94, 3) := by decide +kernel
theorem dX2_reckonTimesTo_23 : decode cX2_reckonTimesTo 23 = .ok (.iconst 1, 1) := by decide +kernel
theorem dX2_reckonTimesTo_24 : decode cX2_reckonTimesTo 24 = .ok (.istore_n 2, 1) := by decide +kernel
theorem dX2_reckonTimesTo_25 : decode cX2_reckonTimesTo 25 = .ok (.iconst 0, 1) := by decide +kernel
theorem dX2_reckonTimesTo_26 : decode cX2_reckonTimesTo 26 = .ok (.istore_n 3, 1) := by decide +kernel
theorem dX2_reckonTimesTo_27 : decode cX2_reckonTimesTo 27 = .ok (.iload_n 2, 1) := by decide +kernel
theorem dX2_reckonTimesTo_28 : decode cX2_reckonTimesTo 28 = .ok (.ifCond .eq 101, 3) := by decide +kernel
theorem dX2_reckonTimesTo_31 : decode cX2_reckonTimesTo 31 = .ok (.iload_n 3, 1) := by decide +kernel
theorem dX2_reckonTimesTo_32 : decode cX2_reckonTimesTo 32 = .ok (.aload_n 0, 1) := by decide +kernel
theorem dX2_reckonTimesTo_33 : decode cX2_reckonTimesTo 33 = .ok (.getfield 12, 3) := by decide +kernel
theorem dX2_reckonTimesTo_36 : decode cX2_reckonTimesTo 36 = .ok (.invokevirtual 23, 3) := by decide +kernel
theorem dX2_reckonTimesTo_39 : decode cX2_reckonTimesTo 39 = .ok (.if_icmp .ge 90, 3) := by decide +kernel
theorem dX2_reckonTimesTo_42 : decode cX2_reckonTimesTo 42 = .ok (.iconst 0, 1) := by decide +kernel
theorem dX2_reckonTimesTo_43 : decode cX2_reckonTimesTo 43 = .ok (.istore_n 2, 1) := by decide +kernel
theorem dX2_reckonTimesTo_44 : decode cX2_reckonTimesTo 44 = .ok (.iconst 0, 1) := by decide +kernel
theorem dX2_reckonTimesTo_45 : decode cX2_reckonTimesTo 45 = .ok (.istore 4, 2) := by decide +kernel
theorem dX2_reckonTimesTo_47 : decode cX2_reckonTimesTo 47 = .ok (.iload 4, 2) := by decide +kernel
theorem dX2_reckonTimesTo_49 : decode cX2_reckonTimesTo 49 = .ok (.aload_n 0, 1) := by decide +kernel
theorem dX2_reckonTimesTo_50 : decode cX2_reckonTimesTo 50 = .ok (.getfield 18, 3) := by decide +kernel
theorem dX2_reckonTimesTo_53 : decode cX2_reckonTimesTo 53 = .ok (.invokevirtual 23, 3) := by decide +kernel
theorem dX2_reckonTimesTo_56 : decode cX2_reckonTimesTo 56 = .ok (.if_icmp .ge 67, 3) := by decide +kernel
theorem dX2_reckonTimesTo_59 : decode cX2_reckonTimesTo 59 = .ok (.aload_n 0, 1) := by decide +kernel
theorem dX2_reckonTimesTo_60 : decode cX2_reckonTimesTo 60 = .ok (.getfield 18, 3) := by decide +kernel
theorem dX2_reckonTimesTo_63 : decode cX2_reckonTimesTo 63 = .ok (.iload 4, 2) := by decide +kernel
theorem dX2_reckonTimesTo_65 : decode cX2_reckonTimesTo 65 = .ok (.invokevirtual 57, 3) := by decide +kernel
theorem dX2_reckonTimesTo_68 : decode cX2_reckonTimesTo 68 = .ok (.checkcast 37, 3) := by decide +kernel
theorem dX2_reckonTimesTo_71 : decode cX2_reckonTimesTo 71 = .ok (.astore 5, 2) := by decide +kernel
theorem dX2_reckonTimesTo_73 : decode cX2_reckonTimesTo 73 = .ok (.aload 5, 2) := by decide +kernel
theorem dX2_reckonTimesTo_75 : decode cX2_reckonTimesTo 75 = .ok (.aload_n 1, 1) := by decide +kernel
theorem dX2_reckonTimesTo_76 : decode cX2_reckonTimesTo 76 = .ok (.aload_n 1, 1) := by decide +kernel
theorem dX2_reckonTimesTo_77 : decode cX2_reckonTimesTo 77 = .ok (.aload 5, 2) := by decide +kernel
theorem dX2_reckonTimesTo_79 : decode cX2_reckonTimesTo 79 = .ok (.getfield 76, 3) := by decide +kernel
theorem dX2_reckonTimesTo_82 : decode cX2_reckonTimesTo 82 = .ok (.invokevirtual 68, 3) := by decide +kernel
theorem dX2_reckonTimesTo_85 : decode cX2_reckonTimesTo 85 = .ok (.invokestatic 80, 3) := by decide +kernel
theorem dX2_reckonTimesTo_88 : decode cX2_reckonTimesTo 88 = .ok (.istore 6, 2) := by decide +kernel
theorem dX2_reckonTimesTo_90 : decode cX2_reckonTimesTo 90 = .ok (.iload 6, 2) := by decide +kernel
theorem dX2_reckonTimesTo_92 : decode cX2_reckonTimesTo 92 = .ok (.aload_n 1, 1) := by decide +kernel
theorem dX2_reckonTimesTo_93 : decode cX2_reckonTimesTo 93 = .ok (.aload 5, 2) := by decide +kernel
theorem dX2_reckonTimesTo_95 : decode cX2_reckonTimesTo 95 = .ok (.getfield 98, 3) := by decide +kernel
theorem dX2_reckonTimesTo_98 : decode cX2_reckonTimesTo 98 = .ok (.invokevirtual 68, 3) := by decide +kernel
theorem dX2_reckonTimesTo_101 : decode cX2_reckonTimesTo 101 = .ok (.if_icmp .ge 16, 3) := by decide +kernel
theorem dX2_reckonTimesTo_104 : decode cX2_reckonTimesTo 104 = .ok (.aload_n 1, 1) := by decide +kernel
theorem dX2_reckonTimesTo_105 : decode cX2_reckonTimesTo 105 = .ok (.aload 5, 2) := by decide +kernel
theorem dX2_reckonTimesTo_107 : decode cX2_reckonTimesTo 107 = .ok (.getfield 98, 3) := by decide +kernel
theorem dX2_reckonTimesTo_110 : decode cX2_reckonTimesTo 110 = .ok (.iload 6, 2) := by decide +kernel
theorem dX2_reckonTimesTo_112 : decode cX2_reckonTimesTo 112 = .ok (.invokevirtual 94, 3) := by decide +kernel
theorem dX2_reckonTimesTo_115 : decode cX2_reckonTimesTo 115 = .ok (.iconst 1, 1) := by decide +kernel
theorem dX2_reckonTimesTo_116 : decode cX2_reckonTimesTo 116 = .ok (.istore_n 2, 1) := by decide +kernel
theorem dX2_reckonTimesTo_117 : decode cX2_reckonTimesTo 117 = .ok (.iinc 4 1, 3) := by decide +kernel
theorem dX2_reckonTimesTo_120 : decode cX2_reckonTimesTo 120 = .ok (.goto (-73), 3) := by decide +kernel
theorem dX2_reckonTimesTo_123 : decode cX2_reckonTimesTo 123 = .ok (.iinc 3 1, 3) := by decide +kernel
theorem dX2_reckonTimesTo_126 : decode cX2_reckonTimesTo 126 = .ok (.goto (-99), 3) := by decide +kernel
theorem dX2_reckonTimesTo_129 : decode cX2_reckonTimesTo 129 = .ok (.aload_n 1, 1) := by decide +kernel
theorem dX2_reckonTimesTo_130 : decode cX2_reckonTimesTo 130 = .ok (.iconst 1, 1) := by decide +kernel
theorem dX2_reckonTimesTo_131 : decode cX2_reckonTimesTo 131 = .ok (.putfield 61, 3) := by decide +kernel
theorem dX2_reckonTimesTo_134 : decode cX2_reckonTimesTo 134 = .ok (.return_, 1) := by decide +kernel
theorem dX2_timeBy_0 : decode cX2_timeBy 0 = .ok (.aload_n 0, 1) := by decide +kernel
theorem dX2_timeBy_1 : decode cX2_timeBy 1 = .ok (.getfield 53, 3) := by decide +kernel
theorem dX2_timeBy_4 : decode cX2_timeBy 4 = .ok (.ifCond .eq 9, 3) := by decide +kernel
theorem dX2_timeBy_7 : decode cX2_timeBy 7 = .ok (.iload_n 2, 1) := by decide +kernel
theorem dX2_timeBy_8 : decode cX2_timeBy 8 = .ok (.ldc 75, 2) := by decide +kernel
theorem dX2_timeBy_10 : decode cX2_timeBy 10 = .ok (.if_icmp .ne 6, 3) := by decide +kernel
theorem dX2_timeBy_13 : decode cX2_timeBy 13 = .ok (.ldc 75, 2) := by decide +kernel
theorem dX2_timeBy_15 : decode cX2_timeBy 15 = .ok (.ireturn, 1) := by decide +kernel
theorem dX2_timeBy_16 : decode cX2_timeBy 16 = .ok (.aload_n 0, 1) := by decide +kernel
theorem dX2_timeBy_17 : decode cX2_timeBy 17 = .ok (.getfield 76, 3) := by decide +kernel
theorem dX2_timeBy_20 : decode cX2_timeBy 20 = .ok (.aload_n 1, 1) := by decide +kernel
theorem dX2_timeBy_21 : decode cX2_timeBy 21 = .ok (.if_acmp .ne 7, 3) := by decide +kernel
theorem dX2_timeBy_24 : decode cX2_timeBy 24 = .ok (.iconst 0, 1) := by decide +kernel
theorem dX2_timeBy_25 : decode cX2_timeBy 25 = .ok (.goto 10, 3) := by decide +kernel
theorem dX2_timeBy_28 : decode cX2_timeBy 28 = .ok (.aload_n 0, 1) := by decide +kernel
theorem dX2_timeBy_29 : decode cX2_timeBy 29 = .ok (.getfield 76, 3) := by decide +kernel
theorem dX2_timeBy_32 : decode cX2_timeBy 32 = .ok (.getfield 101, 3) := by decide +kernel
theorem dX2_timeBy_35 : decode cX2_timeBy 35 = .ok (.istore_n 3, 1) := by decide +kernel
theorem dX2_timeBy_36 : decode cX2_timeBy 36 = .ok (.aload_n 0, 1) := by decide +kernel
theorem dX2_timeBy_37 : decode cX2_timeBy 37 = .ok (.getfield 104, 3) := by decide +kernel
theorem dX2_timeBy_40 : decode cX2_timeBy 40 = .ok (.iload_n 3, 1) := by decide +kernel
theorem dX2_timeBy_41 : decode cX2_timeBy 41 = .ok (.iadd, 1) := by decide +kernel
theorem dX2_timeBy_42 : decode cX2_timeBy 42 = .ok (.iload_n 2, 1) := by decide +kernel
theorem dX2_timeBy_43 : decode cX2_timeBy 43 = .ok (.iadd, 1) := by decide +kernel
theorem dX2_timeBy_44 : decode cX2_timeBy 44 = .ok (.ireturn, 1) := by decide +kernel
set_option maxRecDepth 20000 in
theorem ggX3_init_Jx4a65c_init_da8c8 : GoodIn wsX3_init wsJx4a65c_init_da8c8 := goodIn_r _ [20, 21, 22, 23, 24, 25, 26, 27, 28, 29, 30, 31, 32, 2, 3, 43, 44, 45] (by decide +kernel) (by decide +kernel)
set_option maxRecDepth 20000 in
theorem gX3_init_Jx4a65c_init_da8c8 : GoodIn wsX3_init (wsJx4a65c_init_da8c8) := ggX3_init_Jx4a65c_init_da8c8
theorem dX3_init_0 : decode cX3_init 0 = .ok (.aload_n 0, 1) := by decide +kernel
theorem dX3_init_1 : decode cX3_init 1 = .ok (.invokespecial 3, 3) := by decide +kernel
theorem dX3_init_4 : decode cX3_init 4 = .ok (.aload_n 0, 1) := by decide +kernel
theorem dX3_init_5 : decode cX3_init 5 = .ok (.iload_n 1, 1) := by decide +kernel
theorem dX3_init_6 : decode cX3_init 6 = .ok (.putfield 9, 3) := by decide +kernel
theorem dX3_init_9 : decode cX3_init 9 = .ok (.aload_n 0, 1) := by decide +kernel
theorem dX3_init_10 : decode cX3_init 10 = .ok (.iload_n 2, 1) := by decide +kernel
theorem dX3_init_11 : decode cX3_init 11 = .ok (.putfield 15, 3) := by decide +kernel
theorem dX3_init_14 : decode cX3_init 14 = .ok (.aload_n 0, 1) := by decide +kernel
theorem dX3_init_15 : decode cX3_init 15 = .ok (.iload_n 3, 1) := by decide +kernel
theorem dX3_init_16 : decode cX3_init 16 = .ok (.putfield 18, 3) := by decide +kernel
theorem dX3_init_19 : decode cX3_init 19 = .ok (.aload_n 0, 1) := by decide +kernel
theorem dX3_init_20 : decode cX3_init 20 = .ok (.new 21, 3) := by decide +kernel
theorem dX3_init_23 : decode cX3_init 23 = .ok (.dup, 1) := by decide +kernel
theorem dX3_init_24 : decode cX3_init 24 = .ok (.invokespecial 23, 3) := by decide +kernel
theorem dX3_init_27 : decode cX3_init 27 = .ok (.putfield 24, 3) := by decide +kernel
theorem dX3_init_30 : decode cX3_init 30 = .ok (.aload_n 0, 1) := by decide +kernel
theorem dX3_init_31 : decode cX3_init 31 = .ok (.new 21, 3) := by decide +kernel
theorem dX3_init_34 : decode cX3_init 34 = .ok (.dup, 1) := by decide +kernel
theorem dX3_init_35 : decode cX3_init 35 = .ok (.invokespecial 23, 3) := by decide +kernel
theorem dX3_init_38 : decode cX3_init 38 = .ok (.putfield 28, 3) := by decide +kernel
theorem dX3_init_41 : decode cX3_init 41 = .ok (.aload_n 0, 1) := by decide +kernel
theorem dX3_init_42 : decode cX3_init 42 = .ok (.bipush 14, 2) := by decide +kernel
theorem dX3_init_44 : decode cX3_init 44 = .ok (.newarray .int, 2) := by decide +kernel
theorem dX3_init_46 : decode cX3_init 46 = .ok (.putfield 31, 3) := by decide +kernel
theorem dX3_init_49 : decode cX3_init 49 = .ok (.aload_n 0, 1) := by decide +kernel
theorem dX3_init_50 : decode cX3_init 50 = .ok (.iconst 0, 1) := by decide +kernel
theorem dX3_init_51 : decode cX3_init 51 = .ok (.putfield 35, 3) := by decide +kernel
theorem dX3_init_54 : decode cX3_init 54 = .ok (.aload_n 0, 1) := by decide +kernel
theorem dX3_init_55 : decode cX3_init 55 = .ok (.iconst 0, 1) := by decide +kernel
theorem dX3_init_56 : decode cX3_init 56 = .ok (.putfield 39, 3) := by decide +kernel
theorem dX3_init_59 : decode cX3_init 59 = .ok (.aload_n 0, 1) := by decide +kernel
theorem dX3_init_60 : decode cX3_init 60 = .ok (.iconst (-1), 1) := by decide +kernel
theorem dX3_init_61 : decode cX3_init 61 = .ok (.putfield 42, 3) := by decide +kernel
theorem dX3_init_64 : decode cX3_init 64 = .ok (.aload_n 0, 1) := by decide +kernel
theorem dX3_init_65 : decode cX3_init 65 = .ok (.iconst 0, 1) := by decide +kernel
theorem dX3_init_66 : decode cX3_init 66 = .ok (.putfield 45, 3) := by decide +kernel
theorem dX3_init_69 : decode cX3_init 69 = .ok (.return_, 1) := by decide +kernel
set_option maxRecDepth 20000 in
theorem ggX3_hasRoom_Jx4a65c_size_8abf5 : GoodIn wsX3_hasRoom wsJx4a65c_size_8abf5 := goodIn_r _ [7, 8, 19, 20, 21] (by decide +kernel) (by decide +kernel)
set_option maxRecDepth 20000 in
theorem gX3_hasRoom_Jx4a65c_size_8abf5 : GoodIn wsX3_hasRoom (wsV RX3 48 RJx4a65c yJx4a65c_size_8abf5 wsJx4a65c_size_8abf5) := goodIn_app (goodIn_of _ (by decide +kernel)) ggX3_hasRoom_Jx4a65c_size_8abf5
theorem dX3_hasRoom_0 : decode cX3_hasRoom 0 = .ok (.aload_n 0, 1) := by decide +kernel
theorem dX3_hasRoom_1 : decode cX3_hasRoom 1 = .ok (.getfield 28, 3) := by decide +kernel
theorem dX3_hasRoom_4 : decode cX3_hasRoom 4 = .ok (.invokevirtual 48, 3) := by decide +kernel
theorem dX3_hasRoom_7 : decode cX3_hasRoom 7 = .ok (.aload_n 0, 1) := by decide +kernel
theorem dX3_hasRoom_8 : decode cX3_hasRoom 8 = .ok (.getfield 15, 3) := by decide +kernel
theorem dX3_hasRoom_11 : decode cX3_hasRoom 11 = .ok (.if_icmp .ge 7, 3) := by decide +kernel
theorem dX3_hasRoom_14 : decode cX3_hasRoom 14 = .ok (.iconst 1, 1) := by decide +kernel
theorem dX3_hasRoom_15 : decode cX3_hasRoom 15 = .ok (.goto 4, 3) := by decide +kernel
theorem dX3_hasRoom_18 : decode cX3_hasRoom 18 = .ok (.iconst 0, 1) := by decide +kernel
theorem dX3_hasRoom_19 : decode cX3_hasRoom 19 = .ok (.ireturn, 1) := by decide +kernel
set_option maxRecDepth 20000 in
theorem ggX3_lineUp_Jx4a65c_size_8abf5 : GoodIn wsX3_lineUp wsJx4a65c_size_8abf5 := goodIn_r _ [7, 8, 99, 100, 101] (by decide +kernel) (by decide +kernel)
set_option maxRecDepth 20000 in
theorem gX3_lineUp_Jx4a65c_size_8abf5 : GoodIn wsX3_lineUp (wsV RX3 48 RJx4a65c yJx4a65c_size_8abf5 wsJx4a65c_size_8abf5) := goodIn_app (goodIn_of _ (by decide +kernel)) ggX3_lineUp_Jx4a65c_size_8abf5
set_option maxRecDepth 20000 in
theorem ggX3_lineUp_Jx4a65c_get_915e3 : GoodIn wsX3_lineUp wsJx4a65c_get_915e3 := goodIn_r _ [12, 8, 13, 14, 15, 16, 17, 18, 19, 20, 21, 22, 23, 6, 24, 25, 99, 100, 101] (by decide +kernel) (by decide +kernel)
set_option maxRecDepth 20000 in
theorem gX3_lineUp_Jx4a65c_get_915e3 : GoodIn wsX3_lineUp (wsV RX3 52 RJx4a65c yJx4a65c_get_915e3 wsJx4a65c_get_915e3) := goodIn_app (goodIn_of _ (by decide +kernel)) ggX3_lineUp_Jx4a65c_get_915e3
set_option maxRecDepth 20000 in
theorem ggX3_lineUp_Jx4a65c_add_7a177 : GoodIn wsX3_lineUp wsJx4a65c_add_7a177 := goodIn_r _ [29, 30, 31, 8, 25, 32, 33, 34, 35, 36, 37, 38, 6, 39, 40, 41, 42, 43, 44, 45, 46, 47, 48, 49, 50, 51, 52, 53, 54, 55, 56, 57, 58, 59, 60, 61, 62, 63, 64, 65, 66, 67, 68, 69, 70, 71, 72, 73, 74, 75, 76, 77, 78, 79, 99, 100, 101] (by decide +kernel) (by decide +kernel)
set_option maxRecDepth 20000 in
theorem gX3_lineUp_Jx4a65c_add_7a177 : GoodIn wsX3_lineUp (wsV RX3 61 RJx4a65c yJx4a65c_add_7a177 wsJx4a65c_add_7a177) := goodIn_app (goodIn_of _ (by decide +kernel)) ggX3_lineUp_Jx4a65c_add_7a177
theorem dX3_lineUp_0 : decode cX3_lineUp 0 = .ok (.aload_n 0, 1) := by decide +kernel
theorem dX3_lineUp_1 : decode cX3_lineUp 1 = .ok (.getfield 28, 3) := by decide +kernel
theorem dX3_lineUp_4 : decode cX3_lineUp 4 = .ok (.invokevirtual 48, 3) := by decide +kernel
theorem dX3_lineUp_7 : decode cX3_lineUp 7 = .ok (.istore_n 2, 1) := by decide +kernel
theorem dX3_lineUp_8 : decode cX3_lineUp 8 = .ok (.iload_n 2, 1) := by decide +kernel
theorem dX3_lineUp_9 : decode cX3_lineUp 9 = .ok (.ifCond .le 32, 3) := by decide +kernel
theorem dX3_lineUp_12 : decode cX3_lineUp 12 = .ok (.aload_n 0, 1) := by decide +kernel
theorem dX3_lineUp_13 : decode cX3_lineUp 13 = .ok (.getfield 28, 3) := by decide +kernel
theorem dX3_lineUp_16 : decode cX3_lineUp 16 = .ok (.iload_n 2, 1) := by decide +kernel
theorem dX3_lineUp_17 : decode cX3_lineUp 17 = .ok (.iconst 1, 1) := by decide +kernel
theorem dX3_lineUp_18 : decode cX3_lineUp 18 = .ok (.isub, 1) := by decide +kernel
theorem dX3_lineUp_19 : decode cX3_lineUp 19 = .ok (.invokevirtual 52, 3) := by decide +kernel
theorem dX3_lineUp_22 : decode cX3_lineUp 22 = .ok (.checkcast 56, 3) := by decide +kernel
theorem dX3_lineUp_25 : decode cX3_lineUp 25 = .ok (.getfield 58, 3) := by decide +kernel
theorem dX3_lineUp_28 : decode cX3_lineUp 28 = .ok (.aload_n 1, 1) := by decide +kernel
theorem dX3_lineUp_29 : decode cX3_lineUp 29 = .ok (.getfield 58, 3) := by decide +kernel
theorem dX3_lineUp_32 : decode cX3_lineUp 32 = .ok (.if_icmp .ge 9, 3) := by decide +kernel
theorem dX3_lineUp_35 : decode cX3_lineUp 35 = .ok (.iinc 2 (-1), 3) := by decide +kernel
theorem dX3_lineUp_38 : decode cX3_lineUp 38 = .ok (.goto (-30), 3) := by decide +kernel
theorem dX3_lineUp_41 : decode cX3_lineUp 41 = .ok (.aload_n 0, 1) := by decide +kernel
theorem dX3_lineUp_42 : decode cX3_lineUp 42 = .ok (.getfield 28, 3) := by decide +kernel
theorem dX3_lineUp_45 : decode cX3_lineUp 45 = .ok (.iload_n 2, 1) := by decide +kernel
theorem dX3_lineUp_46 : decode cX3_lineUp 46 = .ok (.aload_n 1, 1) := by decide +kernel
theorem dX3_lineUp_47 : decode cX3_lineUp 47 = .ok (.invokevirtual 61, 3) := by decide +kernel
theorem dX3_lineUp_50 : decode cX3_lineUp 50 = .ok (.return_, 1) := by decide +kernel
theorem dX3_timeFrom_0 : decode cX3_timeFrom 0 = .ok (.aload_n 1, 1) := by decide +kernel
theorem dX3_timeFrom_1 : decode cX3_timeFrom 1 = .ok (.getfield 9, 3) := by decide +kernel
theorem dX3_timeFrom_4 : decode cX3_timeFrom 4 = .ok (.istore_n 2, 1) := by decide +kernel
theorem dX3_timeFrom_5 : decode cX3_timeFrom 5 = .ok (.iload_n 2, 1) := by decide +kernel
theorem dX3_timeFrom_6 : decode cX3_timeFrom 6 = .ok (.ifCond .lt 21, 3) := by decide +kernel
theorem dX3_timeFrom_9 : decode cX3_timeFrom 9 = .ok (.iload_n 2, 1) := by decide +kernel
theorem dX3_timeFrom_10 : decode cX3_timeFrom 10 = .ok (.aload_n 0, 1) := by decide +kernel
theorem dX3_timeFrom_11 : decode cX3_timeFrom 11 = .ok (.getfield 31, 3) := by decide +kernel
theorem dX3_timeFrom_14 : decode cX3_timeFrom 14 = .ok (.arraylength, 1) := by decide +kernel
theorem dX3_timeFrom_15 : decode cX3_timeFrom 15 = .ok (.if_icmp .ge 12, 3) := by decide +kernel
theorem dX3_timeFrom_18 : decode cX3_timeFrom 18 = .ok (.aload_n 0, 1) := by decide +kernel
theorem dX3_timeFrom_19 : decode cX3_timeFrom 19 = .ok (.getfield 31, 3) := by decide +kernel
theorem dX3_timeFrom_22 : decode cX3_timeFrom 22 = .ok (.iload_n 2, 1) := by decide +kernel
theorem dX3_timeFrom_23 : decode cX3_timeFrom 23 = .ok (.iaload, 1) := by decide +kernel
theorem dX3_timeFrom_24 : decode cX3_timeFrom 24 = .ok (.goto 5, 3) := by decide +kernel
theorem dX3_timeFrom_27 : decode cX3_timeFrom 27 = .ok (.ldc 65, 2) := by decide +kernel
theorem dX3_timeFrom_29 : decode cX3_timeFrom 29 = .ok (.ireturn, 1) := by decide +kernel
theorem dX3_keepTimeFrom_0 : decode cX3_keepTimeFrom 0 = .ok (.aload_n 1, 1) := by decide +kernel
theorem dX3_keepTimeFrom_1 : decode cX3_keepTimeFrom 1 = .ok (.getfield 9, 3) := by decide +kernel
theorem dX3_keepTimeFrom_4 : decode cX3_keepTimeFrom 4 = .ok (.istore_n 3, 1) := by decide +kernel
theorem dX3_keepTimeFrom_5 : decode cX3_keepTimeFrom 5 = .ok (.iload_n 3, 1) := by decide +kernel
theorem dX3_keepTimeFrom_6 : decode cX3_keepTimeFrom 6 = .ok (.ifCond .lt 19, 3) := by decide +kernel
theorem dX3_keepTimeFrom_9 : decode cX3_keepTimeFrom 9 = .ok (.iload_n 3, 1) := by decide +kernel
theorem dX3_keepTimeFrom_10 : decode cX3_keepTimeFrom 10 = .ok (.aload_n 0, 1) := by decide +kernel
theorem dX3_keepTimeFrom_11 : decode cX3_keepTimeFrom 11 = .ok (.getfield 31, 3) := by decide +kernel
theorem dX3_keepTimeFrom_14 : decode cX3_keepTimeFrom 14 = .ok (.arraylength, 1) := by decide +kernel
theorem dX3_keepTimeFrom_15 : decode cX3_keepTimeFrom 15 = .ok (.if_icmp .ge 10, 3) := by decide +kernel
theorem dX3_keepTimeFrom_18 : decode cX3_keepTimeFrom 18 = .ok (.aload_n 0, 1) := by decide +kernel
theorem dX3_keepTimeFrom_19 : decode cX3_keepTimeFrom 19 = .ok (.getfield 31, 3) := by decide +kernel
theorem dX3_keepTimeFrom_22 : decode cX3_keepTimeFrom 22 = .ok (.iload_n 3, 1) := by decide +kernel
theorem dX3_keepTimeFrom_23 : decode cX3_keepTimeFrom 23 = .ok (.iload_n 2, 1) := by decide +kernel
theorem dX3_keepTimeFrom_24 : decode cX3_keepTimeFrom 24 = .ok (.iastore, 1) := by decide +kernel
theorem dX3_keepTimeFrom_25 : decode cX3_keepTimeFrom 25 = .ok (.return_, 1) := by decide +kernel
set_option maxRecDepth 20000 in
theorem ggX4_init_X4_dividedUp : GoodIn wsX4_init wsX4_dividedUp := goodIn_r _ [21, 22] (by decide +kernel) (by decide +kernel)
set_option maxRecDepth 20000 in
theorem gX4_init_X4_dividedUp : GoodIn wsX4_init (va_wsS RX4 31 yX4_dividedUp wsX4_dividedUp) := goodIn_app (goodIn_of _ (by decide +kernel)) ggX4_init_X4_dividedUp
set_option maxRecDepth 20000 in
theorem ggX4_init_Jx4a65c_init_da8c8 : GoodIn wsX4_init wsJx4a65c_init_da8c8 := goodIn_r _ [25, 26, 27, 28, 29, 30, 31, 32, 33, 34, 35, 36, 37, 2, 3, 49, 50, 51] (by decide +kernel) (by decide +kernel)
set_option maxRecDepth 20000 in
theorem gX4_init_Jx4a65c_init_da8c8 : GoodIn wsX4_init (wsJx4a65c_init_da8c8) := ggX4_init_Jx4a65c_init_da8c8
theorem dX4_init_0 : decode cX4_init 0 = .ok (.aload_n 0, 1) := by decide +kernel
theorem dX4_init_1 : decode cX4_init 1 = .ok (.invokespecial 3, 3) := by decide +kernel
theorem dX4_init_4 : decode cX4_init 4 = .ok (.aload_n 0, 1) := by decide +kernel
theorem dX4_init_5 : decode cX4_init 5 = .ok (.iload_n 1, 1) := by decide +kernel
theorem dX4_init_6 : decode cX4_init 6 = .ok (.putfield 9, 3) := by decide +kernel
theorem dX4_init_9 : decode cX4_init 9 = .ok (.aload_n 0, 1) := by decide +kernel
theorem dX4_init_10 : decode cX4_init 10 = .ok (.aload_n 2, 1) := by decide +kernel
theorem dX4_init_11 : decode cX4_init 11 = .ok (.putfield 15, 3) := by decide +kernel
theorem dX4_init_14 : decode cX4_init 14 = .ok (.aload_n 0, 1) := by decide +kernel
theorem dX4_init_15 : decode cX4_init 15 = .ok (.aload_n 3, 1) := by decide +kernel
theorem dX4_init_16 : decode cX4_init 16 = .ok (.putfield 19, 3) := by decide +kernel
theorem dX4_init_19 : decode cX4_init 19 = .ok (.aload_n 0, 1) := by decide +kernel
theorem dX4_init_20 : decode cX4_init 20 = .ok (.iload 4, 2) := by decide +kernel
theorem dX4_init_22 : decode cX4_init 22 = .ok (.putfield 22, 3) := by decide +kernel
theorem dX4_init_25 : decode cX4_init 25 = .ok (.aload_n 0, 1) := by decide +kernel
theorem dX4_init_26 : decode cX4_init 26 = .ok (.iload 6, 2) := by decide +kernel
theorem dX4_init_28 : decode cX4_init 28 = .ok (.putfield 25, 3) := by decide +kernel
theorem dX4_init_31 : decode cX4_init 31 = .ok (.aload_n 0, 1) := by decide +kernel
theorem dX4_init_32 : decode cX4_init 32 = .ok (.iload 5, 2) := by decide +kernel
theorem dX4_init_34 : decode cX4_init 34 = .ok (.putfield 28, 3) := by decide +kernel
theorem dX4_init_37 : decode cX4_init 37 = .ok (.aload_n 0, 1) := by decide +kernel
theorem dX4_init_38 : decode cX4_init 38 = .ok (.iload 4, 2) := by decide +kernel
theorem dX4_init_40 : decode cX4_init 40 = .ok (.iload 5, 2) := by decide +kernel
theorem dX4_init_42 : decode cX4_init 42 = .ok (.invokestatic 31, 3) := by decide +kernel
theorem dX4_init_45 : decode cX4_init 45 = .ok (.putfield 35, 3) := by decide +kernel
theorem dX4_init_48 : decode cX4_init 48 = .ok (.aload_n 0, 1) := by decide +kernel
theorem dX4_init_49 : decode cX4_init 49 = .ok (.new 38, 3) := by decide +kernel
theorem dX4_init_52 : decode cX4_init 52 = .ok (.dup, 1) := by decide +kernel
theorem dX4_init_53 : decode cX4_init 53 = .ok (.invokespecial 40, 3) := by decide +kernel
theorem dX4_init_56 : decode cX4_init 56 = .ok (.putfield 41, 3) := by decide +kernel
theorem dX4_init_59 : decode cX4_init 59 = .ok (.aload_n 0, 1) := by decide +kernel
theorem dX4_init_60 : decode cX4_init 60 = .ok (.iconst 1, 1) := by decide +kernel
theorem dX4_init_61 : decode cX4_init 61 = .ok (.putfield 45, 3) := by decide +kernel
theorem dX4_init_64 : decode cX4_init 64 = .ok (.aload_n 0, 1) := by decide +kernel
theorem dX4_init_65 : decode cX4_init 65 = .ok (.iconst 0, 1) := by decide +kernel
theorem dX4_init_66 : decode cX4_init 66 = .ok (.putfield 49, 3) := by decide +kernel
theorem dX4_init_69 : decode cX4_init 69 = .ok (.aload_n 0, 1) := by decide +kernel
theorem dX4_init_70 : decode cX4_init 70 = .ok (.iconst 0, 1) := by decide +kernel
theorem dX4_init_71 : decode cX4_init 71 = .ok (.putfield 52, 3) := by decide +kernel
theorem dX4_init_74 : decode cX4_init 74 = .ok (.return_, 1) := by decide +kernel
theorem dX4_dividedUp_0 : decode cX4_dividedUp 0 = .ok (.iload_n 1, 1) := by decide +kernel
theorem dX4_dividedUp_1 : decode cX4_dividedUp 1 = .ok (.iconst 1, 1) := by decide +kernel
theorem dX4_dividedUp_2 : decode cX4_dividedUp 2 = .ok (.if_icmp .ge 8, 3) := by decide +kernel
theorem dX4_dividedUp_5 : decode cX4_dividedUp 5 = .ok (.ldc 55, 2) := by decide +kernel
theorem dX4_dividedUp_7 : decode cX4_dividedUp 7 = .ok (.goto 10, 3) := by decide +kernel
theorem dX4_dividedUp_10 : decode cX4_dividedUp 10 = .ok (.iload_n 0, 1) := by decide +kernel
theorem dX4_dividedUp_11 : decode cX4_dividedUp 11 = .ok (.iload_n 1, 1) := by decide +kernel
theorem dX4_dividedUp_12 : decode cX4_dividedUp 12 = .ok (.iadd, 1) := by decide +kernel
theorem dX4_dividedUp_13 : decode cX4_dividedUp 13 = .ok (.iconst 1, 1) := by decide +kernel
theorem dX4_dividedUp_14 : decode cX4_dividedUp 14 = .ok (.isub, 1) := by decide +kernel
theorem dX4_dividedUp_15 : decode cX4_dividedUp 15 = .ok (.iload_n 1, 1) := by decide +kernel
theorem dX4_dividedUp_16 : decode cX4_dividedUp 16 = .ok (.idiv, 1) := by decide +kernel
theorem dX4_dividedUp_17 : decode cX4_dividedUp 17 = .ok (.ireturn, 1) := by decide +kernel
set_option maxRecDepth 20000 in
theorem ggX4_canBeEnteredAt_Jx4a65c_size_8abf5 : GoodIn wsX4_canBeEnteredAt wsJx4a65c_size_8abf5 := goodIn_r _ [9, 10, 22, 23, 24] (by decide +kernel) (by decide +kernel)
set_option maxRecDepth 20000 in
theorem gX4_canBeEnteredAt_Jx4a65c_size_8abf5 : GoodIn wsX4_canBeEnteredAt (wsV RX4 56 RJx4a65c yJx4a65c_size_8abf5 wsJx4a65c_size_8abf5) := goodIn_app (goodIn_of _ (by decide +kernel)) ggX4_canBeEnteredAt_Jx4a65c_size_8abf5
theorem dX4_canBeEnteredAt_0 : decode cX4_canBeEnteredAt 0 = .ok (.aload_n 0, 1) := by decide +kernel
theorem dX4_canBeEnteredAt_1 : decode cX4_canBeEnteredAt 1 = .ok (.getfield 45, 3) := by decide +kernel
theorem dX4_canBeEnteredAt_4 : decode cX4_canBeEnteredAt 4 = .ok (.ifCond .eq 29, 3) := by decide +kernel
theorem dX4_canBeEnteredAt_7 : decode cX4_canBeEnteredAt 7 = .ok (.aload_n 0, 1) := by decide +kernel
theorem dX4_canBeEnteredAt_8 : decode cX4_canBeEnteredAt 8 = .ok (.getfield 41, 3) := by decide +kernel
theorem dX4_canBeEnteredAt_11 : decode cX4_canBeEnteredAt 11 = .ok (.invokevirtual 56, 3) := by decide +kernel
theorem dX4_canBeEnteredAt_14 : decode cX4_canBeEnteredAt 14 = .ok (.aload_n 0, 1) := by decide +kernel
theorem dX4_canBeEnteredAt_15 : decode cX4_canBeEnteredAt 15 = .ok (.getfield 25, 3) := by decide +kernel
theorem dX4_canBeEnteredAt_18 : decode cX4_canBeEnteredAt 18 = .ok (.if_icmp .ge 15, 3) := by decide +kernel
theorem dX4_canBeEnteredAt_21 : decode cX4_canBeEnteredAt 21 = .ok (.aload_n 0, 1) := by decide +kernel
theorem dX4_canBeEnteredAt_22 : decode cX4_canBeEnteredAt 22 = .ok (.getfield 52, 3) := by decide +kernel
theorem dX4_canBeEnteredAt_25 : decode cX4_canBeEnteredAt 25 = .ok (.iload_n 1, 1) := by decide +kernel
theorem dX4_canBeEnteredAt_26 : decode cX4_canBeEnteredAt 26 = .ok (.if_icmp .eq 7, 3) := by decide +kernel
theorem dX4_canBeEnteredAt_29 : decode cX4_canBeEnteredAt 29 = .ok (.iconst 1, 1) := by decide +kernel
theorem dX4_canBeEnteredAt_30 : decode cX4_canBeEnteredAt 30 = .ok (.goto 4, 3) := by decide +kernel
theorem dX4_canBeEnteredAt_33 : decode cX4_canBeEnteredAt 33 = .ok (.iconst 0, 1) := by decide +kernel
theorem dX4_canBeEnteredAt_34 : decode cX4_canBeEnteredAt 34 = .ok (.ireturn, 1) := by decide +kernel
set_option maxRecDepth 20000 in
theorem ggX4_isFirstAtEnd_Jx4a65c_isEmpty_aae02 : GoodIn wsX4_isFirstAtEnd wsJx4a65c_isEmpty_aae02 := goodIn_r _ [7, 8, 46, 47, 48] (by decide +kernel) (by decide +kernel)
set_option maxRecDepth 20000 in
theorem gX4_isFirstAtEnd_Jx4a65c_isEmpty_aae02 : GoodIn wsX4_isFirstAtEnd (wsV RX4 60 RJx4a65c yJx4a65c_isEmpty_aae02 wsJx4a65c_isEmpty_aae02) := goodIn_app (goodIn_of _ (by decide +kernel)) ggX4_isFirstAtEnd_Jx4a65c_isEmpty_aae02
set_option maxRecDepth 20000 in
theorem ggX4_isFirstAtEnd_Jx4a65c_get_915e3 : GoodIn wsX4_isFirstAtEnd wsJx4a65c_get_915e3 := goodIn_r _ [12, 8, 13, 14, 15, 16, 17, 18, 19, 20, 21, 22, 23, 6, 24, 25, 46, 47, 48] (by decide +kernel) (by decide +kernel)
set_option maxRecDepth 20000 in
theorem gX4_isFirstAtEnd_Jx4a65c_get_915e3 : GoodIn wsX4_isFirstAtEnd (wsV RX4 64 RJx4a65c yJx4a65c_get_915e3 wsJx4a65c_get_915e3) := goodIn_app (goodIn_of _ (by decide +kernel)) ggX4_isFirstAtEnd_Jx4a65c_get_915e3
theorem dX4_isFirstAtEnd_0 : decode cX4_isFirstAtEnd 0 = .ok (.aload_n 0, 1) := by decide +kernel
theorem dX4_isFirstAtEnd_1 : decode cX4_isFirstAtEnd 1 = .ok (.getfield 41, 3) := by decide +kernel
theorem dX4_isFirstAtEnd_4 : decode cX4_isFirstAtEnd 4 = .ok (.invokevirtual 60, 3) := by decide +kernel
theorem dX4_isFirstAtEnd_7 : decode cX4_isFirstAtEnd 7 = .ok (.ifCond .eq 5, 3) := by decide +kernel
theorem dX4_isFirstAtEnd_10 : decode cX4_isFirstAtEnd 10 = .ok (.iconst 0, 1) := by decide +kernel
theorem dX4_isFirstAtEnd_11 : decode cX4_isFirstAtEnd 11 = .ok (.ireturn, 1) := by decide +kernel
theorem dX4_isFirstAtEnd_12 : decode cX4_isFirstAtEnd 12 = .ok (.aload_n 0, 1) := by decide +kernel
theorem dX4_isFirstAtEnd_13 : decode cX4_isFirstAtEnd 13 = .ok (.getfield 41, 3) := by decide +kernel
theorem dX4_isFirstAtEnd_16 : decode cX4_isFirstAtEnd 16 = .ok (.iconst 0, 1) := by decide +kernel
theorem dX4_isFirstAtEnd_17 : decode cX4_isFirstAtEnd 17 = .ok (.invokevirtual 64, 3) := by decide +kernel
theorem dX4_isFirstAtEnd_20 : decode cX4_isFirstAtEnd 20 = .ok (.checkcast 68, 3) := by decide +kernel
theorem dX4_isFirstAtEnd_23 : decode cX4_isFirstAtEnd 23 = .ok (.astore_n 2, 1) := by decide +kernel
theorem dX4_isFirstAtEnd_24 : decode cX4_isFirstAtEnd 24 = .ok (.iload_n 1, 1) := by decide +kernel
theorem dX4_isFirstAtEnd_25 : decode cX4_isFirstAtEnd 25 = .ok (.aload_n 2, 1) := by decide +kernel
theorem dX4_isFirstAtEnd_26 : decode cX4_isFirstAtEnd 26 = .ok (.getfield 70, 3) := by decide +kernel
theorem dX4_isFirstAtEnd_29 : decode cX4_isFirstAtEnd 29 = .ok (.isub, 1) := by decide +kernel
theorem dX4_isFirstAtEnd_30 : decode cX4_isFirstAtEnd 30 = .ok (.aload_n 2, 1) := by decide +kernel
theorem dX4_isFirstAtEnd_31 : decode cX4_isFirstAtEnd 31 = .ok (.getfield 73, 3) := by decide +kernel
theorem dX4_isFirstAtEnd_34 : decode cX4_isFirstAtEnd 34 = .ok (.if_icmp .lt 7, 3) := by decide +kernel
theorem dX4_isFirstAtEnd_37 : decode cX4_isFirstAtEnd 37 = .ok (.iconst 1, 1) := by decide +kernel
theorem dX4_isFirstAtEnd_38 : decode cX4_isFirstAtEnd 38 = .ok (.goto 4, 3) := by decide +kernel
theorem dX4_isFirstAtEnd_41 : decode cX4_isFirstAtEnd 41 = .ok (.iconst 0, 1) := by decide +kernel
theorem dX4_isFirstAtEnd_42 : decode cX4_isFirstAtEnd 42 = .ok (.ireturn, 1) := by decide +kernel
theorem dX7_init_0 : decode cX7_init 0 = .ok (.aload_n 0, 1) := by decide +kernel
theorem dX7_init_1 : decode cX7_init 1 = .ok (.invokespecial 1, 3) := by decide +kernel
theorem dX7_init_4 : decode cX7_init 4 = .ok (.aload_n 0, 1) := by decide +kernel
theorem dX7_init_5 : decode cX7_init 5 = .ok (.iconst 0, 1) := by decide +kernel
theorem dX7_init_6 : decode cX7_init 6 = .ok (.anewarray 7, 3) := by decide +kernel
theorem dX7_init_9 : decode cX7_init 9 = .ok (.putfield 9, 3) := by decide +kernel
theorem dX7_init_12 : decode cX7_init 12 = .ok (.aload_n 0, 1) := by decide +kernel
theorem dX7_init_13 : decode cX7_init 13 = .ok (.iconst 0, 1) := by decide +kernel
theorem dX7_init_14 : decode cX7_init 14 = .ok (.anewarray 7, 3) := by decide +kernel
theorem dX7_init_17 : decode cX7_init 17 = .ok (.putfield 15, 3) := by decide +kernel
theorem dX7_init_20 : decode cX7_init 20 = .ok (.aload_n 0, 1) := by decide +kernel
theorem dX7_init_21 : decode cX7_init 21 = .ok (.iconst 0, 1) := by decide +kernel
theorem dX7_init_22 : decode cX7_init 22 = .ok (.anewarray 7, 3) := by decide +kernel
theorem dX7_init_25 : decode cX7_init 25 = .ok (.putfield 18, 3) := by decide +kernel
theorem dX7_init_28 : decode cX7_init 28 = .ok (.aload_n 0, 1) := by decide +kernel
theorem dX7_init_29 : decode cX7_init 29 = .ok (.iconst 0, 1) := by decide +kernel
theorem dX7_init_30 : decode cX7_init 30 = .ok (.anewarray 21, 3) := by decide +kernel
theorem dX7_init_33 : decode cX7_init 33 = .ok (.putfield 23, 3) := by decide +kernel
theorem dX7_init_36 : decode cX7_init 36 = .ok (.aload_n 0, 1) := by decide +kernel
theorem dX7_init_37 : decode cX7_init 37 = .ok (.iconst 0, 1) := by decide +kernel
theorem dX7_init_38 : decode cX7_init 38 = .ok (.anewarray 27, 3) := by decide +kernel
theorem dX7_init_41 : decode cX7_init 41 = .ok (.putfield 28, 3) := by decide +kernel
theorem dX7_init_44 : decode cX7_init 44 = .ok (.aload_n 0, 1) := by decide +kernel
theorem dX7_init_45 : decode cX7_init 45 = .ok (.iconst 0, 1) := by decide +kernel
theorem dX7_init_46 : decode cX7_init 46 = .ok (.anewarray 27, 3) := by decide +kernel
theorem dX7_init_49 : decode cX7_init 49 = .ok (.putfield 32, 3) := by decide +kernel
theorem dX7_init_52 : decode cX7_init 52 = .ok (.aload_n 0, 1) := by decide +kernel
theorem dX7_init_53 : decode cX7_init 53 = .ok (.iconst 0, 1) := by decide +kernel
theorem dX7_init_54 : decode cX7_init 54 = .ok (.anewarray 7, 3) := by decide +kernel
theorem dX7_init_57 : decode cX7_init 57 = .ok (.putfield 35, 3) := by decide +kernel
theorem dX7_init_60 : decode cX7_init 60 = .ok (.return_, 1) := by decide +kernel
theorem dX7_more_0 : decode cX7_more 0 = .ok (.aload_n 0, 1) := by decide +kernel
theorem dX7_more_1 : decode cX7_more 1 = .ok (.arraylength, 1) := by decide +kernel
theorem dX7_more_2 : decode cX7_more 2 = .ok (.iconst 1, 1) := by decide +kernel
theorem dX7_more_3 : decode cX7_more 3 = .ok (.iadd, 1) := by decide +kernel
theorem dX7_more_4 : decode cX7_more 4 = .ok (.anewarray 7, 3) := by decide +kernel
theorem dX7_more_7 : decode cX7_more 7 = .ok (.astore_n 2, 1) := by decide +kernel
theorem dX7_more_8 : decode cX7_more 8 = .ok (.iconst 0, 1) := by decide +kernel
theorem dX7_more_9 : decode cX7_more 9 = .ok (.istore_n 3, 1) := by decide +kernel
theorem dX7_more_10 : decode cX7_more 10 = .ok (.iload_n 3, 1) := by decide +kernel
theorem dX7_more_11 : decode cX7_more 11 = .ok (.aload_n 0, 1) := by decide +kernel
theorem dX7_more_12 : decode cX7_more 12 = .ok (.arraylength, 1) := by decide +kernel
theorem dX7_more_13 : decode cX7_more 13 = .ok (.if_icmp .ge 15, 3) := by decide +kernel
theorem dX7_more_16 : decode cX7_more 16 = .ok (.aload_n 2, 1) := by decide +kernel
theorem dX7_more_17 : decode cX7_more 17 = .ok (.iload_n 3, 1) := by decide +kernel
theorem dX7_more_18 : decode cX7_more 18 = .ok (.aload_n 0, 1) := by decide +kernel
theorem dX7_more_19 : decode cX7_more 19 = .ok (.iload_n 3, 1) := by decide +kernel
theorem dX7_more_20 : decode cX7_more 20 = .ok (.aaload, 1) := by decide +kernel
theorem dX7_more_21 : decode cX7_more 21 = .ok (.aastore, 1) := by decide +kernel
theorem dX7_more_22 : decode cX7_more 22 = .ok (.iinc 3 1, 3) := by decide +kernel
theorem dX7_more_25 : decode cX7_more 25 = .ok (.goto (-15), 3) := by decide +kernel
theorem dX7_more_28 : decode cX7_more 28 = .ok (.aload_n 2, 1) := by decide +kernel
theorem dX7_more_29 : decode cX7_more 29 = .ok (.aload_n 0, 1) := by decide +kernel
theorem dX7_more_30 : decode cX7_more 30 = .ok (.arraylength, 1) := by decide +kernel
theorem dX7_more_31 : decode cX7_more 31 = .ok (.aload_n 1, 1) := by decide +kernel
theorem dX7_more_32 : decode cX7_more 32 = .ok (.aastore, 1) := by decide +kernel
theorem dX7_more_33 : decode cX7_more 33 = .ok (.aload_n 2, 1) := by decide +kernel
theorem dX7_more_34 : decode cX7_more 34 = .ok (.areturn, 1) := by decide +kernel
set_option maxRecDepth 20000 in
theorem ggX7_addStation_X7_more : GoodIn wsX7_addStation wsX7_more := goodIn_r _ [9, 10] (by decide +kernel) (by decide +kernel)
set_option maxRecDepth 20000 in
theorem gX7_addStation_X7_more : GoodIn wsX7_addStation (va_wsS RX7 38 yX7_more wsX7_more) := goodIn_app (goodIn_of _ (by decide +kernel)) ggX7_addStation_X7_more
theorem dX7_addStation_0 : decode cX7_addStation 0 = .ok (.aload_n 0, 1) := by decide +kernel
theorem dX7_addStation_1 : decode cX7_addStation 1 = .ok (.aload_n 0, 1) := by decide +kernel
theorem dX7_addStation_2 : decode cX7_addStation 2 = .ok (.getfield 9, 3) := by decide +kernel
theorem dX7_addStation_5 : decode cX7_addStation 5 = .ok (.iconst 4, 1) := by decide +kernel
theorem dX7_addStation_6 : decode cX7_addStation 6 = .ok (.newarray .int, 2) := by decide +kernel
theorem dX7_addStation_8 : decode cX7_addStation 8 = .ok (.dup, 1) := by decide +kernel
theorem dX7_addStation_9 : decode cX7_addStation 9 = .ok (.iconst 0, 1) := by decide +kernel
theorem dX7_addStation_10 : decode cX7_addStation 10 = .ok (.iload_n 1, 1) := by decide +kernel
theorem dX7_addStation_11 : decode cX7_addStation 11 = .ok (.iastore, 1) := by decide +kernel
theorem dX7_addStation_12 : decode cX7_addStation 12 = .ok (.dup, 1) := by decide +kernel
theorem dX7_addStation_13 : decode cX7_addStation 13 = .ok (.iconst 1, 1) := by decide +kernel
theorem dX7_addStation_14 : decode cX7_addStation 14 = .ok (.iload_n 2, 1) := by decide +kernel
theorem dX7_addStation_15 : decode cX7_addStation 15 = .ok (.iastore, 1) := by decide +kernel
theorem dX7_addStation_16 : decode cX7_addStation 16 = .ok (.dup, 1) := by decide +kernel
theorem dX7_addStation_17 : decode cX7_addStation 17 = .ok (.iconst 2, 1) := by decide +kernel
theorem dX7_addStation_18 : decode cX7_addStation 18 = .ok (.iconst (-1), 1) := by decide +kernel
theorem dX7_addStation_19 : decode cX7_addStation 19 = .ok (.iastore, 1) := by decide +kernel
theorem dX7_addStation_20 : decode cX7_addStation 20 = .ok (.dup, 1) := by decide +kernel
theorem dX7_addStation_21 : decode cX7_addStation 21 = .ok (.iconst 3, 1) := by decide +kernel
theorem dX7_addStation_22 : decode cX7_addStation 22 = .ok (.iconst 0, 1) := by decide +kernel
theorem dX7_addStation_23 : decode cX7_addStation 23 = .ok (.iastore, 1) := by decide +kernel
theorem dX7_addStation_24 : decode cX7_addStation 24 = .ok (.invokestatic 38, 3) := by decide +kernel
theorem dX7_addStation_27 : decode cX7_addStation 27 = .ok (.putfield 9, 3) := by decide +kernel
theorem dX7_addStation_30 : decode cX7_addStation 30 = .ok (.aload_n 0, 1) := by decide +kernel
theorem dX7_addStation_31 : decode cX7_addStation 31 = .ok (.aload_n 0, 1) := by decide +kernel
theorem dX7_addStation_32 : decode cX7_addStation 32 = .ok (.getfield 35, 3) := by decide +kernel
theorem dX7_addStation_35 : decode cX7_addStation 35 = .ok (.iconst 0, 1) := by decide +kernel
theorem dX7_addStation_36 : decode cX7_addStation 36 = .ok (.newarray .int, 2) := by decide +kernel
theorem dX7_addStation_38 : decode cX7_addStation 38 = .ok (.invokestatic 38, 3) := by decide +kernel
theorem dX7_addStation_41 : decode cX7_addStation 41 = .ok (.putfield 35, 3) := by decide +kernel
theorem dX7_addStation_44 : decode cX7_addStation 44 = .ok (.aload_n 0, 1) := by decide +kernel
theorem dX7_addStation_45 : decode cX7_addStation 45 = .ok (.getfield 9, 3) := by decide +kernel
theorem dX7_addStation_48 : decode cX7_addStation 48 = .ok (.arraylength, 1) := by decide +kernel
theorem dX7_addStation_49 : decode cX7_addStation 49 = .ok (.anewarray 27, 3) := by decide +kernel
theorem dX7_addStation_52 : decode cX7_addStation 52 = .ok (.astore_n 3, 1) := by decide +kernel
theorem dX7_addStation_53 : decode cX7_addStation 53 = .ok (.iconst 0, 1) := by decide +kernel
theorem dX7_addStation_54 : decode cX7_addStation 54 = .ok (.istore 4, 2) := by decide +kernel
theorem dX7_addStation_56 : decode cX7_addStation 56 = .ok (.iload 4, 2) := by decide +kernel
theorem dX7_addStation_58 : decode cX7_addStation 58 = .ok (.aload_n 0, 1) := by decide +kernel
theorem dX7_addStation_59 : decode cX7_addStation 59 = .ok (.getfield 28, 3) := by decide +kernel
theorem dX7_addStation_62 : decode cX7_addStation 62 = .ok (.arraylength, 1) := by decide +kernel
theorem dX7_addStation_63 : decode cX7_addStation 63 = .ok (.if_icmp .ge 20, 3) := by decide +kernel
theorem dX7_addStation_66 : decode cX7_addStation 66 = .ok (.aload_n 3, 1) := by decide +kernel
theorem dX7_addStation_67 : decode cX7_addStation 67 = .ok (.iload 4, 2) := by decide +kernel
theorem dX7_addStation_69 : decode cX7_addStation 69 = .ok (.aload_n 0, 1) := by decide +kernel
theorem dX7_addStation_70 : decode cX7_addStation 70 = .ok (.getfield 28, 3) := by decide +kernel
theorem dX7_addStation_73 : decode cX7_addStation 73 = .ok (.iload 4, 2) := by decide +kernel
theorem dX7_addStation_75 : decode cX7_addStation 75 = .ok (.aaload, 1) := by decide +kernel
theorem dX7_addStation_76 : decode cX7_addStation 76 = .ok (.aastore, 1) := by decide +kernel
theorem dX7_addStation_77 : decode cX7_addStation 77 = .ok (.iinc 4 1, 3) := by decide +kernel
theorem dX7_addStation_80 : decode cX7_addStation 80 = .ok (.goto (-24), 3) := by decide +kernel
theorem dX7_addStation_83 : decode cX7_addStation 83 = .ok (.aload_n 3, 1) := by decide +kernel
theorem dX7_addStation_84 : decode cX7_addStation 84 = .ok (.aload_n 0, 1) := by decide +kernel
theorem dX7_addStation_85 : decode cX7_addStation 85 = .ok (.getfield 28, 3) := by decide +kernel
theorem dX7_addStation_88 : decode cX7_addStation 88 = .ok (.arraylength, 1) := by decide +kernel
theorem dX7_addStation_89 : decode cX7_addStation 89 = .ok (.iconst 0, 1) := by decide +kernel
theorem dX7_addStation_90 : decode cX7_addStation 90 = .ok (.anewarray 21, 3) := by decide +kernel
theorem dX7_addStation_93 : decode cX7_addStation 93 = .ok (.aastore, 1) := by decide +kernel
theorem dX7_addStation_94 : decode cX7_addStation 94 = .ok (.aload_n 0, 1) := by decide +kernel
theorem dX7_addStation_95 : decode cX7_addStation 95 = .ok (.aload_n 3, 1) := by decide +kernel
theorem dX7_addStation_96 : decode cX7_addStation 96 = .ok (.putfield 28, 3) := by decide +kernel
theorem dX7_addStation_99 : decode cX7_addStation 99 = .ok (.return_, 1) := by decide +kernel
set_option maxRecDepth 20000 in
theorem ggX7_addTube_X7_more : GoodIn wsX7_addTube wsX7_more := goodIn_r _ [9, 10] (by decide +kernel) (by decide +kernel)
set_option maxRecDepth 20000 in
theorem gX7_addTube_X7_more : GoodIn wsX7_addTube (va_wsS RX7 38 yX7_more wsX7_more) := goodIn_app (goodIn_of _ (by decide +kernel)) ggX7_addTube_X7_more
theorem dX7_addTube_0 : decode cX7_addTube 0 = .ok (.aload_n 0, 1) := by decide +kernel
theorem dX7_addTube_1 : decode cX7_addTube 1 = .ok (.getfield 35, 3) := by decide +kernel
theorem dX7_addTube_4 : decode cX7_addTube 4 = .ok (.iload_n 1, 1) := by decide +kernel
theorem dX7_addTube_5 : decode cX7_addTube 5 = .ok (.aaload, 1) := by decide +kernel
theorem dX7_addTube_6 : decode cX7_addTube 6 = .ok (.arraylength, 1) := by decide +kernel
theorem dX7_addTube_7 : decode cX7_addTube 7 = .ok (.iconst 1, 1) := by decide +kernel
theorem dX7_addTube_8 : decode cX7_addTube 8 = .ok (.iadd, 1) := by decide +kernel
theorem dX7_addTube_9 : decode cX7_addTube 9 = .ok (.newarray .int, 2) := by decide +kernel
theorem dX7_addTube_11 : decode cX7_addTube 11 = .ok (.astore 6, 2) := by decide +kernel
theorem dX7_addTube_13 : decode cX7_addTube 13 = .ok (.iconst 0, 1) := by decide +kernel
theorem dX7_addTube_14 : decode cX7_addTube 14 = .ok (.istore 7, 2) := by decide +kernel
theorem dX7_addTube_16 : decode cX7_addTube 16 = .ok (.iload 7, 2) := by decide +kernel
theorem dX7_addTube_18 : decode cX7_addTube 18 = .ok (.aload_n 0, 1) := by decide +kernel
theorem dX7_addTube_19 : decode cX7_addTube 19 = .ok (.getfield 35, 3) := by decide +kernel
theorem dX7_addTube_22 : decode cX7_addTube 22 = .ok (.iload_n 1, 1) := by decide +kernel
theorem dX7_addTube_23 : decode cX7_addTube 23 = .ok (.aaload, 1) := by decide +kernel
theorem dX7_addTube_24 : decode cX7_addTube 24 = .ok (.arraylength, 1) := by decide +kernel
theorem dX7_addTube_25 : decode cX7_addTube 25 = .ok (.if_icmp .ge 23, 3) := by decide +kernel
theorem dX7_addTube_28 : decode cX7_addTube 28 = .ok (.aload 6, 2) := by decide +kernel
theorem dX7_addTube_30 : decode cX7_addTube 30 = .ok (.iload 7, 2) := by decide +kernel
theorem dX7_addTube_32 : decode cX7_addTube 32 = .ok (.aload_n 0, 1) := by decide +kernel
theorem dX7_addTube_33 : decode cX7_addTube 33 = .ok (.getfield 35, 3) := by decide +kernel
theorem dX7_addTube_36 : decode cX7_addTube 36 = .ok (.iload_n 1, 1) := by decide +kernel
theorem dX7_addTube_37 : decode cX7_addTube 37 = .ok (.aaload, 1) := by decide +kernel
theorem dX7_addTube_38 : decode cX7_addTube 38 = .ok (.iload 7, 2) := by decide +kernel
theorem dX7_addTube_40 : decode cX7_addTube 40 = .ok (.iaload, 1) := by decide +kernel
theorem dX7_addTube_41 : decode cX7_addTube 41 = .ok (.iastore, 1) := by decide +kernel
theorem dX7_addTube_42 : decode cX7_addTube 42 = .ok (.iinc 7 1, 3) := by decide +kernel
theorem dX7_addTube_45 : decode cX7_addTube 45 = .ok (.goto (-29), 3) := by decide +kernel
theorem dX7_addTube_48 : decode cX7_addTube 48 = .ok (.aload 6, 2) := by decide +kernel
theorem dX7_addTube_50 : decode cX7_addTube 50 = .ok (.aload_n 0, 1) := by decide +kernel
theorem dX7_addTube_51 : decode cX7_addTube 51 = .ok (.getfield 35, 3) := by decide +kernel
theorem dX7_addTube_54 : decode cX7_addTube 54 = .ok (.iload_n 1, 1) := by decide +kernel
theorem dX7_addTube_55 : decode cX7_addTube 55 = .ok (.aaload, 1) := by decide +kernel
theorem dX7_addTube_56 : decode cX7_addTube 56 = .ok (.arraylength, 1) := by decide +kernel
theorem dX7_addTube_57 : decode cX7_addTube 57 = .ok (.aload_n 0, 1) := by decide +kernel
theorem dX7_addTube_58 : decode cX7_addTube 58 = .ok (.getfield 15, 3) := by decide +kernel
theorem dX7_addTube_61 : decode cX7_addTube 61 = .ok (.arraylength, 1) := by decide +kernel
theorem dX7_addTube_62 : decode cX7_addTube 62 = .ok (.iastore, 1) := by decide +kernel
theorem dX7_addTube_63 : decode cX7_addTube 63 = .ok (.aload_n 0, 1) := by decide +kernel
theorem dX7_addTube_64 : decode cX7_addTube 64 = .ok (.getfield 35, 3) := by decide +kernel
theorem dX7_addTube_67 : decode cX7_addTube 67 = .ok (.iload_n 1, 1) := by decide +kernel
theorem dX7_addTube_68 : decode cX7_addTube 68 = .ok (.aload 6, 2) := by decide +kernel
theorem dX7_addTube_70 : decode cX7_addTube 70 = .ok (.aastore, 1) := by decide +kernel
theorem dX7_addTube_71 : decode cX7_addTube 71 = .ok (.aload_n 0, 1) := by decide +kernel
theorem dX7_addTube_72 : decode cX7_addTube 72 = .ok (.aload_n 0, 1) := by decide +kernel
theorem dX7_addTube_73 : decode cX7_addTube 73 = .ok (.getfield 15, 3) := by decide +kernel
theorem dX7_addTube_76 : decode cX7_addTube 76 = .ok (.bipush 8, 2) := by decide +kernel
theorem dX7_addTube_78 : decode cX7_addTube 78 = .ok (.newarray .int, 2) := by decide +kernel
theorem dX7_addTube_80 : decode cX7_addTube 80 = .ok (.dup, 1) := by decide +kernel
theorem dX7_addTube_81 : decode cX7_addTube 81 = .ok (.iconst 0, 1) := by decide +kernel
theorem dX7_addTube_82 : decode cX7_addTube 82 = .ok (.iload_n 1, 1) := by decide +kernel
theorem dX7_addTube_83 : decode cX7_addTube 83 = .ok (.iastore, 1) := by decide +kernel
theorem dX7_addTube_84 : decode cX7_addTube 84 = .ok (.dup, 1) := by decide +kernel
theorem dX7_addTube_85 : decode cX7_addTube 85 = .ok (.iconst 1, 1) := by decide +kernel
theorem dX7_addTube_86 : decode cX7_addTube 86 = .ok (.iload_n 2, 1) := by decide +kernel
theorem dX7_addTube_87 : decode cX7_addTube 87 = .ok (.iastore, 1) := by decide +kernel
theorem dX7_addTube_88 : decode cX7_addTube 88 = .ok (.dup, 1) := by decide +kernel
theorem dX7_addTube_89 : decode cX7_addTube 89 = .ok (.iconst 2, 1) := by decide +kernel
theorem dX7_addTube_90 : decode cX7_addTube 90 = .ok (.iload_n 3, 1) := by decide +kernel
theorem dX7_addTube_91 : decode cX7_addTube 91 = .ok (.iastore, 1) := by decide +kernel
theorem dX7_addTube_92 : decode cX7_addTube 92 = .ok (.dup, 1) := by decide +kernel
theorem dX7_addTube_93 : decode cX7_addTube 93 = .ok (.iconst 3, 1) := by decide +kernel
theorem dX7_addTube_94 : decode cX7_addTube 94 = .ok (.iload 4, 2) := by decide +kernel
theorem dX7_addTube_96 : decode cX7_addTube 96 = .ok (.iastore, 1) := by decide +kernel
theorem dX7_addTube_97 : decode cX7_addTube 97 = .ok (.dup, 1) := by decide +kernel
theorem dX7_addTube_98 : decode cX7_addTube 98 = .ok (.iconst 4, 1) := by decide +kernel
theorem dX7_addTube_99 : decode cX7_addTube 99 = .ok (.iload 5, 2) := by decide +kernel
theorem dX7_addTube_101 : decode cX7_addTube 101 = .ok (.iastore, 1) := by decide +kernel
theorem dX7_addTube_102 : decode cX7_addTube 102 = .ok (.dup, 1) := by decide +kernel
theorem dX7_addTube_103 : decode cX7_addTube 103 = .ok (.iconst 5, 1) := by decide +kernel
theorem dX7_addTube_104 : decode cX7_addTube 104 = .ok (.iconst 1, 1) := by decide +kernel
theorem dX7_addTube_105 : decode cX7_addTube 105 = .ok (.iastore, 1) := by decide +kernel
theorem dX7_addTube_106 : decode cX7_addTube 106 = .ok (.dup, 1) := by decide +kernel
theorem dX7_addTube_107 : decode cX7_addTube 107 = .ok (.bipush 6, 2) := by decide +kernel
theorem dX7_addTube_109 : decode cX7_addTube 109 = .ok (.iconst 0, 1) := by decide +kernel
theorem dX7_addTube_110 : decode cX7_addTube 110 = .ok (.iastore, 1) := by decide +kernel
theorem dX7_addTube_111 : decode cX7_addTube 111 = .ok (.dup, 1) := by decide +kernel
theorem dX7_addTube_112 : decode cX7_addTube 112 = .ok (.bipush 7, 2) := by decide +kernel
theorem dX7_addTube_114 : decode cX7_addTube 114 = .ok (.iconst (-1), 1) := by decide +kernel
theorem dX7_addTube_115 : decode cX7_addTube 115 = .ok (.iastore, 1) := by decide +kernel
theorem dX7_addTube_116 : decode cX7_addTube 116 = .ok (.invokestatic 38, 3) := by decide +kernel
theorem dX7_addTube_119 : decode cX7_addTube 119 = .ok (.putfield 15, 3) := by decide +kernel
theorem dX7_addTube_122 : decode cX7_addTube 122 = .ok (.aload_n 0, 1) := by decide +kernel
theorem dX7_addTube_123 : decode cX7_addTube 123 = .ok (.getfield 15, 3) := by decide +kernel
theorem dX7_addTube_126 : decode cX7_addTube 126 = .ok (.arraylength, 1) := by decide +kernel
theorem dX7_addTube_127 : decode cX7_addTube 127 = .ok (.anewarray 27, 3) := by decide +kernel
theorem dX7_addTube_130 : decode cX7_addTube 130 = .ok (.astore 7, 2) := by decide +kernel
theorem dX7_addTube_132 : decode cX7_addTube 132 = .ok (.iconst 0, 1) := by decide +kernel
theorem dX7_addTube_133 : decode cX7_addTube 133 = .ok (.istore 8, 2) := by decide +kernel
theorem dX7_addTube_135 : decode cX7_addTube 135 = .ok (.iload 8, 2) := by decide +kernel
theorem dX7_addTube_137 : decode cX7_addTube 137 = .ok (.aload_n 0, 1) := by decide +kernel
theorem dX7_addTube_138 : decode cX7_addTube 138 = .ok (.getfield 32, 3) := by decide +kernel
theorem dX7_addTube_141 : decode cX7_addTube 141 = .ok (.arraylength, 1) := by decide +kernel
theorem dX7_addTube_142 : decode cX7_addTube 142 = .ok (.if_icmp .ge 21, 3) := by decide +kernel
theorem dX7_addTube_145 : decode cX7_addTube 145 = .ok (.aload 7, 2) := by decide +kernel
theorem dX7_addTube_147 : decode cX7_addTube 147 = .ok (.iload 8, 2) := by decide +kernel
theorem dX7_addTube_149 : decode cX7_addTube 149 = .ok (.aload_n 0, 1) := by decide +kernel
theorem dX7_addTube_150 : decode cX7_addTube 150 = .ok (.getfield 32, 3) := by decide +kernel
theorem dX7_addTube_153 : decode cX7_addTube 153 = .ok (.iload 8, 2) := by decide +kernel
theorem dX7_addTube_155 : decode cX7_addTube 155 = .ok (.aaload, 1) := by decide +kernel
theorem dX7_addTube_156 : decode cX7_addTube 156 = .ok (.aastore, 1) := by decide +kernel
theorem dX7_addTube_157 : decode cX7_addTube 157 = .ok (.iinc 8 1, 3) := by decide +kernel
theorem dX7_addTube_160 : decode cX7_addTube 160 = .ok (.goto (-25), 3) := by decide +kernel
theorem dX7_addTube_163 : decode cX7_addTube 163 = .ok (.aload 7, 2) := by decide +kernel
theorem dX7_addTube_165 : decode cX7_addTube 165 = .ok (.aload_n 0, 1) := by decide +kernel
theorem dX7_addTube_166 : decode cX7_addTube 166 = .ok (.getfield 32, 3) := by decide +kernel
theorem dX7_addTube_169 : decode cX7_addTube 169 = .ok (.arraylength, 1) := by decide +kernel
theorem dX7_addTube_170 : decode cX7_addTube 170 = .ok (.iconst 0, 1) := by decide +kernel
theorem dX7_addTube_171 : decode cX7_addTube 171 = .ok (.anewarray 21, 3) := by decide +kernel
theorem dX7_addTube_174 : decode cX7_addTube 174 = .ok (.aastore, 1) := by decide +kernel
theorem dX7_addTube_175 : decode cX7_addTube 175 = .ok (.aload_n 0, 1) := by decide +kernel
theorem dX7_addTube_176 : decode cX7_addTube 176 = .ok (.aload 7, 2) := by decide +kernel
theorem dX7_addTube_178 : decode cX7_addTube 178 = .ok (.putfield 32, 3) := by decide +kernel
theorem dX7_addTube_181 : decode cX7_addTube 181 = .ok (.return_, 1) := by decide +kernel
theorem dX7_out_0 : decode cX7_out 0 = .ok (.aload_n 0, 1) := by decide +kernel
theorem dX7_out_1 : decode cX7_out 1 = .ok (.getfield 35, 3) := by decide +kernel
theorem dX7_out_4 : decode cX7_out 4 = .ok (.iload_n 1, 1) := by decide +kernel
theorem dX7_out_5 : decode cX7_out 5 = .ok (.aaload, 1) := by decide +kernel
theorem dX7_out_6 : decode cX7_out 6 = .ok (.areturn, 1) := by decide +kernel
theorem dJxa1e45_init_da8c8_0 : decode cJxa1e45_init_da8c8 0 = .ok (.aload_n 0, 1) := by decide +kernel
theorem dJxa1e45_init_da8c8_1 : decode cJxa1e45_init_da8c8 1 = .ok (.invokespecial 1, 3) := by decide +kernel
theorem dJxa1e45_init_da8c8_4 : decode cJxa1e45_init_da8c8 4 = .ok (.return_, 1) := by decide +kernel
set_option maxRecDepth 20000 in
theorem ggJxc12de_init_da8c8_Jxa1e45_init_da8c8 : GoodIn wsJxc12de_init_da8c8 wsJxa1e45_init_da8c8 := goodIn_r _ [5, 6, 7, 8] (by decide +kernel) (by decide +kernel)
set_option maxRecDepth 20000 in
theorem gJxc12de_init_da8c8_Jxa1e45_init_da8c8 : GoodIn wsJxc12de_init_da8c8 (wsJxa1e45_init_da8c8) := ggJxc12de_init_da8c8_Jxa1e45_init_da8c8
theorem dJxc12de_init_da8c8_0 : decode cJxc12de_init_da8c8 0 = .ok (.aload_n 0, 1) := by decide +kernel
theorem dJxc12de_init_da8c8_1 : decode cJxc12de_init_da8c8 1 = .ok (.invokespecial 1, 3) := by decide +kernel
theorem dJxc12de_init_da8c8_4 : decode cJxc12de_init_da8c8 4 = .ok (.aload_n 0, 1) := by decide +kernel
theorem dJxc12de_init_da8c8_5 : decode cJxc12de_init_da8c8 5 = .ok (.iconst 0, 1) := by decide +kernel
theorem dJxc12de_init_da8c8_6 : decode cJxc12de_init_da8c8 6 = .ok (.putfield 7, 3) := by decide +kernel
theorem dJxc12de_init_da8c8_9 : decode cJxc12de_init_da8c8 9 = .ok (.return_, 1) := by decide +kernel
set_option maxRecDepth 20000 in
theorem ggJx4a65c_init_da8c8_Jxc12de_init_da8c8 : GoodIn wsJx4a65c_init_da8c8 wsJxc12de_init_da8c8 := goodIn_r _ [6, 7, 8, 9, 10, 11, 12, 13, 14, 15, 16, 17] (by decide +kernel) (by decide +kernel)
set_option maxRecDepth 20000 in
theorem gJx4a65c_init_da8c8_Jxc12de_init_da8c8 : GoodIn wsJx4a65c_init_da8c8 (wsJxc12de_init_da8c8) := ggJx4a65c_init_da8c8_Jxc12de_init_da8c8
theorem dJx4a65c_init_da8c8_0 : decode cJx4a65c_init_da8c8 0 = .ok (.aload_n 0, 1) := by decide +kernel
theorem dJx4a65c_init_da8c8_1 : decode cJx4a65c_init_da8c8 1 = .ok (.invokespecial 1, 3) := by decide +kernel
theorem dJx4a65c_init_da8c8_4 : decode cJx4a65c_init_da8c8 4 = .ok (.aload_n 0, 1) := by decide +kernel
theorem dJx4a65c_init_da8c8_5 : decode cJx4a65c_init_da8c8 5 = .ok (.getstatic 39, 3) := by decide +kernel
theorem dJx4a65c_init_da8c8_8 : decode cJx4a65c_init_da8c8 8 = .ok (.putfield 9, 3) := by decide +kernel
theorem dJx4a65c_init_da8c8_11 : decode cJx4a65c_init_da8c8 11 = .ok (.return_, 1) := by decide +kernel
set_option maxRecDepth 20000 in
theorem ggJx4a65c_grow_92f84_J8_newLength_cabcc : GoodIn wsJx4a65c_grow_92f84 wsJ8_newLength_cabcc := goodIn_r _ [11, 12, 4, 5, 6, 13, 14, 15, 10, 16] (by decide +kernel) (by decide +kernel)
set_option maxRecDepth 20000 in
theorem gJx4a65c_grow_92f84_J8_newLength_cabcc : GoodIn wsJx4a65c_grow_92f84 (va_wsS RJx4a65c 73 yJ8_newLength_cabcc wsJ8_newLength_cabcc) := goodIn_app (goodIn_of _ (by decide +kernel)) ggJx4a65c_grow_92f84_J8_newLength_cabcc
set_option maxRecDepth 20000 in
theorem ggJx4a65c_grow_92f84_J7_copyOf_1904c : GoodIn wsJx4a65c_grow_92f84 wsJ7_copyOf_1904c := goodIn_r _ [20, 21, 22, 23, 24, 25, 26, 19, 27, 28, 29, 30, 31, 5, 32, 33, 34, 35, 36] (by decide +kernel) (by decide +kernel)
set_option maxRecDepth 20000 in
theorem gJx4a65c_grow_92f84_J7_copyOf_1904c : GoodIn wsJx4a65c_grow_92f84 (va_wsS RJx4a65c 66 yJ7_copyOf_1904c wsJ7_copyOf_1904c) := goodIn_app (goodIn_of _ (by decide +kernel)) ggJx4a65c_grow_92f84_J7_copyOf_1904c
theorem dJx4a65c_grow_92f84_0 : decode cJx4a65c_grow_92f84 0 = .ok (.aload_n 0, 1) := by decide +kernel
theorem dJx4a65c_grow_92f84_1 : decode cJx4a65c_grow_92f84 1 = .ok (.getfield 9, 3) := by decide +kernel
theorem dJx4a65c_grow_92f84_4 : decode cJx4a65c_grow_92f84 4 = .ok (.arraylength, 1) := by decide +kernel
theorem dJx4a65c_grow_92f84_5 : decode cJx4a65c_grow_92f84 5 = .ok (.istore_n 2, 1) := by decide +kernel
theorem dJx4a65c_grow_92f84_6 : decode cJx4a65c_grow_92f84 6 = .ok (.iload_n 2, 1) := by decide +kernel
theorem dJx4a65c_grow_92f84_7 : decode cJx4a65c_grow_92f84 7 = .ok (.ifCond .gt 13, 3) := by decide +kernel
theorem dJx4a65c_grow_92f84_10 : decode cJx4a65c_grow_92f84 10 = .ok (.aload_n 0, 1) := by decide +kernel
theorem dJx4a65c_grow_92f84_11 : decode cJx4a65c_grow_92f84 11 = .ok (.getfield 9, 3) := by decide +kernel
theorem dJx4a65c_grow_92f84_14 : decode cJx4a65c_grow_92f84 14 = .ok (.getstatic 39, 3) := by decide +kernel
theorem dJx4a65c_grow_92f84_17 : decode cJx4a65c_grow_92f84 17 = .ok (.if_acmp .eq 28, 3) := by decide +kernel
theorem dJx4a65c_grow_92f84_20 : decode cJx4a65c_grow_92f84 20 = .ok (.iload_n 2, 1) := by decide +kernel
theorem dJx4a65c_grow_92f84_21 : decode cJx4a65c_grow_92f84 21 = .ok (.iload_n 1, 1) := by decide +kernel
theorem dJx4a65c_grow_92f84_22 : decode cJx4a65c_grow_92f84 22 = .ok (.iload_n 2, 1) := by decide +kernel
theorem dJx4a65c_grow_92f84_23 : decode cJx4a65c_grow_92f84 23 = .ok (.isub, 1) := by decide +kernel
theorem dJx4a65c_grow_92f84_24 : decode cJx4a65c_grow_92f84 24 = .ok (.iload_n 2, 1) := by decide +kernel
theorem dJx4a65c_grow_92f84_25 : decode cJx4a65c_grow_92f84 25 = .ok (.iconst 1, 1) := by decide +kernel
theorem dJx4a65c_grow_92f84_26 : decode cJx4a65c_grow_92f84 26 = .ok (.ishr, 1) := by decide +kernel
theorem dJx4a65c_grow_92f84_27 : decode cJx4a65c_grow_92f84 27 = .ok (.invokestatic 73, 3) := by decide +kernel
theorem dJx4a65c_grow_92f84_30 : decode cJx4a65c_grow_92f84 30 = .ok (.istore_n 3, 1) := by decide +kernel
theorem dJx4a65c_grow_92f84_31 : decode cJx4a65c_grow_92f84 31 = .ok (.aload_n 0, 1) := by decide +kernel
theorem dJx4a65c_grow_92f84_32 : decode cJx4a65c_grow_92f84 32 = .ok (.aload_n 0, 1) := by decide +kernel
theorem dJx4a65c_grow_92f84_33 : decode cJx4a65c_grow_92f84 33 = .ok (.getfield 9, 3) := by decide +kernel
theorem dJx4a65c_grow_92f84_36 : decode cJx4a65c_grow_92f84 36 = .ok (.iload_n 3, 1) := by decide +kernel
theorem dJx4a65c_grow_92f84_37 : decode cJx4a65c_grow_92f84 37 = .ok (.invokestatic 66, 3) := by decide +kernel
theorem dJx4a65c_grow_92f84_40 : decode cJx4a65c_grow_92f84 40 = .ok (.dup_x1, 1) := by decide +kernel
theorem dJx4a65c_grow_92f84_41 : decode cJx4a65c_grow_92f84 41 = .ok (.putfield 9, 3) := by decide +kernel
theorem dJx4a65c_grow_92f84_44 : decode cJx4a65c_grow_92f84 44 = .ok (.areturn, 1) := by decide +kernel
theorem dJx4a65c_grow_92f84_45 : decode cJx4a65c_grow_92f84 45 = .ok (.aload_n 0, 1) := by decide +kernel
theorem dJx4a65c_grow_92f84_46 : decode cJx4a65c_grow_92f84 46 = .ok (.bipush 10, 2) := by decide +kernel
theorem dJx4a65c_grow_92f84_48 : decode cJx4a65c_grow_92f84 48 = .ok (.iload_n 1, 1) := by decide +kernel
theorem dJx4a65c_grow_92f84_49 : decode cJx4a65c_grow_92f84 49 = .ok (.invokestatic 79, 3) := by decide +kernel
theorem dJx4a65c_grow_92f84_52 : decode cJx4a65c_grow_92f84 52 = .ok (.anewarray 7, 3) := by decide +kernel
theorem dJx4a65c_grow_92f84_55 : decode cJx4a65c_grow_92f84 55 = .ok (.dup_x1, 1) := by decide +kernel
theorem dJx4a65c_grow_92f84_56 : decode cJx4a65c_grow_92f84 56 = .ok (.putfield 9, 3) := by decide +kernel
theorem dJx4a65c_grow_92f84_59 : decode cJx4a65c_grow_92f84 59 = .ok (.areturn, 1) := by decide +kernel
set_option maxRecDepth 20000 in
theorem ggJx4a65c_grow_d5877_Jx4a65c_grow_92f84 : GoodIn wsJx4a65c_grow_d5877 wsJx4a65c_grow_92f84 := goodIn_r _ [6, 7, 8, 9, 10, 11, 12, 13, 14, 15, 16, 17, 18, 19, 20, 21, 22, 23, 24, 25, 26, 27, 28, 29, 30, 31, 32, 33, 34, 35, 36, 37, 38, 39, 40, 41, 42, 43, 44, 45] (by decide +kernel) (by decide +kernel)
set_option maxRecDepth 20000 in
theorem gJx4a65c_grow_d5877_Jx4a65c_grow_92f84 : GoodIn wsJx4a65c_grow_d5877 (wsV RJx4a65c 69 RJx4a65c yJx4a65c_grow_92f84 wsJx4a65c_grow_92f84) := goodIn_app (goodIn_of _ (by decide +kernel)) ggJx4a65c_grow_d5877_Jx4a65c_grow_92f84
theorem dJx4a65c_grow_d5877_0 : decode cJx4a65c_grow_d5877 0 = .ok (.aload_n 0, 1) := by decide +kernel
theorem dJx4a65c_grow_d5877_1 : decode cJx4a65c_grow_d5877 1 = .ok (.aload_n 0, 1) := by decide +kernel
theorem dJx4a65c_grow_d5877_2 : decode cJx4a65c_grow_d5877 2 = .ok (.getfield 48, 3) := by decide +kernel
theorem dJx4a65c_grow_d5877_5 : decode cJx4a65c_grow_d5877 5 = .ok (.iconst 1, 1) := by decide +kernel
theorem dJx4a65c_grow_d5877_6 : decode cJx4a65c_grow_d5877 6 = .ok (.iadd, 1) := by decide +kernel
theorem dJx4a65c_grow_d5877_7 : decode cJx4a65c_grow_d5877 7 = .ok (.invokevirtual 69, 3) := by decide +kernel
theorem dJx4a65c_grow_d5877_10 : decode cJx4a65c_grow_d5877 10 = .ok (.areturn, 1) := by decide +kernel
theorem dJx4a65c_size_8abf5_0 : decode cJx4a65c_size_8abf5 0 = .ok (.aload_n 0, 1) := by decide +kernel
theorem dJx4a65c_size_8abf5_1 : decode cJx4a65c_size_8abf5 1 = .ok (.getfield 48, 3) := by decide +kernel
theorem dJx4a65c_size_8abf5_4 : decode cJx4a65c_size_8abf5 4 = .ok (.ireturn, 1) := by decide +kernel
theorem dJx4a65c_isEmpty_aae02_0 : decode cJx4a65c_isEmpty_aae02 0 = .ok (.aload_n 0, 1) := by decide +kernel
theorem dJx4a65c_isEmpty_aae02_1 : decode cJx4a65c_isEmpty_aae02 1 = .ok (.getfield 48, 3) := by decide +kernel
theorem dJx4a65c_isEmpty_aae02_4 : decode cJx4a65c_isEmpty_aae02 4 = .ok (.ifCond .ne 7, 3) := by decide +kernel
theorem dJx4a65c_isEmpty_aae02_7 : decode cJx4a65c_isEmpty_aae02 7 = .ok (.iconst 1, 1) := by decide +kernel
theorem dJx4a65c_isEmpty_aae02_8 : decode cJx4a65c_isEmpty_aae02 8 = .ok (.goto 4, 3) := by decide +kernel
theorem dJx4a65c_isEmpty_aae02_11 : decode cJx4a65c_isEmpty_aae02 11 = .ok (.iconst 0, 1) := by decide +kernel
theorem dJx4a65c_isEmpty_aae02_12 : decode cJx4a65c_isEmpty_aae02 12 = .ok (.ireturn, 1) := by decide +kernel
theorem dJx4a65c_elementData_915e3_0 : decode cJx4a65c_elementData_915e3 0 = .ok (.aload_n 0, 1) := by decide +kernel
theorem dJx4a65c_elementData_915e3_1 : decode cJx4a65c_elementData_915e3 1 = .ok (.getfield 9, 3) := by decide +kernel
theorem dJx4a65c_elementData_915e3_4 : decode cJx4a65c_elementData_915e3 4 = .ok (.iload_n 1, 1) := by decide +kernel
theorem dJx4a65c_elementData_915e3_5 : decode cJx4a65c_elementData_915e3 5 = .ok (.aaload, 1) := by decide +kernel
theorem dJx4a65c_elementData_915e3_6 : decode cJx4a65c_elementData_915e3 6 = .ok (.areturn, 1) := by decide +kernel
set_option maxRecDepth 20000 in
theorem ggJx4a65c_get_915e3_J15_checkIndex_7cf53 : GoodIn wsJx4a65c_get_915e3 wsJ15_checkIndex_7cf53 := goodIn_r _ [5, 6, 7, 8, 9] (by decide +kernel) (by decide +kernel)
set_option maxRecDepth 20000 in
theorem gJx4a65c_get_915e3_J15_checkIndex_7cf53 : GoodIn wsJx4a65c_get_915e3 (va_wsS RJx4a65c 118 yJ15_checkIndex_7cf53 wsJ15_checkIndex_7cf53) := goodIn_app (goodIn_of _ (by decide +kernel)) ggJx4a65c_get_915e3_J15_checkIndex_7cf53
set_option maxRecDepth 20000 in
theorem ggJx4a65c_get_915e3_Jx4a65c_elementData_915e3 : GoodIn wsJx4a65c_get_915e3 wsJx4a65c_elementData_915e3 := goodIn_r _ [14, 15, 16, 17, 18] (by decide +kernel) (by decide +kernel)
set_option maxRecDepth 20000 in
theorem gJx4a65c_get_915e3_Jx4a65c_elementData_915e3 : GoodIn wsJx4a65c_get_915e3 (wsV RJx4a65c 123 RJx4a65c yJx4a65c_elementData_915e3 wsJx4a65c_elementData_915e3) := goodIn_app (goodIn_of _ (by decide +kernel)) ggJx4a65c_get_915e3_Jx4a65c_elementData_915e3
theorem dJx4a65c_get_915e3_0 : decode cJx4a65c_get_915e3 0 = .ok (.iload_n 1, 1) := by decide +kernel
theorem dJx4a65c_get_915e3_1 : decode cJx4a65c_get_915e3 1 = .ok (.aload_n 0, 1) := by decide +kernel
theorem dJx4a65c_get_915e3_2 : decode cJx4a65c_get_915e3 2 = .ok (.getfield 48, 3) := by decide +kernel
theorem dJx4a65c_get_915e3_5 : decode cJx4a65c_get_915e3 5 = .ok (.invokestatic 118, 3) := by decide +kernel
theorem dJx4a65c_get_915e3_8 : decode cJx4a65c_get_915e3 8 = .ok (.pop, 1) := by decide +kernel
theorem dJx4a65c_get_915e3_9 : decode cJx4a65c_get_915e3 9 = .ok (.aload_n 0, 1) := by decide +kernel
theorem dJx4a65c_get_915e3_10 : decode cJx4a65c_get_915e3 10 = .ok (.iload_n 1, 1) := by decide +kernel
theorem dJx4a65c_get_915e3_11 : decode cJx4a65c_get_915e3 11 = .ok (.invokevirtual 123, 3) := by decide +kernel
theorem dJx4a65c_get_915e3_14 : decode cJx4a65c_get_915e3 14 = .ok (.areturn, 1) := by decide +kernel
set_option maxRecDepth 20000 in
theorem ggJx4a65c_add_72be8_Jx4a65c_grow_d5877 : GoodIn wsJx4a65c_add_72be8 wsJx4a65c_grow_d5877 := goodIn_r _ [6, 1, 7, 8, 9, 5, 10, 11, 12, 13, 14, 15, 16, 17, 18, 19, 20, 21, 22, 23, 24, 25, 26, 27, 28, 29, 30, 31, 32, 33, 34, 35, 36, 37, 38, 39, 40, 41, 42, 43, 44, 45, 46, 47, 48, 49] (by decide +kernel) (by decide +kernel)
set_option maxRecDepth 20000 in
theorem gJx4a65c_add_72be8_Jx4a65c_grow_d5877 : GoodIn wsJx4a65c_add_72be8 (wsV RJx4a65c 129 RJx4a65c yJx4a65c_grow_d5877 wsJx4a65c_grow_d5877) := goodIn_app (goodIn_of _ (by decide +kernel)) ggJx4a65c_add_72be8_Jx4a65c_grow_d5877
theorem dJx4a65c_add_72be8_0 : decode cJx4a65c_add_72be8 0 = .ok (.iload_n 3, 1) := by decide +kernel
theorem dJx4a65c_add_72be8_1 : decode cJx4a65c_add_72be8 1 = .ok (.aload_n 2, 1) := by decide +kernel
theorem dJx4a65c_add_72be8_2 : decode cJx4a65c_add_72be8 2 = .ok (.arraylength, 1) := by decide +kernel
theorem dJx4a65c_add_72be8_3 : decode cJx4a65c_add_72be8 3 = .ok (.if_icmp .ne 8, 3) := by decide +kernel
theorem dJx4a65c_add_72be8_6 : decode cJx4a65c_add_72be8 6 = .ok (.aload_n 0, 1) := by decide +kernel
theorem dJx4a65c_add_72be8_7 : decode cJx4a65c_add_72be8 7 = .ok (.invokevirtual 129, 3) := by decide +kernel
theorem dJx4a65c_add_72be8_10 : decode cJx4a65c_add_72be8 10 = .ok (.astore_n 2, 1) := by decide +kernel
theorem dJx4a65c_add_72be8_11 : decode cJx4a65c_add_72be8 11 = .ok (.aload_n 2, 1) := by decide +kernel
theorem dJx4a65c_add_72be8_12 : decode cJx4a65c_add_72be8 12 = .ok (.iload_n 3, 1) := by decide +kernel
theorem dJx4a65c_add_72be8_13 : decode cJx4a65c_add_72be8 13 = .ok (.aload_n 1, 1) := by decide +kernel
theorem dJx4a65c_add_72be8_14 : decode cJx4a65c_add_72be8 14 = .ok (.aastore, 1) := by decide +kernel
theorem dJx4a65c_add_72be8_15 : decode cJx4a65c_add_72be8 15 = .ok (.aload_n 0, 1) := by decide +kernel
theorem dJx4a65c_add_72be8_16 : decode cJx4a65c_add_72be8 16 = .ok (.iload_n 3, 1) := by decide +kernel
theorem dJx4a65c_add_72be8_17 : decode cJx4a65c_add_72be8 17 = .ok (.iconst 1, 1) := by decide +kernel
theorem dJx4a65c_add_72be8_18 : decode cJx4a65c_add_72be8 18 = .ok (.iadd, 1) := by decide +kernel
theorem dJx4a65c_add_72be8_19 : decode cJx4a65c_add_72be8 19 = .ok (.putfield 48, 3) := by decide +kernel
theorem dJx4a65c_add_72be8_22 : decode cJx4a65c_add_72be8 22 = .ok (.return_, 1) := by decide +kernel
set_option maxRecDepth 20000 in
theorem ggJx4a65c_add_9ea2d_Jx4a65c_add_72be8 : GoodIn wsJx4a65c_add_9ea2d wsJx4a65c_add_72be8 := goodIn_r _ [9, 4, 10, 11, 12, 8, 13, 14, 15, 16, 17, 3, 18, 19, 20, 21, 22, 23, 24, 25, 26, 27, 28, 29, 30, 31, 32, 33, 34, 35, 36, 37, 38, 39, 40, 41, 42, 43, 44, 45, 46, 47, 48, 49, 50, 51, 52, 53, 54, 55] (by decide +kernel) (by decide +kernel)
set_option maxRecDepth 20000 in
theorem gJx4a65c_add_9ea2d_Jx4a65c_add_72be8 : GoodIn wsJx4a65c_add_9ea2d (wsV RJx4a65c 131 RJx4a65c yJx4a65c_add_72be8 wsJx4a65c_add_72be8) := goodIn_app (goodIn_of _ (by decide +kernel)) ggJx4a65c_add_9ea2d_Jx4a65c_add_72be8
theorem dJx4a65c_add_9ea2d_0 : decode cJx4a65c_add_9ea2d 0 = .ok (.aload_n 0, 1) := by decide +kernel
theorem dJx4a65c_add_9ea2d_1 : decode cJx4a65c_add_9ea2d 1 = .ok (.dup, 1) := by decide +kernel
theorem dJx4a65c_add_9ea2d_2 : decode cJx4a65c_add_9ea2d 2 = .ok (.getfield 63, 3) := by decide +kernel
theorem dJx4a65c_add_9ea2d_5 : decode cJx4a65c_add_9ea2d 5 = .ok (.iconst 1, 1) := by decide +kernel
theorem dJx4a65c_add_9ea2d_6 : decode cJx4a65c_add_9ea2d 6 = .ok (.iadd, 1) := by decide +kernel
theorem dJx4a65c_add_9ea2d_7 : decode cJx4a65c_add_9ea2d 7 = .ok (.putfield 63, 3) := by decide +kernel
theorem dJx4a65c_add_9ea2d_10 : decode cJx4a65c_add_9ea2d 10 = .ok (.aload_n 0, 1) := by decide +kernel
theorem dJx4a65c_add_9ea2d_11 : decode cJx4a65c_add_9ea2d 11 = .ok (.aload_n 1, 1) := by decide +kernel
theorem dJx4a65c_add_9ea2d_12 : decode cJx4a65c_add_9ea2d 12 = .ok (.aload_n 0, 1) := by decide +kernel
theorem dJx4a65c_add_9ea2d_13 : decode cJx4a65c_add_9ea2d 13 = .ok (.getfield 9, 3) := by decide +kernel
theorem dJx4a65c_add_9ea2d_16 : decode cJx4a65c_add_9ea2d 16 = .ok (.aload_n 0, 1) := by decide +kernel
theorem dJx4a65c_add_9ea2d_17 : decode cJx4a65c_add_9ea2d 17 = .ok (.getfield 48, 3) := by decide +kernel
theorem dJx4a65c_add_9ea2d_20 : decode cJx4a65c_add_9ea2d 20 = .ok (.invokevirtual 131, 3) := by decide +kernel
theorem dJx4a65c_add_9ea2d_23 : decode cJx4a65c_add_9ea2d 23 = .ok (.iconst 1, 1) := by decide +kernel
theorem dJx4a65c_add_9ea2d_24 : decode cJx4a65c_add_9ea2d 24 = .ok (.ireturn, 1) := by decide +kernel
set_option maxRecDepth 20000 in
theorem ggJx4a65c_add_7a177_Jx4a65c_rangeCheckForAdd_d00df : GoodIn wsJx4a65c_add_7a177 wsJx4a65c_rangeCheckForAdd_d00df := goodIn_r _ [13, 3, 54, 55, 56] (by decide +kernel) (by decide +kernel)
set_option maxRecDepth 20000 in
theorem gJx4a65c_add_7a177_Jx4a65c_rangeCheckForAdd_d00df : GoodIn wsJx4a65c_add_7a177 (wsV RJx4a65c 135 RJx4a65c yJx4a65c_rangeCheckForAdd_d00df wsJx4a65c_rangeCheckForAdd_d00df) := goodIn_app (goodIn_of _ (by decide +kernel)) ggJx4a65c_add_7a177_Jx4a65c_rangeCheckForAdd_d00df
set_option maxRecDepth 20000 in
theorem ggJx4a65c_add_7a177_Jx4a65c_grow_d5877 : GoodIn wsJx4a65c_add_7a177 wsJx4a65c_grow_d5877 := goodIn_r _ [17, 3, 18, 19, 20, 12, 21, 4, 22, 23, 24, 25, 26, 27, 28, 29, 30, 31, 32, 33, 34, 35, 36, 37, 38, 39, 40, 41, 42, 43, 44, 45, 46, 47, 48, 49, 50, 51, 52, 53, 6, 7, 8, 54, 55, 56] (by decide +kernel) (by decide +kernel)
set_option maxRecDepth 20000 in
theorem gJx4a65c_add_7a177_Jx4a65c_grow_d5877 : GoodIn wsJx4a65c_add_7a177 (wsV RJx4a65c 129 RJx4a65c yJx4a65c_grow_d5877 wsJx4a65c_grow_d5877) := goodIn_app (goodIn_of _ (by decide +kernel)) ggJx4a65c_add_7a177_Jx4a65c_grow_d5877
theorem dJx4a65c_add_7a177_0 : decode cJx4a65c_add_7a177 0 = .ok (.aload_n 0, 1) := by decide +kernel
theorem dJx4a65c_add_7a177_1 : decode cJx4a65c_add_7a177 1 = .ok (.iload_n 1, 1) := by decide +kernel
theorem dJx4a65c_add_7a177_2 : decode cJx4a65c_add_7a177 2 = .ok (.invokevirtual 135, 3) := by decide +kernel
theorem dJx4a65c_add_7a177_5 : decode cJx4a65c_add_7a177 5 = .ok (.aload_n 0, 1) := by decide +kernel
theorem dJx4a65c_add_7a177_6 : decode cJx4a65c_add_7a177 6 = .ok (.dup, 1) := by decide +kernel
theorem dJx4a65c_add_7a177_7 : decode cJx4a65c_add_7a177 7 = .ok (.getfield 63, 3) := by decide +kernel
theorem dJx4a65c_add_7a177_10 : decode cJx4a65c_add_7a177 10 = .ok (.iconst 1, 1) := by decide +kernel
theorem dJx4a65c_add_7a177_11 : decode cJx4a65c_add_7a177 11 = .ok (.iadd, 1) := by decide +kernel
theorem dJx4a65c_add_7a177_12 : decode cJx4a65c_add_7a177 12 = .ok (.putfield 63, 3) := by decide +kernel
theorem dJx4a65c_add_7a177_15 : decode cJx4a65c_add_7a177 15 = .ok (.aload_n 0, 1) := by decide +kernel
theorem dJx4a65c_add_7a177_16 : decode cJx4a65c_add_7a177 16 = .ok (.getfield 48, 3) := by decide +kernel
theorem dJx4a65c_add_7a177_19 : decode cJx4a65c_add_7a177 19 = .ok (.dup, 1) := by decide +kernel
theorem dJx4a65c_add_7a177_20 : decode cJx4a65c_add_7a177 20 = .ok (.istore_n 3, 1) := by decide +kernel
theorem dJx4a65c_add_7a177_21 : decode cJx4a65c_add_7a177 21 = .ok (.aload_n 0, 1) := by decide +kernel
theorem dJx4a65c_add_7a177_22 : decode cJx4a65c_add_7a177 22 = .ok (.getfield 9, 3) := by decide +kernel
theorem dJx4a65c_add_7a177_25 : decode cJx4a65c_add_7a177 25 = .ok (.dup, 1) := by decide +kernel
theorem dJx4a65c_add_7a177_26 : decode cJx4a65c_add_7a177 26 = .ok (.astore 4, 2) := by decide +kernel
theorem dJx4a65c_add_7a177_28 : decode cJx4a65c_add_7a177 28 = .ok (.arraylength, 1) := by decide +kernel
theorem dJx4a65c_add_7a177_29 : decode cJx4a65c_add_7a177 29 = .ok (.if_icmp .ne 9, 3) := by decide +kernel
theorem dJx4a65c_add_7a177_32 : decode cJx4a65c_add_7a177 32 = .ok (.aload_n 0, 1) := by decide +kernel
theorem dJx4a65c_add_7a177_33 : decode cJx4a65c_add_7a177 33 = .ok (.invokevirtual 129, 3) := by decide +kernel
theorem dJx4a65c_add_7a177_36 : decode cJx4a65c_add_7a177 36 = .ok (.astore 4, 2) := by decide +kernel
theorem dJx4a65c_add_7a177_38 : decode cJx4a65c_add_7a177 38 = .ok (.aload 4, 2) := by decide +kernel
theorem dJx4a65c_add_7a177_40 : decode cJx4a65c_add_7a177 40 = .ok (.iload_n 1, 1) := by decide +kernel
theorem dJx4a65c_add_7a177_41 : decode cJx4a65c_add_7a177 41 = .ok (.aload 4, 2) := by decide +kernel
theorem dJx4a65c_add_7a177_43 : decode cJx4a65c_add_7a177 43 = .ok (.iload_n 1, 1) := by decide +kernel
theorem dJx4a65c_add_7a177_44 : decode cJx4a65c_add_7a177 44 = .ok (.iconst 1, 1) := by decide +kernel
theorem dJx4a65c_add_7a177_45 : decode cJx4a65c_add_7a177 45 = .ok (.iadd, 1) := by decide +kernel
theorem dJx4a65c_add_7a177_46 : decode cJx4a65c_add_7a177 46 = .ok (.iload_n 3, 1) := by decide +kernel
theorem dJx4a65c_add_7a177_47 : decode cJx4a65c_add_7a177 47 = .ok (.iload_n 1, 1) := by decide +kernel
theorem dJx4a65c_add_7a177_48 : decode cJx4a65c_add_7a177 48 = .ok (.isub, 1) := by decide +kernel
theorem dJx4a65c_add_7a177_49 : decode cJx4a65c_add_7a177 49 = .ok (.invokestatic 112, 3) := by decide +kernel
theorem dJx4a65c_add_7a177_52 : decode cJx4a65c_add_7a177 52 = .ok (.aload 4, 2) := by decide +kernel
theorem dJx4a65c_add_7a177_54 : decode cJx4a65c_add_7a177 54 = .ok (.iload_n 1, 1) := by decide +kernel
theorem dJx4a65c_add_7a177_55 : decode cJx4a65c_add_7a177 55 = .ok (.aload_n 2, 1) := by decide +kernel
theorem dJx4a65c_add_7a177_56 : decode cJx4a65c_add_7a177 56 = .ok (.aastore, 1) := by decide +kernel
theorem dJx4a65c_add_7a177_57 : decode cJx4a65c_add_7a177 57 = .ok (.aload_n 0, 1) := by decide +kernel
theorem dJx4a65c_add_7a177_58 : decode cJx4a65c_add_7a177 58 = .ok (.iload_n 3, 1) := by decide +kernel
theorem dJx4a65c_add_7a177_59 : decode cJx4a65c_add_7a177 59 = .ok (.iconst 1, 1) := by decide +kernel
theorem dJx4a65c_add_7a177_60 : decode cJx4a65c_add_7a177 60 = .ok (.iadd, 1) := by decide +kernel
theorem dJx4a65c_add_7a177_61 : decode cJx4a65c_add_7a177 61 = .ok (.putfield 48, 3) := by decide +kernel
theorem dJx4a65c_add_7a177_64 : decode cJx4a65c_add_7a177 64 = .ok (.return_, 1) := by decide +kernel
set_option maxRecDepth 20000 in
theorem ggJx4a65c_remove_915e3_J15_checkIndex_7cf53 : GoodIn wsJx4a65c_remove_915e3 wsJ15_checkIndex_7cf53 := goodIn_r _ [6, 7, 8, 9, 10] (by decide +kernel) (by decide +kernel)
set_option maxRecDepth 20000 in
theorem gJx4a65c_remove_915e3_J15_checkIndex_7cf53 : GoodIn wsJx4a65c_remove_915e3 (va_wsS RJx4a65c 118 yJ15_checkIndex_7cf53 wsJ15_checkIndex_7cf53) := goodIn_app (goodIn_of _ (by decide +kernel)) ggJx4a65c_remove_915e3_J15_checkIndex_7cf53
set_option maxRecDepth 20000 in
theorem ggJx4a65c_remove_915e3_Jx4a65c_fastRemove_b59b0 : GoodIn wsJx4a65c_remove_915e3 wsJx4a65c_fastRemove_b59b0 := goodIn_r _ [15, 16, 17, 1, 18, 19, 20, 21, 22, 23, 24] (by decide +kernel) (by decide +kernel)
set_option maxRecDepth 20000 in
theorem gJx4a65c_remove_915e3_Jx4a65c_fastRemove_b59b0 : GoodIn wsJx4a65c_remove_915e3 (wsV RJx4a65c 144 RJx4a65c yJx4a65c_fastRemove_b59b0 wsJx4a65c_fastRemove_b59b0) := goodIn_app (goodIn_of _ (by decide +kernel)) ggJx4a65c_remove_915e3_Jx4a65c_fastRemove_b59b0
theorem dJx4a65c_remove_915e3_0 : decode cJx4a65c_remove_915e3 0 = .ok (.iload_n 1, 1) := by decide +kernel
theorem dJx4a65c_remove_915e3_1 : decode cJx4a65c_remove_915e3 1 = .ok (.aload_n 0, 1) := by decide +kernel
theorem dJx4a65c_remove_915e3_2 : decode cJx4a65c_remove_915e3 2 = .ok (.getfield 48, 3) := by decide +kernel
theorem dJx4a65c_remove_915e3_5 : decode cJx4a65c_remove_915e3 5 = .ok (.invokestatic 118, 3) := by decide +kernel
theorem dJx4a65c_remove_915e3_8 : decode cJx4a65c_remove_915e3 8 = .ok (.pop, 1) := by decide +kernel
theorem dJx4a65c_remove_915e3_9 : decode cJx4a65c_remove_915e3 9 = .ok (.aload_n 0, 1) := by decide +kernel
theorem dJx4a65c_remove_915e3_10 : decode cJx4a65c_remove_915e3 10 = .ok (.getfield 9, 3) := by decide +kernel
theorem dJx4a65c_remove_915e3_13 : decode cJx4a65c_remove_915e3 13 = .ok (.astore_n 2, 1) := by decide +kernel
theorem dJx4a65c_remove_915e3_14 : decode cJx4a65c_remove_915e3 14 = .ok (.aload_n 2, 1) := by decide +kernel
theorem dJx4a65c_remove_915e3_15 : decode cJx4a65c_remove_915e3 15 = .ok (.iload_n 1, 1) := by decide +kernel
theorem dJx4a65c_remove_915e3_16 : decode cJx4a65c_remove_915e3 16 = .ok (.aaload, 1) := by decide +kernel
theorem dJx4a65c_remove_915e3_17 : decode cJx4a65c_remove_915e3 17 = .ok (.astore_n 3, 1) := by decide +kernel
theorem dJx4a65c_remove_915e3_18 : decode cJx4a65c_remove_915e3 18 = .ok (.aload_n 0, 1) := by decide +kernel
theorem dJx4a65c_remove_915e3_19 : decode cJx4a65c_remove_915e3 19 = .ok (.aload_n 2, 1) := by decide +kernel
theorem dJx4a65c_remove_915e3_20 : decode cJx4a65c_remove_915e3 20 = .ok (.iload_n 1, 1) := by decide +kernel
theorem dJx4a65c_remove_915e3_21 : decode cJx4a65c_remove_915e3 21 = .ok (.invokevirtual 144, 3) := by decide +kernel
theorem dJx4a65c_remove_915e3_24 : decode cJx4a65c_remove_915e3 24 = .ok (.aload_n 3, 1) := by decide +kernel
theorem dJx4a65c_remove_915e3_25 : decode cJx4a65c_remove_915e3 25 = .ok (.areturn, 1) := by decide +kernel
theorem dJx4a65c_fastRemove_b59b0_0 : decode cJx4a65c_fastRemove_b59b0 0 = .ok (.aload_n 0, 1) := by decide +kernel
theorem dJx4a65c_fastRemove_b59b0_1 : decode cJx4a65c_fastRemove_b59b0 1 = .ok (.dup, 1) := by decide +kernel
theorem dJx4a65c_fastRemove_b59b0_2 : decode cJx4a65c_fastRemove_b59b0 2 = .ok (.getfield 63, 3) := by decide +kernel
theorem dJx4a65c_fastRemove_b59b0_5 : decode cJx4a65c_fastRemove_b59b0 5 = .ok (.iconst 1, 1) := by decide +kernel
theorem dJx4a65c_fastRemove_b59b0_6 : decode cJx4a65c_fastRemove_b59b0 6 = .ok (.iadd, 1) := by decide +kernel
theorem dJx4a65c_fastRemove_b59b0_7 : decode cJx4a65c_fastRemove_b59b0 7 = .ok (.putfield 63, 3) := by decide +kernel
theorem dJx4a65c_fastRemove_b59b0_10 : decode cJx4a65c_fastRemove_b59b0 10 = .ok (.aload_n 0, 1) := by decide +kernel
theorem dJx4a65c_fastRemove_b59b0_11 : decode cJx4a65c_fastRemove_b59b0 11 = .ok (.getfield 48, 3) := by decide +kernel
theorem dJx4a65c_fastRemove_b59b0_14 : decode cJx4a65c_fastRemove_b59b0 14 = .ok (.iconst 1, 1) := by decide +kernel
theorem dJx4a65c_fastRemove_b59b0_15 : decode cJx4a65c_fastRemove_b59b0 15 = .ok (.isub, 1) := by decide +kernel
theorem dJx4a65c_fastRemove_b59b0_16 : decode cJx4a65c_fastRemove_b59b0 16 = .ok (.dup, 1) := by decide +kernel
theorem dJx4a65c_fastRemove_b59b0_17 : decode cJx4a65c_fastRemove_b59b0 17 = .ok (.istore_n 3, 1) := by decide +kernel
theorem dJx4a65c_fastRemove_b59b0_18 : decode cJx4a65c_fastRemove_b59b0 18 = .ok (.iload_n 2, 1) := by decide +kernel
theorem dJx4a65c_fastRemove_b59b0_19 : decode cJx4a65c_fastRemove_b59b0 19 = .ok (.if_icmp .le 15, 3) := by decide +kernel
theorem dJx4a65c_fastRemove_b59b0_22 : decode cJx4a65c_fastRemove_b59b0 22 = .ok (.aload_n 1, 1) := by decide +kernel
theorem dJx4a65c_fastRemove_b59b0_23 : decode cJx4a65c_fastRemove_b59b0 23 = .ok (.iload_n 2, 1) := by decide +kernel
theorem dJx4a65c_fastRemove_b59b0_24 : decode cJx4a65c_fastRemove_b59b0 24 = .ok (.iconst 1, 1) := by decide +kernel
theorem dJx4a65c_fastRemove_b59b0_25 : decode cJx4a65c_fastRemove_b59b0 25 = .ok (.iadd, 1) := by decide +kernel
theorem dJx4a65c_fastRemove_b59b0_26 : decode cJx4a65c_fastRemove_b59b0 26 = .ok (.aload_n 1, 1) := by decide +kernel
theorem dJx4a65c_fastRemove_b59b0_27 : decode cJx4a65c_fastRemove_b59b0 27 = .ok (.iload_n 2, 1) := by decide +kernel
theorem dJx4a65c_fastRemove_b59b0_28 : decode cJx4a65c_fastRemove_b59b0 28 = .ok (.iload_n 3, 1) := by decide +kernel
theorem dJx4a65c_fastRemove_b59b0_29 : decode cJx4a65c_fastRemove_b59b0 29 = .ok (.iload_n 2, 1) := by decide +kernel
theorem dJx4a65c_fastRemove_b59b0_30 : decode cJx4a65c_fastRemove_b59b0 30 = .ok (.isub, 1) := by decide +kernel
theorem dJx4a65c_fastRemove_b59b0_31 : decode cJx4a65c_fastRemove_b59b0 31 = .ok (.invokestatic 112, 3) := by decide +kernel
theorem dJx4a65c_fastRemove_b59b0_34 : decode cJx4a65c_fastRemove_b59b0 34 = .ok (.aload_n 1, 1) := by decide +kernel
theorem dJx4a65c_fastRemove_b59b0_35 : decode cJx4a65c_fastRemove_b59b0 35 = .ok (.aload_n 0, 1) := by decide +kernel
theorem dJx4a65c_fastRemove_b59b0_36 : decode cJx4a65c_fastRemove_b59b0 36 = .ok (.iload_n 3, 1) := by decide +kernel
theorem dJx4a65c_fastRemove_b59b0_37 : decode cJx4a65c_fastRemove_b59b0 37 = .ok (.dup_x1, 1) := by decide +kernel
theorem dJx4a65c_fastRemove_b59b0_38 : decode cJx4a65c_fastRemove_b59b0 38 = .ok (.putfield 48, 3) := by decide +kernel
theorem dJx4a65c_fastRemove_b59b0_41 : decode cJx4a65c_fastRemove_b59b0 41 = .ok (.aconst_null, 1) := by decide +kernel
theorem dJx4a65c_fastRemove_b59b0_42 : decode cJx4a65c_fastRemove_b59b0 42 = .ok (.aastore, 1) := by decide +kernel
theorem dJx4a65c_fastRemove_b59b0_43 : decode cJx4a65c_fastRemove_b59b0 43 = .ok (.return_, 1) := by decide +kernel
theorem dJx4a65c_rangeCheckForAdd_d00df_0 : decode cJx4a65c_rangeCheckForAdd_d00df 0 = .ok (.iload_n 1, 1) := by decide +kernel
theorem dJx4a65c_rangeCheckForAdd_d00df_1 : decode cJx4a65c_rangeCheckForAdd_d00df 1 = .ok (.aload_n 0, 1) := by decide +kernel
theorem dJx4a65c_rangeCheckForAdd_d00df_2 : decode cJx4a65c_rangeCheckForAdd_d00df 2 = .ok (.getfield 48, 3) := by decide +kernel
theorem dJx4a65c_rangeCheckForAdd_d00df_5 : decode cJx4a65c_rangeCheckForAdd_d00df 5 = .ok (.if_icmp .gt 7, 3) := by decide +kernel
theorem dJx4a65c_rangeCheckForAdd_d00df_8 : decode cJx4a65c_rangeCheckForAdd_d00df 8 = .ok (.iload_n 1, 1) := by decide +kernel
theorem dJx4a65c_rangeCheckForAdd_d00df_9 : decode cJx4a65c_rangeCheckForAdd_d00df 9 = .ok (.ifCond .ge 16, 3) := by decide +kernel
theorem dJx4a65c_rangeCheckForAdd_d00df_12 : decode cJx4a65c_rangeCheckForAdd_d00df 12 = .ok (.new 187, 3) := by decide +kernel
theorem dJx4a65c_rangeCheckForAdd_d00df_15 : decode cJx4a65c_rangeCheckForAdd_d00df 15 = .ok (.dup, 1) := by decide +kernel
theorem dJx4a65c_rangeCheckForAdd_d00df_16 : decode cJx4a65c_rangeCheckForAdd_d00df 16 = .ok (.aload_n 0, 1) := by decide +kernel
theorem dJx4a65c_rangeCheckForAdd_d00df_17 : decode cJx4a65c_rangeCheckForAdd_d00df 17 = .ok (.iload_n 1, 1) := by decide +kernel
theorem dJx4a65c_rangeCheckForAdd_d00df_18 : decode cJx4a65c_rangeCheckForAdd_d00df 18 = .ok (.invokevirtual 198, 3) := by decide +kernel
theorem dJx4a65c_rangeCheckForAdd_d00df_21 : decode cJx4a65c_rangeCheckForAdd_d00df 21 = .ok (.invokespecial 193, 3) := by decide +kernel
theorem dJx4a65c_rangeCheckForAdd_d00df_24 : decode cJx4a65c_rangeCheckForAdd_d00df 24 = .ok (.athrow, 1) := by decide +kernel
theorem dJx4a65c_rangeCheckForAdd_d00df_25 : decode cJx4a65c_rangeCheckForAdd_d00df 25 = .ok (.return_, 1) := by decide +kernel
theorem dJ7_fill_53178_0 : decode cJ7_fill_53178 0 = .ok (.iconst 0, 1) := by decide +kernel
theorem dJ7_fill_53178_1 : decode cJ7_fill_53178 1 = .ok (.istore_n 2, 1) := by decide +kernel
theorem dJ7_fill_53178_2 : decode cJ7_fill_53178 2 = .ok (.aload_n 0, 1) := by decide +kernel
theorem dJ7_fill_53178_3 : decode cJ7_fill_53178 3 = .ok (.arraylength, 1) := by decide +kernel
theorem dJ7_fill_53178_4 : decode cJ7_fill_53178 4 = .ok (.istore_n 3, 1) := by decide +kernel
theorem dJ7_fill_53178_5 : decode cJ7_fill_53178 5 = .ok (.iload_n 2, 1) := by decide +kernel
theorem dJ7_fill_53178_6 : decode cJ7_fill_53178 6 = .ok (.iload_n 3, 1) := by decide +kernel
theorem dJ7_fill_53178_7 : decode cJ7_fill_53178 7 = .ok (.if_icmp .ge 13, 3) := by decide +kernel
theorem dJ7_fill_53178_10 : decode cJ7_fill_53178 10 = .ok (.aload_n 0, 1) := by decide +kernel
theorem dJ7_fill_53178_11 : decode cJ7_fill_53178 11 = .ok (.iload_n 2, 1) := by decide +kernel
theorem dJ7_fill_53178_12 : decode cJ7_fill_53178 12 = .ok (.iload_n 1, 1) := by decide +kernel
theorem dJ7_fill_53178_13 : decode cJ7_fill_53178 13 = .ok (.iastore, 1) := by decide +kernel
theorem dJ7_fill_53178_14 : decode cJ7_fill_53178 14 = .ok (.iinc 2 1, 3) := by decide +kernel
theorem dJ7_fill_53178_17 : decode cJ7_fill_53178 17 = .ok (.goto (-12), 3) := by decide +kernel
theorem dJ7_fill_53178_20 : decode cJ7_fill_53178 20 = .ok (.return_, 1) := by decide +kernel
set_option maxRecDepth 20000 in
theorem ggJ7_copyOf_1904c_J7_copyOf_6403c : GoodIn wsJ7_copyOf_1904c wsJ7_copyOf_6403c := goodIn_r _ [8, 9, 10, 11, 12, 13, 14, 15, 16, 17, 18] (by decide +kernel) (by decide +kernel)
set_option maxRecDepth 20000 in
theorem gJ7_copyOf_1904c_J7_copyOf_6403c : GoodIn wsJ7_copyOf_1904c (va_wsS RJ7 300 yJ7_copyOf_6403c wsJ7_copyOf_6403c) := goodIn_app (goodIn_of _ (by decide +kernel)) ggJ7_copyOf_1904c_J7_copyOf_6403c
theorem dJ7_copyOf_1904c_0 : decode cJ7_copyOf_1904c 0 = .ok (.aload_n 0, 1) := by decide +kernel
theorem dJ7_copyOf_1904c_1 : decode cJ7_copyOf_1904c 1 = .ok (.iload_n 1, 1) := by decide +kernel
theorem dJ7_copyOf_1904c_2 : decode cJ7_copyOf_1904c 2 = .ok (.aload_n 0, 1) := by decide +kernel
theorem dJ7_copyOf_1904c_3 : decode cJ7_copyOf_1904c 3 = .ok (.invokevirtual 86, 3) := by decide +kernel
theorem dJ7_copyOf_1904c_6 : decode cJ7_copyOf_1904c 6 = .ok (.invokestatic 300, 3) := by decide +kernel
theorem dJ7_copyOf_1904c_9 : decode cJ7_copyOf_1904c 9 = .ok (.areturn, 1) := by decide +kernel
theorem dJ7_copyOf_6403c_0 : decode cJ7_copyOf_6403c 0 = .ok (.aload_n 2, 1) := by decide +kernel
theorem dJ7_copyOf_6403c_1 : decode cJ7_copyOf_6403c 1 = .ok (.ldc 110, 2) := by decide +kernel
theorem dJ7_copyOf_6403c_3 : decode cJ7_copyOf_6403c 3 = .ok (.if_acmp .ne 10, 3) := by decide +kernel
theorem dJ7_copyOf_6403c_6 : decode cJ7_copyOf_6403c 6 = .ok (.iload_n 1, 1) := by decide +kernel
theorem dJ7_copyOf_6403c_7 : decode cJ7_copyOf_6403c 7 = .ok (.anewarray 2, 3) := by decide +kernel
theorem dJ7_copyOf_6403c_10 : decode cJ7_copyOf_6403c 10 = .ok (.goto 14, 3) := by decide +kernel
theorem dJ7_copyOf_6403c_13 : decode cJ7_copyOf_6403c 13 = .ok (.aload_n 2, 1) := by decide +kernel
theorem dJ7_copyOf_6403c_14 : decode cJ7_copyOf_6403c 14 = .ok (.invokevirtual 90, 3) := by decide +kernel
theorem dJ7_copyOf_6403c_17 : decode cJ7_copyOf_6403c 17 = .ok (.iload_n 1, 1) := by decide +kernel
theorem dJ7_copyOf_6403c_18 : decode cJ7_copyOf_6403c 18 = .ok (.invokestatic 95, 3) := by decide +kernel
theorem dJ7_copyOf_6403c_21 : decode cJ7_copyOf_6403c 21 = .ok (.checkcast 110, 3) := by decide +kernel
theorem dJ7_copyOf_6403c_24 : decode cJ7_copyOf_6403c 24 = .ok (.astore_n 3, 1) := by decide +kernel
theorem dJ7_copyOf_6403c_25 : decode cJ7_copyOf_6403c 25 = .ok (.aload_n 0, 1) := by decide +kernel
theorem dJ7_copyOf_6403c_26 : decode cJ7_copyOf_6403c 26 = .ok (.iconst 0, 1) := by decide +kernel
theorem dJ7_copyOf_6403c_27 : decode cJ7_copyOf_6403c 27 = .ok (.aload_n 3, 1) := by decide +kernel
theorem dJ7_copyOf_6403c_28 : decode cJ7_copyOf_6403c 28 = .ok (.iconst 0, 1) := by decide +kernel
theorem dJ7_copyOf_6403c_29 : decode cJ7_copyOf_6403c 29 = .ok (.aload_n 0, 1) := by decide +kernel
theorem dJ7_copyOf_6403c_30 : decode cJ7_copyOf_6403c 30 = .ok (.arraylength, 1) := by decide +kernel
theorem dJ7_copyOf_6403c_31 : decode cJ7_copyOf_6403c 31 = .ok (.iload_n 1, 1) := by decide +kernel
theorem dJ7_copyOf_6403c_32 : decode cJ7_copyOf_6403c 32 = .ok (.invokestatic 304, 3) := by decide +kernel
theorem dJ7_copyOf_6403c_35 : decode cJ7_copyOf_6403c 35 = .ok (.invokestatic 150, 3) := by decide +kernel
theorem dJ7_copyOf_6403c_38 : decode cJ7_copyOf_6403c 38 = .ok (.aload_n 3, 1) := by decide +kernel
theorem dJ7_copyOf_6403c_39 : decode cJ7_copyOf_6403c 39 = .ok (.areturn, 1) := by decide +kernel
set_option maxRecDepth 20000 in
theorem ggJ15_checkIndex_7cf53_J3_checkIndex_8e157 : GoodIn wsJ15_checkIndex_7cf53 wsJ3_checkIndex_8e157 := goodIn_r _ [4] (by decide +kernel) (by decide +kernel)
set_option maxRecDepth 20000 in
theorem gJ15_checkIndex_7cf53_J3_checkIndex_8e157 : GoodIn wsJ15_checkIndex_7cf53 (va_wsS RJ15 105 yJ3_checkIndex_8e157 wsJ3_checkIndex_8e157) := goodIn_app (goodIn_of _ (by decide +kernel)) ggJ15_checkIndex_7cf53_J3_checkIndex_8e157
theorem dJ15_checkIndex_7cf53_0 : decode cJ15_checkIndex_7cf53 0 = .ok (.iload_n 0, 1) := by decide +kernel
theorem dJ15_checkIndex_7cf53_1 : decode cJ15_checkIndex_7cf53 1 = .ok (.iload_n 1, 1) := by decide +kernel
theorem dJ15_checkIndex_7cf53_2 : decode cJ15_checkIndex_7cf53 2 = .ok (.aconst_null, 1) := by decide +kernel
theorem dJ15_checkIndex_7cf53_3 : decode cJ15_checkIndex_7cf53 3 = .ok (.invokestatic 105, 3) := by decide +kernel
theorem dJ15_checkIndex_7cf53_6 : decode cJ15_checkIndex_7cf53 6 = .ok (.ireturn, 1) := by decide +kernel
set_option maxRecDepth 20000 in
theorem ggJ8_newLength_cabcc_J8_hugeLength_7cf53 : GoodIn wsJ8_newLength_cabcc wsJ8_hugeLength_7cf53 := goodIn_r _ [9, 5] (by decide +kernel) (by decide +kernel)
set_option maxRecDepth 20000 in
theorem gJ8_newLength_cabcc_J8_hugeLength_7cf53 : GoodIn wsJ8_newLength_cabcc (va_wsS RJ8 201 yJ8_hugeLength_7cf53 wsJ8_hugeLength_7cf53) := goodIn_app (goodIn_of _ (by decide +kernel)) ggJ8_newLength_cabcc_J8_hugeLength_7cf53
theorem dJ8_newLength_cabcc_0 : decode cJ8_newLength_cabcc 0 = .ok (.iload_n 0, 1) := by decide +kernel
theorem dJ8_newLength_cabcc_1 : decode cJ8_newLength_cabcc 1 = .ok (.iload_n 1, 1) := by decide +kernel
theorem dJ8_newLength_cabcc_2 : decode cJ8_newLength_cabcc 2 = .ok (.iload_n 2, 1) := by decide +kernel
theorem dJ8_newLength_cabcc_3 : decode cJ8_newLength_cabcc 3 = .ok (.invokestatic 194, 3) := by decide +kernel
theorem dJ8_newLength_cabcc_6 : decode cJ8_newLength_cabcc 6 = .ok (.iadd, 1) := by decide +kernel
theorem dJ8_newLength_cabcc_7 : decode cJ8_newLength_cabcc 7 = .ok (.istore_n 3, 1) := by decide +kernel
theorem dJ8_newLength_cabcc_8 : decode cJ8_newLength_cabcc 8 = .ok (.iconst 0, 1) := by decide +kernel
theorem dJ8_newLength_cabcc_9 : decode cJ8_newLength_cabcc 9 = .ok (.iload_n 3, 1) := by decide +kernel
theorem dJ8_newLength_cabcc_10 : decode cJ8_newLength_cabcc 10 = .ok (.if_icmp .ge 11, 3) := by decide +kernel
theorem dJ8_newLength_cabcc_13 : decode cJ8_newLength_cabcc 13 = .ok (.iload_n 3, 1) := by decide +kernel
theorem dJ8_newLength_cabcc_14 : decode cJ8_newLength_cabcc 14 = .ok (.ldc 200, 2) := by decide +kernel
theorem dJ8_newLength_cabcc_16 : decode cJ8_newLength_cabcc 16 = .ok (.if_icmp .gt 5, 3) := by decide +kernel
theorem dJ8_newLength_cabcc_19 : decode cJ8_newLength_cabcc 19 = .ok (.iload_n 3, 1) := by decide +kernel
theorem dJ8_newLength_cabcc_20 : decode cJ8_newLength_cabcc 20 = .ok (.ireturn, 1) := by decide +kernel
theorem dJ8_newLength_cabcc_21 : decode cJ8_newLength_cabcc 21 = .ok (.iload_n 0, 1) := by decide +kernel
theorem dJ8_newLength_cabcc_22 : decode cJ8_newLength_cabcc 22 = .ok (.iload_n 1, 1) := by decide +kernel
theorem dJ8_newLength_cabcc_23 : decode cJ8_newLength_cabcc 23 = .ok (.invokestatic 201, 3) := by decide +kernel
theorem dJ8_newLength_cabcc_26 : decode cJ8_newLength_cabcc 26 = .ok (.ireturn, 1) := by decide +kernel
theorem dJ8_hugeLength_7cf53_0 : decode cJ8_hugeLength_7cf53 0 = .ok (.iload_n 0, 1) := by decide +kernel
theorem dJ8_hugeLength_7cf53_1 : decode cJ8_hugeLength_7cf53 1 = .ok (.iload_n 1, 1) := by decide +kernel
theorem dJ8_hugeLength_7cf53_2 : decode cJ8_hugeLength_7cf53 2 = .ok (.iadd, 1) := by decide +kernel
theorem dJ8_hugeLength_7cf53_3 : decode cJ8_hugeLength_7cf53 3 = .ok (.istore_n 2, 1) := by decide +kernel
theorem dJ8_hugeLength_7cf53_4 : decode cJ8_hugeLength_7cf53 4 = .ok (.iload_n 2, 1) := by decide +kernel
theorem dJ8_hugeLength_7cf53_5 : decode cJ8_hugeLength_7cf53 5 = .ok (.ifCond .ge 44, 3) := by decide +kernel
theorem dJ8_hugeLength_7cf53_8 : decode cJ8_hugeLength_7cf53 8 = .ok (.new 204, 3) := by decide +kernel
theorem dJ8_hugeLength_7cf53_11 : decode cJ8_hugeLength_7cf53 11 = .ok (.dup, 1) := by decide +kernel
theorem dJ8_hugeLength_7cf53_12 : decode cJ8_hugeLength_7cf53 12 = .ok (.new 89, 3) := by decide +kernel
theorem dJ8_hugeLength_7cf53_15 : decode cJ8_hugeLength_7cf53 15 = .ok (.dup, 1) := by decide +kernel
theorem dJ8_hugeLength_7cf53_16 : decode cJ8_hugeLength_7cf53 16 = .ok (.invokespecial 91, 3) := by decide +kernel
theorem dJ8_hugeLength_7cf53_19 : decode cJ8_hugeLength_7cf53 19 = .ok (.ldc 206, 2) := by decide +kernel
theorem dJ8_hugeLength_7cf53_21 : decode cJ8_hugeLength_7cf53 21 = .ok (.invokevirtual 94, 3) := by decide +kernel
theorem dJ8_hugeLength_7cf53_24 : decode cJ8_hugeLength_7cf53 24 = .ok (.iload_n 0, 1) := by decide +kernel
theorem dJ8_hugeLength_7cf53_25 : decode cJ8_hugeLength_7cf53 25 = .ok (.invokevirtual 98, 3) := by decide +kernel
theorem dJ8_hugeLength_7cf53_28 : decode cJ8_hugeLength_7cf53 28 = .ok (.ldc 208, 2) := by decide +kernel
theorem dJ8_hugeLength_7cf53_30 : decode cJ8_hugeLength_7cf53 30 = .ok (.invokevirtual 94, 3) := by decide +kernel
theorem dJ8_hugeLength_7cf53_33 : decode cJ8_hugeLength_7cf53 33 = .ok (.iload_n 1, 1) := by decide +kernel
theorem dJ8_hugeLength_7cf53_34 : decode cJ8_hugeLength_7cf53 34 = .ok (.invokevirtual 98, 3) := by decide +kernel
theorem dJ8_hugeLength_7cf53_37 : decode cJ8_hugeLength_7cf53 37 = .ok (.ldc 210, 2) := by decide +kernel
theorem dJ8_hugeLength_7cf53_39 : decode cJ8_hugeLength_7cf53 39 = .ok (.invokevirtual 94, 3) := by decide +kernel
theorem dJ8_hugeLength_7cf53_42 : decode cJ8_hugeLength_7cf53 42 = .ok (.invokevirtual 101, 3) := by decide +kernel
theorem dJ8_hugeLength_7cf53_45 : decode cJ8_hugeLength_7cf53 45 = .ok (.invokespecial 212, 3) := by decide +kernel
theorem dJ8_hugeLength_7cf53_48 : decode cJ8_hugeLength_7cf53 48 = .ok (.athrow, 1) := by decide +kernel
theorem dJ8_hugeLength_7cf53_49 : decode cJ8_hugeLength_7cf53 49 = .ok (.iload_n 2, 1) := by decide +kernel
theorem dJ8_hugeLength_7cf53_50 : decode cJ8_hugeLength_7cf53 50 = .ok (.ldc 200, 2) := by decide +kernel
theorem dJ8_hugeLength_7cf53_52 : decode cJ8_hugeLength_7cf53 52 = .ok (.if_icmp .gt 6, 3) := by decide +kernel
theorem dJ8_hugeLength_7cf53_55 : decode cJ8_hugeLength_7cf53 55 = .ok (.ldc 200, 2) := by decide +kernel
theorem dJ8_hugeLength_7cf53_57 : decode cJ8_hugeLength_7cf53 57 = .ok (.ireturn, 1) := by decide +kernel
theorem dJ8_hugeLength_7cf53_58 : decode cJ8_hugeLength_7cf53 58 = .ok (.iload_n 2, 1) := by decide +kernel
theorem dJ8_hugeLength_7cf53_59 : decode cJ8_hugeLength_7cf53 59 = .ok (.ireturn, 1) := by decide +kernel
theorem dJ3_checkIndex_8e157_0 : decode cJ3_checkIndex_8e157 0 = .ok (.iload_n 0, 1) := by decide +kernel
theorem dJ3_checkIndex_8e157_1 : decode cJ3_checkIndex_8e157 1 = .ok (.ifCond .lt 8, 3) := by decide +kernel
theorem dJ3_checkIndex_8e157_4 : decode cJ3_checkIndex_8e157 4 = .ok (.iload_n 0, 1) := by decide +kernel
theorem dJ3_checkIndex_8e157_5 : decode cJ3_checkIndex_8e157 5 = .ok (.iload_n 1, 1) := by decide +kernel
theorem dJ3_checkIndex_8e157_6 : decode cJ3_checkIndex_8e157 6 = .ok (.if_icmp .lt 10, 3) := by decide +kernel
theorem dJ3_checkIndex_8e157_9 : decode cJ3_checkIndex_8e157 9 = .ok (.aload_n 2, 1) := by decide +kernel
theorem dJ3_checkIndex_8e157_10 : decode cJ3_checkIndex_8e157 10 = .ok (.iload_n 0, 1) := by decide +kernel
theorem dJ3_checkIndex_8e157_11 : decode cJ3_checkIndex_8e157 11 = .ok (.iload_n 1, 1) := by decide +kernel
theorem dJ3_checkIndex_8e157_12 : decode cJ3_checkIndex_8e157 12 = .ok (.invokestatic 95, 3) := by decide +kernel
theorem dJ3_checkIndex_8e157_15 : decode cJ3_checkIndex_8e157 15 = .ok (.athrow, 1) := by decide +kernel
theorem dJ3_checkIndex_8e157_16 : decode cJ3_checkIndex_8e157 16 = .ok (.iload_n 0, 1) := by decide +kernel
theorem dJ3_checkIndex_8e157_17 : decode cJ3_checkIndex_8e157 17 = .ok (.ireturn, 1) := by decide +kernel
theorem dL_below_0 : decode cL_below 0 = .ok (.iload_n 0, 1) := by decide +kernel
theorem dL_below_1 : decode cL_below 1 = .ok (.ldc 7, 2) := by decide +kernel
theorem dL_below_3 : decode cL_below 3 = .ok (.iand, 1) := by decide +kernel
theorem dL_below_4 : decode cL_below 4 = .ok (.iload_n 1, 1) := by decide +kernel
theorem dL_below_5 : decode cL_below 5 = .ok (.irem, 1) := by decide +kernel
theorem dL_below_6 : decode cL_below 6 = .ok (.ireturn, 1) := by decide +kernel
theorem dL_cell_0 : decode cL_cell 0 = .ok (.iload_n 1, 1) := by decide +kernel
theorem dL_cell_1 : decode cL_cell 1 = .ok (.aload_n 0, 1) := by decide +kernel
theorem dL_cell_2 : decode cL_cell 2 = .ok (.arraylength, 1) := by decide +kernel
theorem dL_cell_3 : decode cL_cell 3 = .ok (.if_icmp .ge 9, 3) := by decide +kernel
theorem dL_cell_6 : decode cL_cell 6 = .ok (.aload_n 0, 1) := by decide +kernel
theorem dL_cell_7 : decode cL_cell 7 = .ok (.iload_n 1, 1) := by decide +kernel
theorem dL_cell_8 : decode cL_cell 8 = .ok (.iaload, 1) := by decide +kernel
theorem dL_cell_9 : decode cL_cell 9 = .ok (.goto 9, 3) := by decide +kernel
theorem dL_cell_12 : decode cL_cell 12 = .ok (.ldc 8, 2) := by decide +kernel
theorem dL_cell_14 : decode cL_cell 14 = .ok (.iload_n 1, 1) := by decide +kernel
theorem dL_cell_15 : decode cL_cell 15 = .ok (.iconst 3, 1) := by decide +kernel
theorem dL_cell_16 : decode cL_cell 16 = .ok (.iadd, 1) := by decide +kernel
theorem dL_cell_17 : decode cL_cell 17 = .ok (.imul, 1) := by decide +kernel
theorem dL_cell_18 : decode cL_cell 18 = .ok (.ireturn, 1) := by decide +kernel
set_option maxRecDepth 20000 in
theorem ggL_build_X7_init : GoodIn wsL_build wsX7_init := goodIn_r _ [7, 8, 9, 10, 11, 12, 13, 14, 15, 16, 17, 18, 19, 220, 221, 222, 223, 224, 225, 226, 227, 228, 229] (by decide +kernel) (by decide +kernel)
set_option maxRecDepth 20000 in
theorem gL_build_X7_init_n11 : GoodIn wsL_build (wsX7_init) := ggL_build_X7_init
set_option maxRecDepth 20000 in
theorem ggL_build_L_cell : GoodIn wsL_build wsL_cell := goodIn_r _ [23, 24] (by decide +kernel) (by decide +kernel)
set_option maxRecDepth 20000 in
theorem gL_build_L_cell : GoodIn wsL_build (va_wsS RL 12 yL_cell wsL_cell) := goodIn_app (goodIn_of _ (by decide +kernel)) ggL_build_L_cell
set_option maxRecDepth 20000 in
theorem ggL_build_L_below : GoodIn wsL_build wsL_below := goodIn_r _ [27, 28] (by decide +kernel) (by decide +kernel)
set_option maxRecDepth 20000 in
theorem gL_build_L_below : GoodIn wsL_build (va_wsS RL 18 yL_below wsL_below) := goodIn_app (goodIn_of _ (by decide +kernel)) ggL_build_L_below
set_option maxRecDepth 20000 in
theorem ggL_build_X7_addStation : GoodIn wsL_build wsX7_addStation := goodIn_r _ [163, 12, 4, 19, 17, 15, 164, 165, 3, 166, 11, 220, 221, 222, 223, 224, 225, 226, 227, 228, 229] (by decide +kernel) (by decide +kernel)
set_option maxRecDepth 20000 in
theorem gL_build_X7_addStation : GoodIn wsL_build (wsV RL 27 RX7 yX7_addStation wsX7_addStation) := goodIn_app (goodIn_of _ (by decide +kernel)) ggL_build_X7_addStation
set_option maxRecDepth 20000 in
theorem ggL_build_X7_out : GoodIn wsL_build wsX7_out := goodIn_r _ [170, 19, 220, 221, 222, 223, 224, 225, 226, 227, 228, 229] (by decide +kernel) (by decide +kernel)
set_option maxRecDepth 20000 in
theorem gL_build_X7_out : GoodIn wsL_build (wsV RL 30 RX7 yX7_out wsX7_out) := goodIn_app (goodIn_of _ (by decide +kernel)) ggL_build_X7_out
set_option maxRecDepth 20000 in
theorem ggL_build_X7_addTube : GoodIn wsL_build wsX7_addTube := goodIn_r _ [219, 19, 4, 13, 18, 15, 164, 165, 3, 166, 11, 220, 221, 222, 223, 224, 225, 226, 227, 228, 229] (by decide +kernel) (by decide +kernel)
set_option maxRecDepth 20000 in
theorem gL_build_X7_addTube : GoodIn wsL_build (wsV RL 42 RX7 yX7_addTube wsX7_addTube) := goodIn_app (goodIn_of _ (by decide +kernel)) ggL_build_X7_addTube
theorem dL_build_0 : decode cL_build 0 = .ok (.new 9, 3) := by decide +kernel
theorem dL_build_3 : decode cL_build 3 = .ok (.dup, 1) := by decide +kernel
theorem dL_build_4 : decode cL_build 4 = .ok (.invokespecial 11, 3) := by decide +kernel
theorem dL_build_7 : decode cL_build 7 = .ok (.astore_n 3, 1) := by decide +kernel
theorem dL_build_8 : decode cL_build 8 = .ok (.iconst 2, 1) := by decide +kernel
theorem dL_build_9 : decode cL_build 9 = .ok (.aload_n 1, 1) := by decide +kernel
theorem dL_build_10 : decode cL_build 10 = .ok (.iconst 0, 1) := by decide +kernel
theorem dL_build_11 : decode cL_build 11 = .ok (.invokestatic 12, 3) := by decide +kernel
theorem dL_build_14 : decode cL_build 14 = .ok (.iload_n 2, 1) := by decide +kernel
theorem dL_build_15 : decode cL_build 15 = .ok (.iconst 1, 1) := by decide +kernel
theorem dL_build_16 : decode cL_build 16 = .ok (.isub, 1) := by decide +kernel
theorem dL_build_17 : decode cL_build 17 = .ok (.invokestatic 18, 3) := by decide +kernel
theorem dL_build_20 : decode cL_build 20 = .ok (.iadd, 1) := by decide +kernel
theorem dL_build_21 : decode cL_build 21 = .ok (.istore 4, 2) := by decide +kernel
theorem dL_build_23 : decode cL_build 23 = .ok (.iconst 0, 1) := by decide +kernel
theorem dL_build_24 : decode cL_build 24 = .ok (.istore 5, 2) := by decide +kernel
theorem dL_build_26 : decode cL_build 26 = .ok (.iload 5, 2) := by decide +kernel
theorem dL_build_28 : decode cL_build 28 = .ok (.iload 4, 2) := by decide +kernel
theorem dL_build_30 : decode cL_build 30 = .ok (.if_icmp .ge 102, 3) := by decide +kernel
theorem dL_build_33 : decode cL_build 33 = .ok (.aload_n 1, 1) := by decide +kernel
theorem dL_build_34 : decode cL_build 34 = .ok (.iconst 1, 1) := by decide +kernel
theorem dL_build_35 : decode cL_build 35 = .ok (.iload 5, 2) := by decide +kernel
theorem dL_build_37 : decode cL_build 37 = .ok (.iconst 5, 1) := by decide +kernel
theorem dL_build_38 : decode cL_build 38 = .ok (.irem, 1) := by decide +kernel
theorem dL_build_39 : decode cL_build 39 = .ok (.iadd, 1) := by decide +kernel
theorem dL_build_40 : decode cL_build 40 = .ok (.invokestatic 12, 3) := by decide +kernel
theorem dL_build_43 : decode cL_build 43 = .ok (.istore 6, 2) := by decide +kernel
theorem dL_build_45 : decode cL_build 45 = .ok (.iconst 1, 1) := by decide +kernel
theorem dL_build_46 : decode cL_build 46 = .ok (.iload 6, 2) := by decide +kernel
theorem dL_build_48 : decode cL_build 48 = .ok (.iload 5, 2) := by decide +kernel
theorem dL_build_50 : decode cL_build 50 = .ok (.ishr, 1) := by decide +kernel
theorem dL_build_51 : decode cL_build 51 = .ok (.aload_n 1, 1) := by decide +kernel
theorem dL_build_52 : decode cL_build 52 = .ok (.iconst 0, 1) := by decide +kernel
theorem dL_build_53 : decode cL_build 53 = .ok (.invokestatic 12, 3) := by decide +kernel
theorem dL_build_56 : decode cL_build 56 = .ok (.iconst 4, 1) := by decide +kernel
theorem dL_build_57 : decode cL_build 57 = .ok (.ishr, 1) := by decide +kernel
theorem dL_build_58 : decode cL_build 58 = .ok (.iconst 2, 1) := by decide +kernel
theorem dL_build_59 : decode cL_build 59 = .ok (.invokestatic 18, 3) := by decide +kernel
theorem dL_build_62 : decode cL_build 62 = .ok (.ifCond .ne 8, 3) := by decide +kernel
theorem dL_build_65 : decode cL_build 65 = .ok (.bipush 9, 2) := by decide +kernel
theorem dL_build_67 : decode cL_build 67 = .ok (.goto 4, 3) := by decide +kernel
theorem dL_build_70 : decode cL_build 70 = .ok (.iconst 2, 1) := by decide +kernel
theorem dL_build_71 : decode cL_build 71 = .ok (.invokestatic 18, 3) := by decide +kernel
theorem dL_build_74 : decode cL_build 74 = .ok (.iadd, 1) := by decide +kernel
theorem dL_build_75 : decode cL_build 75 = .ok (.istore 7, 2) := by decide +kernel
theorem dL_build_77 : decode cL_build 77 = .ok (.iload 6, 2) := by decide +kernel
theorem dL_build_79 : decode cL_build 79 = .ok (.iconst 3, 1) := by decide +kernel
theorem dL_build_80 : decode cL_build 80 = .ok (.ishr, 1) := by decide +kernel
theorem dL_build_81 : decode cL_build 81 = .ok (.iconst 2, 1) := by decide +kernel
theorem dL_build_82 : decode cL_build 82 = .ok (.invokestatic 18, 3) := by decide +kernel
theorem dL_build_85 : decode cL_build 85 = .ok (.ifCond .ne 7, 3) := by decide +kernel
theorem dL_build_88 : decode cL_build 88 = .ok (.iconst 0, 1) := by decide +kernel
theorem dL_build_89 : decode cL_build 89 = .ok (.goto 12, 3) := by decide +kernel
theorem dL_build_92 : decode cL_build 92 = .ok (.iload 6, 2) := by decide +kernel
theorem dL_build_94 : decode cL_build 94 = .ok (.iconst 5, 1) := by decide +kernel
theorem dL_build_95 : decode cL_build 95 = .ok (.ishr, 1) := by decide +kernel
theorem dL_build_96 : decode cL_build 96 = .ok (.bipush 8, 2) := by decide +kernel
theorem dL_build_98 : decode cL_build 98 = .ok (.invokestatic 18, 3) := by decide +kernel
theorem dL_build_101 : decode cL_build 101 = .ok (.istore 8, 2) := by decide +kernel
theorem dL_build_103 : decode cL_build 103 = .ok (.aload_n 0, 1) := by decide +kernel
theorem dL_build_104 : decode cL_build 104 = .ok (.iload 7, 2) := by decide +kernel
theorem dL_build_106 : decode cL_build 106 = .ok (.iload 8, 2) := by decide +kernel
theorem dL_build_108 : decode cL_build 108 = .ok (.invokevirtual 22, 3) := by decide +kernel
theorem dL_build_111 : decode cL_build 111 = .ok (.iload 5, 2) := by decide +kernel
theorem dL_build_113 : decode cL_build 113 = .ok (.if_icmp .eq 5, 3) := by decide +kernel
theorem dL_build_116 : decode cL_build 116 = .ok (.aconst_null, 1) := by decide +kernel
theorem dL_build_117 : decode cL_build 117 = .ok (.areturn, 1) := by decide +kernel
theorem dL_build_118 : decode cL_build 118 = .ok (.aload_n 3, 1) := by decide +kernel
theorem dL_build_119 : decode cL_build 119 = .ok (.iload 7, 2) := by decide +kernel
theorem dL_build_121 : decode cL_build 121 = .ok (.iload 8, 2) := by decide +kernel
theorem dL_build_123 : decode cL_build 123 = .ok (.invokevirtual 27, 3) := by decide +kernel
theorem dL_build_126 : decode cL_build 126 = .ok (.iinc 5 1, 3) := by decide +kernel
theorem dL_build_129 : decode cL_build 129 = .ok (.goto (-103), 3) := by decide +kernel
theorem dL_build_132 : decode cL_build 132 = .ok (.iload 4, 2) := by decide +kernel
theorem dL_build_134 : decode cL_build 134 = .ok (.aload_n 1, 1) := by decide +kernel
theorem dL_build_135 : decode cL_build 135 = .ok (.bipush 6, 2) := by decide +kernel
theorem dL_build_137 : decode cL_build 137 = .ok (.invokestatic 12, 3) := by decide +kernel
theorem dL_build_140 : decode cL_build 140 = .ok (.bipush 6, 2) := by decide +kernel
theorem dL_build_142 : decode cL_build 142 = .ok (.invokestatic 18, 3) := by decide +kernel
theorem dL_build_145 : decode cL_build 145 = .ok (.iadd, 1) := by decide +kernel
theorem dL_build_146 : decode cL_build 146 = .ok (.istore 5, 2) := by decide +kernel
theorem dL_build_148 : decode cL_build 148 = .ok (.iconst 0, 1) := by decide +kernel
theorem dL_build_149 : decode cL_build 149 = .ok (.istore 6, 2) := by decide +kernel
theorem dL_build_151 : decode cL_build 151 = .ok (.iload 6, 2) := by decide +kernel
theorem dL_build_153 : decode cL_build 153 = .ok (.iload 5, 2) := by decide +kernel
theorem dL_build_155 : decode cL_build 155 = .ok (.if_icmp .ge 249, 3) := by decide +kernel
theorem dL_build_158 : decode cL_build 158 = .ok (.aload_n 1, 1) := by decide +kernel
theorem dL_build_159 : decode cL_build 159 = .ok (.bipush 6, 2) := by decide +kernel
theorem dL_build_161 : decode cL_build 161 = .ok (.iload 6, 2) := by decide +kernel
theorem dL_build_163 : decode cL_build 163 = .ok (.bipush 10, 2) := by decide +kernel
theorem dL_build_165 : decode cL_build 165 = .ok (.irem, 1) := by decide +kernel
theorem dL_build_166 : decode cL_build 166 = .ok (.iadd, 1) := by decide +kernel
theorem dL_build_167 : decode cL_build 167 = .ok (.invokestatic 12, 3) := by decide +kernel
theorem dL_build_170 : decode cL_build 170 = .ok (.iload 6, 2) := by decide +kernel
theorem dL_build_172 : decode cL_build 172 = .ok (.bipush 10, 2) := by decide +kernel
theorem dL_build_174 : decode cL_build 174 = .ok (.idiv, 1) := by decide +kernel
theorem dL_build_175 : decode cL_build 175 = .ok (.ishr, 1) := by decide +kernel
theorem dL_build_176 : decode cL_build 176 = .ok (.iconst 5, 1) := by decide +kernel
theorem dL_build_177 : decode cL_build 177 = .ok (.iload 6, 2) := by decide +kernel
theorem dL_build_179 : decode cL_build 179 = .ok (.imul, 1) := by decide +kernel
theorem dL_build_180 : decode cL_build 180 = .ok (.iadd, 1) := by decide +kernel
theorem dL_build_181 : decode cL_build 181 = .ok (.istore 7, 2) := by decide +kernel
theorem dL_build_183 : decode cL_build 183 = .ok (.iload 6, 2) := by decide +kernel
theorem dL_build_185 : decode cL_build 185 = .ok (.iload 4, 2) := by decide +kernel
theorem dL_build_187 : decode cL_build 187 = .ok (.if_icmp .ge 8, 3) := by decide +kernel
theorem dL_build_190 : decode cL_build 190 = .ok (.iload 6, 2) := by decide +kernel
theorem dL_build_192 : decode cL_build 192 = .ok (.goto 10, 3) := by decide +kernel
theorem dL_build_195 : decode cL_build 195 = .ok (.iload 7, 2) := by decide +kernel
theorem dL_build_197 : decode cL_build 197 = .ok (.iload 4, 2) := by decide +kernel
theorem dL_build_199 : decode cL_build 199 = .ok (.invokestatic 18, 3) := by decide +kernel
theorem dL_build_202 : decode cL_build 202 = .ok (.istore 8, 2) := by decide +kernel
theorem dL_build_204 : decode cL_build 204 = .ok (.iload 8, 2) := by decide +kernel
theorem dL_build_206 : decode cL_build 206 = .ok (.iconst 1, 1) := by decide +kernel
theorem dL_build_207 : decode cL_build 207 = .ok (.iadd, 1) := by decide +kernel
theorem dL_build_208 : decode cL_build 208 = .ok (.iload 7, 2) := by decide +kernel
theorem dL_build_210 : decode cL_build 210 = .ok (.iconst 2, 1) := by decide +kernel
theorem dL_build_211 : decode cL_build 211 = .ok (.ishr, 1) := by decide +kernel
theorem dL_build_212 : decode cL_build 212 = .ok (.iload 6, 2) := by decide +kernel
theorem dL_build_214 : decode cL_build 214 = .ok (.iload 4, 2) := by decide +kernel
theorem dL_build_216 : decode cL_build 216 = .ok (.if_icmp .ge 18, 3) := by decide +kernel
theorem dL_build_219 : decode cL_build 219 = .ok (.iload 7, 2) := by decide +kernel
theorem dL_build_221 : decode cL_build 221 = .ok (.iconst 4, 1) := by decide +kernel
theorem dL_build_222 : decode cL_build 222 = .ok (.ishr, 1) := by decide +kernel
theorem dL_build_223 : decode cL_build 223 = .ok (.iconst 3, 1) := by decide +kernel
theorem dL_build_224 : decode cL_build 224 = .ok (.invokestatic 18, 3) := by decide +kernel
theorem dL_build_227 : decode cL_build 227 = .ok (.ifCond .le 7, 3) := by decide +kernel
theorem dL_build_230 : decode cL_build 230 = .ok (.iconst 1, 1) := by decide +kernel
theorem dL_build_231 : decode cL_build 231 = .ok (.goto 7, 3) := by decide +kernel
theorem dL_build_234 : decode cL_build 234 = .ok (.iload 4, 2) := by decide +kernel
theorem dL_build_236 : decode cL_build 236 = .ok (.iconst 1, 1) := by decide +kernel
theorem dL_build_237 : decode cL_build 237 = .ok (.isub, 1) := by decide +kernel
theorem dL_build_238 : decode cL_build 238 = .ok (.invokestatic 18, 3) := by decide +kernel
theorem dL_build_241 : decode cL_build 241 = .ok (.iadd, 1) := by decide +kernel
theorem dL_build_242 : decode cL_build 242 = .ok (.iload 4, 2) := by decide +kernel
theorem dL_build_244 : decode cL_build 244 = .ok (.irem, 1) := by decide +kernel
theorem dL_build_245 : decode cL_build 245 = .ok (.istore 9, 2) := by decide +kernel
theorem dL_build_247 : decode cL_build 247 = .ok (.iload 9, 2) := by decide +kernel
theorem dL_build_249 : decode cL_build 249 = .ok (.iload 8, 2) := by decide +kernel
theorem dL_build_251 : decode cL_build 251 = .ok (.if_icmp .eq 147, 3) := by decide +kernel
theorem dL_build_254 : decode cL_build 254 = .ok (.aload_n 3, 1) := by decide +kernel
theorem dL_build_255 : decode cL_build 255 = .ok (.iload 8, 2) := by decide +kernel
theorem dL_build_257 : decode cL_build 257 = .ok (.invokevirtual 30, 3) := by decide +kernel
theorem dL_build_260 : decode cL_build 260 = .ok (.arraylength, 1) := by decide +kernel
theorem dL_build_261 : decode cL_build 261 = .ok (.iconst 4, 1) := by decide +kernel
theorem dL_build_262 : decode cL_build 262 = .ok (.if_icmp .ne 6, 3) := by decide +kernel
theorem dL_build_265 : decode cL_build 265 = .ok (.goto 133, 3) := by decide +kernel
theorem dL_build_268 : decode cL_build 268 = .ok (.iconst 3, 1) := by decide +kernel
theorem dL_build_269 : decode cL_build 269 = .ok (.newarray .int, 2) := by decide +kernel
theorem dL_build_271 : decode cL_build 271 = .ok (.dup, 1) := by decide +kernel
theorem dL_build_272 : decode cL_build 272 = .ok (.iconst 0, 1) := by decide +kernel
theorem dL_build_273 : decode cL_build 273 = .ok (.iconst 1, 1) := by decide +kernel
theorem dL_build_274 : decode cL_build 274 = .ok (.iload 7, 2) := by decide +kernel
theorem dL_build_276 : decode cL_build 276 = .ok (.iconst 3, 1) := by decide +kernel
theorem dL_build_277 : decode cL_build 277 = .ok (.ishr, 1) := by decide +kernel
theorem dL_build_278 : decode cL_build 278 = .ok (.iload 7, 2) := by decide +kernel
theorem dL_build_280 : decode cL_build 280 = .ok (.iconst 5, 1) := by decide +kernel
theorem dL_build_281 : decode cL_build 281 = .ok (.ishr, 1) := by decide +kernel
theorem dL_build_282 : decode cL_build 282 = .ok (.iconst 2, 1) := by decide +kernel
theorem dL_build_283 : decode cL_build 283 = .ok (.invokestatic 18, 3) := by decide +kernel
theorem dL_build_286 : decode cL_build 286 = .ok (.ifCond .ne 8, 3) := by decide +kernel
theorem dL_build_289 : decode cL_build 289 = .ok (.bipush 8, 2) := by decide +kernel
theorem dL_build_291 : decode cL_build 291 = .ok (.goto 5, 3) := by decide +kernel
theorem dL_build_294 : decode cL_build 294 = .ok (.bipush 30, 2) := by decide +kernel
theorem dL_build_296 : decode cL_build 296 = .ok (.invokestatic 18, 3) := by decide +kernel
theorem dL_build_299 : decode cL_build 299 = .ok (.iadd, 1) := by decide +kernel
theorem dL_build_300 : decode cL_build 300 = .ok (.iastore, 1) := by decide +kernel
theorem dL_build_301 : decode cL_build 301 = .ok (.dup, 1) := by decide +kernel
theorem dL_build_302 : decode cL_build 302 = .ok (.iconst 1, 1) := by decide +kernel
theorem dL_build_303 : decode cL_build 303 = .ok (.iconst 1, 1) := by decide +kernel
theorem dL_build_304 : decode cL_build 304 = .ok (.iload 7, 2) := by decide +kernel
theorem dL_build_306 : decode cL_build 306 = .ok (.bipush 6, 2) := by decide +kernel
theorem dL_build_308 : decode cL_build 308 = .ok (.ishr, 1) := by decide +kernel
theorem dL_build_309 : decode cL_build 309 = .ok (.bipush 6, 2) := by decide +kernel
theorem dL_build_311 : decode cL_build 311 = .ok (.invokestatic 18, 3) := by decide +kernel
theorem dL_build_314 : decode cL_build 314 = .ok (.iadd, 1) := by decide +kernel
theorem dL_build_315 : decode cL_build 315 = .ok (.iastore, 1) := by decide +kernel
theorem dL_build_316 : decode cL_build 316 = .ok (.dup, 1) := by decide +kernel
theorem dL_build_317 : decode cL_build 317 = .ok (.iconst 2, 1) := by decide +kernel
theorem dL_build_318 : decode cL_build 318 = .ok (.iconst 1, 1) := by decide +kernel
theorem dL_build_319 : decode cL_build 319 = .ok (.iload 7, 2) := by decide +kernel
theorem dL_build_321 : decode cL_build 321 = .ok (.bipush 7, 2) := by decide +kernel
theorem dL_build_323 : decode cL_build 323 = .ok (.ishr, 1) := by decide +kernel
theorem dL_build_324 : decode cL_build 324 = .ok (.iload 7, 2) := by decide +kernel
theorem dL_build_326 : decode cL_build 326 = .ok (.iconst 2, 1) := by decide +kernel
theorem dL_build_327 : decode cL_build 327 = .ok (.ishr, 1) := by decide +kernel
theorem dL_build_328 : decode cL_build 328 = .ok (.iconst 2, 1) := by decide +kernel
theorem dL_build_329 : decode cL_build 329 = .ok (.invokestatic 18, 3) := by decide +kernel
theorem dL_build_332 : decode cL_build 332 = .ok (.ifCond .ne 8, 3) := by decide +kernel
theorem dL_build_335 : decode cL_build 335 = .ok (.bipush 8, 2) := by decide +kernel
theorem dL_build_337 : decode cL_build 337 = .ok (.goto 4, 3) := by decide +kernel
theorem dL_build_340 : decode cL_build 340 = .ok (.iconst 2, 1) := by decide +kernel
theorem dL_build_341 : decode cL_build 341 = .ok (.invokestatic 18, 3) := by decide +kernel
theorem dL_build_344 : decode cL_build 344 = .ok (.iadd, 1) := by decide +kernel
theorem dL_build_345 : decode cL_build 345 = .ok (.iastore, 1) := by decide +kernel
theorem dL_build_346 : decode cL_build 346 = .ok (.astore 10, 2) := by decide +kernel
theorem dL_build_348 : decode cL_build 348 = .ok (.aload_n 0, 1) := by decide +kernel
theorem dL_build_349 : decode cL_build 349 = .ok (.iload 8, 2) := by decide +kernel
theorem dL_build_351 : decode cL_build 351 = .ok (.iload 9, 2) := by decide +kernel
theorem dL_build_353 : decode cL_build 353 = .ok (.aload 10, 2) := by decide +kernel
theorem dL_build_355 : decode cL_build 355 = .ok (.iconst 0, 1) := by decide +kernel
theorem dL_build_356 : decode cL_build 356 = .ok (.iaload, 1) := by decide +kernel
theorem dL_build_357 : decode cL_build 357 = .ok (.aload 10, 2) := by decide +kernel
theorem dL_build_359 : decode cL_build 359 = .ok (.iconst 1, 1) := by decide +kernel
theorem dL_build_360 : decode cL_build 360 = .ok (.iaload, 1) := by decide +kernel
theorem dL_build_361 : decode cL_build 361 = .ok (.aload 10, 2) := by decide +kernel
theorem dL_build_363 : decode cL_build 363 = .ok (.iconst 2, 1) := by decide +kernel
theorem dL_build_364 : decode cL_build 364 = .ok (.iaload, 1) := by decide +kernel
theorem dL_build_365 : decode cL_build 365 = .ok (.invokevirtual 34, 3) := by decide +kernel
theorem dL_build_368 : decode cL_build 368 = .ok (.aload_n 3, 1) := by decide +kernel
theorem dL_build_369 : decode cL_build 369 = .ok (.getfield 38, 3) := by decide +kernel
theorem dL_build_372 : decode cL_build 372 = .ok (.arraylength, 1) := by decide +kernel
theorem dL_build_373 : decode cL_build 373 = .ok (.if_icmp .eq 5, 3) := by decide +kernel
theorem dL_build_376 : decode cL_build 376 = .ok (.aconst_null, 1) := by decide +kernel
theorem dL_build_377 : decode cL_build 377 = .ok (.areturn, 1) := by decide +kernel
theorem dL_build_378 : decode cL_build 378 = .ok (.aload_n 3, 1) := by decide +kernel
theorem dL_build_379 : decode cL_build 379 = .ok (.iload 8, 2) := by decide +kernel
theorem dL_build_381 : decode cL_build 381 = .ok (.iload 9, 2) := by decide +kernel
theorem dL_build_383 : decode cL_build 383 = .ok (.aload 10, 2) := by decide +kernel
theorem dL_build_385 : decode cL_build 385 = .ok (.iconst 0, 1) := by decide +kernel
theorem dL_build_386 : decode cL_build 386 = .ok (.iaload, 1) := by decide +kernel
theorem dL_build_387 : decode cL_build 387 = .ok (.aload 10, 2) := by decide +kernel
theorem dL_build_389 : decode cL_build 389 = .ok (.iconst 1, 1) := by decide +kernel
theorem dL_build_390 : decode cL_build 390 = .ok (.iaload, 1) := by decide +kernel
theorem dL_build_391 : decode cL_build 391 = .ok (.aload 10, 2) := by decide +kernel
theorem dL_build_393 : decode cL_build 393 = .ok (.iconst 2, 1) := by decide +kernel
theorem dL_build_394 : decode cL_build 394 = .ok (.iaload, 1) := by decide +kernel
theorem dL_build_395 : decode cL_build 395 = .ok (.invokevirtual 42, 3) := by decide +kernel
theorem dL_build_398 : decode cL_build 398 = .ok (.iinc 6 1, 3) := by decide +kernel
theorem dL_build_401 : decode cL_build 401 = .ok (.goto (-250), 3) := by decide +kernel
theorem dL_build_404 : decode cL_build 404 = .ok (.aload_n 3, 1) := by decide +kernel
theorem dL_build_405 : decode cL_build 405 = .ok (.areturn, 1) := by decide +kernel
