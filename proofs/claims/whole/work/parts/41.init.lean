/-! the constructors -/
theorem dX0_init_0 : decode cX0_init 0 = .ok (.aload_n 0, 1) := by decide +kernel
theorem dX0_init_1 : decode cX0_init 1 = .ok (.invokespecial 3, 3) := by decide +kernel
theorem dX0_init_4 : decode cX0_init 4 = .ok (.aload_n 0, 1) := by decide +kernel
theorem dX0_init_5 : decode cX0_init 5 = .ok (.iconst 5, 1) := by decide +kernel
theorem dX0_init_6 : decode cX0_init 6 = .ok (.newarray .int, 2) := by decide +kernel
theorem dX0_init_8 : decode cX0_init 8 = .ok (.putfield 9, 3) := by decide +kernel
theorem dX0_init_11 : decode cX0_init 11 = .ok (.aload_n 0, 1) := by decide +kernel
theorem dX0_init_12 : decode cX0_init 12 = .ok (.iconst 5, 1) := by decide +kernel
theorem dX0_init_13 : decode cX0_init 13 = .ok (.newarray .int, 2) := by decide +kernel
theorem dX0_init_15 : decode cX0_init 15 = .ok (.putfield 15, 3) := by decide +kernel
theorem dX0_init_18 : decode cX0_init 18 = .ok (.aload_n 0, 1) := by decide +kernel
theorem dX0_init_19 : decode cX0_init 19 = .ok (.iconst 5, 1) := by decide +kernel
theorem dX0_init_20 : decode cX0_init 20 = .ok (.newarray .int, 2) := by decide +kernel
theorem dX0_init_22 : decode cX0_init 22 = .ok (.putfield 18, 3) := by decide +kernel
theorem dX0_init_25 : decode cX0_init 25 = .ok (.return_, 1) := by decide +kernel
theorem dX1_init_0 : decode cX1_init 0 = .ok (.aload_n 0, 1) := by decide +kernel
theorem dX1_init_1 : decode cX1_init 1 = .ok (.invokespecial 3, 3) := by decide +kernel
theorem dX1_init_4 : decode cX1_init 4 = .ok (.aload_n 0, 1) := by decide +kernel
theorem dX1_init_5 : decode cX1_init 5 = .ok (.iconst 5, 1) := by decide +kernel
theorem dX1_init_6 : decode cX1_init 6 = .ok (.newarray .int, 2) := by decide +kernel
theorem dX1_init_8 : decode cX1_init 8 = .ok (.putfield 9, 3) := by decide +kernel
theorem dX1_init_11 : decode cX1_init 11 = .ok (.aload_n 0, 1) := by decide +kernel
theorem dX1_init_12 : decode cX1_init 12 = .ok (.iconst 5, 1) := by decide +kernel
theorem dX1_init_13 : decode cX1_init 13 = .ok (.newarray .int, 2) := by decide +kernel
theorem dX1_init_15 : decode cX1_init 15 = .ok (.putfield 15, 3) := by decide +kernel
theorem dX1_init_18 : decode cX1_init 18 = .ok (.aload_n 0, 1) := by decide +kernel
theorem dX1_init_19 : decode cX1_init 19 = .ok (.iconst 5, 1) := by decide +kernel
theorem dX1_init_20 : decode cX1_init 20 = .ok (.newarray .int, 2) := by decide +kernel
theorem dX1_init_22 : decode cX1_init 22 = .ok (.putfield 18, 3) := by decide +kernel
theorem dX1_init_25 : decode cX1_init 25 = .ok (.aload_n 0, 1) := by decide +kernel
theorem dX1_init_26 : decode cX1_init 26 = .ok (.bipush (-9), 2) := by decide +kernel
theorem dX1_init_28 : decode cX1_init 28 = .ok (.putfield 21, 3) := by decide +kernel
theorem dX1_init_31 : decode cX1_init 31 = .ok (.return_, 1) := by decide +kernel
theorem dX2_init_0 : decode cX2_init 0 = .ok (.aload_n 0, 1) := by decide +kernel
theorem dX2_init_1 : decode cX2_init 1 = .ok (.invokespecial 3, 3) := by decide +kernel
theorem dX2_init_4 : decode cX2_init 4 = .ok (.aload_n 0, 1) := by decide +kernel
theorem dX2_init_5 : decode cX2_init 5 = .ok (.bipush 8, 2) := by decide +kernel
theorem dX2_init_7 : decode cX2_init 7 = .ok (.newarray .int, 2) := by decide +kernel
theorem dX2_init_9 : decode cX2_init 9 = .ok (.putfield 9, 3) := by decide +kernel
theorem dX2_init_12 : decode cX2_init 12 = .ok (.aload_n 0, 1) := by decide +kernel
theorem dX2_init_13 : decode cX2_init 13 = .ok (.bipush 8, 2) := by decide +kernel
theorem dX2_init_15 : decode cX2_init 15 = .ok (.newarray .int, 2) := by decide +kernel
theorem dX2_init_17 : decode cX2_init 17 = .ok (.putfield 15, 3) := by decide +kernel
theorem dX2_init_20 : decode cX2_init 20 = .ok (.aload_n 0, 1) := by decide +kernel
theorem dX2_init_21 : decode cX2_init 21 = .ok (.bipush 8, 2) := by decide +kernel
theorem dX2_init_23 : decode cX2_init 23 = .ok (.newarray .int, 2) := by decide +kernel
theorem dX2_init_25 : decode cX2_init 25 = .ok (.putfield 18, 3) := by decide +kernel
theorem dX2_init_28 : decode cX2_init 28 = .ok (.return_, 1) := by decide +kernel
theorem dX3_init_0 : decode cX3_init 0 = .ok (.aload_n 0, 1) := by decide +kernel
theorem dX3_init_1 : decode cX3_init 1 = .ok (.invokespecial 3, 3) := by decide +kernel
theorem dX3_init_4 : decode cX3_init 4 = .ok (.aload_n 0, 1) := by decide +kernel
theorem dX3_init_5 : decode cX3_init 5 = .ok (.bipush 60, 2) := by decide +kernel
theorem dX3_init_7 : decode cX3_init 7 = .ok (.newarray .int, 2) := by decide +kernel
theorem dX3_init_9 : decode cX3_init 9 = .ok (.putfield 9, 3) := by decide +kernel
theorem dX3_init_12 : decode cX3_init 12 = .ok (.aload_n 0, 1) := by decide +kernel
theorem dX3_init_13 : decode cX3_init 13 = .ok (.bipush (-9), 2) := by decide +kernel
theorem dX3_init_15 : decode cX3_init 15 = .ok (.putfield 15, 3) := by decide +kernel
theorem dX3_init_18 : decode cX3_init 18 = .ok (.return_, 1) := by decide +kernel
theorem dX4_init_0 : decode cX4_init 0 = .ok (.aload_n 0, 1) := by decide +kernel
theorem dX4_init_1 : decode cX4_init 1 = .ok (.invokespecial 3, 3) := by decide +kernel
theorem dX4_init_4 : decode cX4_init 4 = .ok (.aload_n 0, 1) := by decide +kernel
theorem dX4_init_5 : decode cX4_init 5 = .ok (.iconst 4, 1) := by decide +kernel
theorem dX4_init_6 : decode cX4_init 6 = .ok (.anewarray 11, 3) := by decide +kernel
theorem dX4_init_9 : decode cX4_init 9 = .ok (.putfield 13, 3) := by decide +kernel
theorem dX4_init_12 : decode cX4_init 12 = .ok (.iconst 0, 1) := by decide +kernel
theorem dX4_init_13 : decode cX4_init 13 = .ok (.istore_n 1, 1) := by decide +kernel
theorem dX4_init_14 : decode cX4_init 14 = .ok (.iload_n 1, 1) := by decide +kernel
theorem dX4_init_15 : decode cX4_init 15 = .ok (.iconst 4, 1) := by decide +kernel
theorem dX4_init_16 : decode cX4_init 16 = .ok (.if_icmp .ge 22, 3) := by decide +kernel
theorem dX4_init_19 : decode cX4_init 19 = .ok (.aload_n 0, 1) := by decide +kernel
theorem dX4_init_20 : decode cX4_init 20 = .ok (.getfield 13, 3) := by decide +kernel
theorem dX4_init_23 : decode cX4_init 23 = .ok (.iload_n 1, 1) := by decide +kernel
theorem dX4_init_24 : decode cX4_init 24 = .ok (.new 11, 3) := by decide +kernel
theorem dX4_init_27 : decode cX4_init 27 = .ok (.dup, 1) := by decide +kernel
theorem dX4_init_28 : decode cX4_init 28 = .ok (.invokespecial 17, 3) := by decide +kernel
theorem dX4_init_31 : decode cX4_init 31 = .ok (.aastore, 1) := by decide +kernel
theorem dX4_init_32 : decode cX4_init 32 = .ok (.iinc 1 1, 3) := by decide +kernel
theorem dX4_init_35 : decode cX4_init 35 = .ok (.goto (-21), 3) := by decide +kernel
theorem dX4_init_38 : decode cX4_init 38 = .ok (.aload_n 0, 1) := by decide +kernel
theorem dX4_init_39 : decode cX4_init 39 = .ok (.new 18, 3) := by decide +kernel
theorem dX4_init_42 : decode cX4_init 42 = .ok (.dup, 1) := by decide +kernel
theorem dX4_init_43 : decode cX4_init 43 = .ok (.invokespecial 20, 3) := by decide +kernel
theorem dX4_init_46 : decode cX4_init 46 = .ok (.putfield 21, 3) := by decide +kernel
theorem dX4_init_49 : decode cX4_init 49 = .ok (.aload_n 0, 1) := by decide +kernel
theorem dX4_init_50 : decode cX4_init 50 = .ok (.new 25, 3) := by decide +kernel
theorem dX4_init_53 : decode cX4_init 53 = .ok (.dup, 1) := by decide +kernel
theorem dX4_init_54 : decode cX4_init 54 = .ok (.invokespecial 27, 3) := by decide +kernel
theorem dX4_init_57 : decode cX4_init 57 = .ok (.putfield 28, 3) := by decide +kernel
theorem dX4_init_60 : decode cX4_init 60 = .ok (.aload_n 0, 1) := by decide +kernel
theorem dX4_init_61 : decode cX4_init 61 = .ok (.new 32, 3) := by decide +kernel
theorem dX4_init_64 : decode cX4_init 64 = .ok (.dup, 1) := by decide +kernel
theorem dX4_init_65 : decode cX4_init 65 = .ok (.invokespecial 34, 3) := by decide +kernel
theorem dX4_init_68 : decode cX4_init 68 = .ok (.putfield 35, 3) := by decide +kernel
theorem dX4_init_71 : decode cX4_init 71 = .ok (.aload_n 0, 1) := by decide +kernel
theorem dX4_init_72 : decode cX4_init 72 = .ok (.bipush 20, 2) := by decide +kernel
theorem dX4_init_74 : decode cX4_init 74 = .ok (.newarray .int, 2) := by decide +kernel
theorem dX4_init_76 : decode cX4_init 76 = .ok (.putfield 39, 3) := by decide +kernel
theorem dX4_init_79 : decode cX4_init 79 = .ok (.return_, 1) := by decide +kernel
theorem dX5_init_0 : decode cX5_init 0 = .ok (.aload_n 0, 1) := by decide +kernel
theorem dX5_init_1 : decode cX5_init 1 = .ok (.invokespecial 1, 3) := by decide +kernel
theorem dX5_init_4 : decode cX5_init 4 = .ok (.aload_n 0, 1) := by decide +kernel
theorem dX5_init_5 : decode cX5_init 5 = .ok (.iconst 4, 1) := by decide +kernel
theorem dX5_init_6 : decode cX5_init 6 = .ok (.newarray .int, 2) := by decide +kernel
theorem dX5_init_8 : decode cX5_init 8 = .ok (.dup, 1) := by decide +kernel
theorem dX5_init_9 : decode cX5_init 9 = .ok (.iconst 0, 1) := by decide +kernel
theorem dX5_init_10 : decode cX5_init 10 = .ok (.bipush (-9), 2) := by decide +kernel
theorem dX5_init_12 : decode cX5_init 12 = .ok (.iastore, 1) := by decide +kernel
theorem dX5_init_13 : decode cX5_init 13 = .ok (.dup, 1) := by decide +kernel
theorem dX5_init_14 : decode cX5_init 14 = .ok (.iconst 1, 1) := by decide +kernel
theorem dX5_init_15 : decode cX5_init 15 = .ok (.bipush (-9), 2) := by decide +kernel
theorem dX5_init_17 : decode cX5_init 17 = .ok (.iastore, 1) := by decide +kernel
theorem dX5_init_18 : decode cX5_init 18 = .ok (.dup, 1) := by decide +kernel
theorem dX5_init_19 : decode cX5_init 19 = .ok (.iconst 2, 1) := by decide +kernel
theorem dX5_init_20 : decode cX5_init 20 = .ok (.bipush (-9), 2) := by decide +kernel
theorem dX5_init_22 : decode cX5_init 22 = .ok (.iastore, 1) := by decide +kernel
theorem dX5_init_23 : decode cX5_init 23 = .ok (.dup, 1) := by decide +kernel
theorem dX5_init_24 : decode cX5_init 24 = .ok (.iconst 3, 1) := by decide +kernel
theorem dX5_init_25 : decode cX5_init 25 = .ok (.bipush (-9), 2) := by decide +kernel
theorem dX5_init_27 : decode cX5_init 27 = .ok (.iastore, 1) := by decide +kernel
theorem dX5_init_28 : decode cX5_init 28 = .ok (.putfield 9, 3) := by decide +kernel
theorem dX5_init_31 : decode cX5_init 31 = .ok (.aload_n 0, 1) := by decide +kernel
theorem dX5_init_32 : decode cX5_init 32 = .ok (.iconst 4, 1) := by decide +kernel
theorem dX5_init_33 : decode cX5_init 33 = .ok (.newarray .int, 2) := by decide +kernel
theorem dX5_init_35 : decode cX5_init 35 = .ok (.putfield 13, 3) := by decide +kernel
theorem dX5_init_38 : decode cX5_init 38 = .ok (.aload_n 0, 1) := by decide +kernel
theorem dX5_init_39 : decode cX5_init 39 = .ok (.sipush 240, 3) := by decide +kernel
theorem dX5_init_42 : decode cX5_init 42 = .ok (.newarray .int, 2) := by decide +kernel
theorem dX5_init_44 : decode cX5_init 44 = .ok (.putfield 16, 3) := by decide +kernel
theorem dX5_init_47 : decode cX5_init 47 = .ok (.aload_n 0, 1) := by decide +kernel
theorem dX5_init_48 : decode cX5_init 48 = .ok (.iconst 5, 1) := by decide +kernel
theorem dX5_init_49 : decode cX5_init 49 = .ok (.newarray .int, 2) := by decide +kernel
theorem dX5_init_51 : decode cX5_init 51 = .ok (.putfield 19, 3) := by decide +kernel
theorem dX5_init_54 : decode cX5_init 54 = .ok (.aload_n 0, 1) := by decide +kernel
theorem dX5_init_55 : decode cX5_init 55 = .ok (.iconst 5, 1) := by decide +kernel
theorem dX5_init_56 : decode cX5_init 56 = .ok (.newarray .int, 2) := by decide +kernel
theorem dX5_init_58 : decode cX5_init 58 = .ok (.putfield 22, 3) := by decide +kernel
theorem dX5_init_61 : decode cX5_init 61 = .ok (.aload_n 0, 1) := by decide +kernel
theorem dX5_init_62 : decode cX5_init 62 = .ok (.iconst 5, 1) := by decide +kernel
theorem dX5_init_63 : decode cX5_init 63 = .ok (.newarray .int, 2) := by decide +kernel
theorem dX5_init_65 : decode cX5_init 65 = .ok (.putfield 25, 3) := by decide +kernel
theorem dX5_init_68 : decode cX5_init 68 = .ok (.aload_n 0, 1) := by decide +kernel
theorem dX5_init_69 : decode cX5_init 69 = .ok (.bipush 15, 2) := by decide +kernel
theorem dX5_init_71 : decode cX5_init 71 = .ok (.newarray .int, 2) := by decide +kernel
theorem dX5_init_73 : decode cX5_init 73 = .ok (.putfield 28, 3) := by decide +kernel
theorem dX5_init_76 : decode cX5_init 76 = .ok (.aload_n 0, 1) := by decide +kernel
theorem dX5_init_77 : decode cX5_init 77 = .ok (.iconst 5, 1) := by decide +kernel
theorem dX5_init_78 : decode cX5_init 78 = .ok (.newarray .int, 2) := by decide +kernel
theorem dX5_init_80 : decode cX5_init 80 = .ok (.putfield 31, 3) := by decide +kernel
theorem dX5_init_83 : decode cX5_init 83 = .ok (.aload_n 0, 1) := by decide +kernel
theorem dX5_init_84 : decode cX5_init 84 = .ok (.iconst 5, 1) := by decide +kernel
theorem dX5_init_85 : decode cX5_init 85 = .ok (.newarray .int, 2) := by decide +kernel
theorem dX5_init_87 : decode cX5_init 87 = .ok (.putfield 34, 3) := by decide +kernel
theorem dX5_init_90 : decode cX5_init 90 = .ok (.aload_n 0, 1) := by decide +kernel
theorem dX5_init_91 : decode cX5_init 91 = .ok (.bipush 20, 2) := by decide +kernel
theorem dX5_init_93 : decode cX5_init 93 = .ok (.newarray .int, 2) := by decide +kernel
theorem dX5_init_95 : decode cX5_init 95 = .ok (.putfield 37, 3) := by decide +kernel
theorem dX5_init_98 : decode cX5_init 98 = .ok (.aload_n 0, 1) := by decide +kernel
theorem dX5_init_99 : decode cX5_init 99 = .ok (.bipush 8, 2) := by decide +kernel
theorem dX5_init_101 : decode cX5_init 101 = .ok (.newarray .int, 2) := by decide +kernel
theorem dX5_init_103 : decode cX5_init 103 = .ok (.putfield 40, 3) := by decide +kernel
theorem dX5_init_106 : decode cX5_init 106 = .ok (.aload_n 0, 1) := by decide +kernel
theorem dX5_init_107 : decode cX5_init 107 = .ok (.bipush 8, 2) := by decide +kernel
theorem dX5_init_109 : decode cX5_init 109 = .ok (.newarray .int, 2) := by decide +kernel
theorem dX5_init_111 : decode cX5_init 111 = .ok (.putfield 43, 3) := by decide +kernel
theorem dX5_init_114 : decode cX5_init 114 = .ok (.aload_n 0, 1) := by decide +kernel
theorem dX5_init_115 : decode cX5_init 115 = .ok (.bipush 8, 2) := by decide +kernel
theorem dX5_init_117 : decode cX5_init 117 = .ok (.newarray .int, 2) := by decide +kernel
theorem dX5_init_119 : decode cX5_init 119 = .ok (.putfield 46, 3) := by decide +kernel
theorem dX5_init_122 : decode cX5_init 122 = .ok (.return_, 1) := by decide +kernel
abbrev M_X3_init : MD := (yX3_init, cX3_init, 1, none)
abbrev M_X0_init : MD := (yX0_init, cX0_init, 1, none)
abbrev M_X1_init : MD := (yX1_init, cX1_init, 1, none)
abbrev M_X2_init : MD := (yX2_init, cX2_init, 1, none)
abbrev M_X4_init : MD := (yX4_init, cX4_init, 2, none)
abbrev M_X5_init : MD := (yX5_init, cX5_init, 1, none)
theorem wo_X3_3 : Wd 69 (.methodLink RX3 3 objectInit) := ⟨by decide +kernel, rfl⟩
theorem fi_X3_9 : FI RX3 9 3 0 := ⟨RX3, TX3, 3, 70, rfl, by decide, ⟨by decide +kernel, rfl⟩⟩
theorem fi_X3_15 : FI RX3 15 3 2 := ⟨RX3, TX3, 3, 75, rfl, by decide, ⟨by decide +kernel, rfl⟩⟩
theorem wo_X0_3 : Wd 90 (.methodLink RX0 3 objectInit) := ⟨by decide +kernel, rfl⟩
theorem fi_X0_9 : FI RX0 9 0 0 := ⟨RX0, TX0, 4, 91, rfl, by decide, ⟨by decide +kernel, rfl⟩⟩
theorem fi_X0_15 : FI RX0 15 0 1 := ⟨RX0, TX0, 4, 94, rfl, by decide, ⟨by decide +kernel, rfl⟩⟩
theorem fi_X0_18 : FI RX0 18 0 2 := ⟨RX0, TX0, 4, 97, rfl, by decide, ⟨by decide +kernel, rfl⟩⟩
theorem wo_X1_3 : Wd 116 (.methodLink RX1 3 objectInit) := ⟨by decide +kernel, rfl⟩
theorem fi_X1_9 : FI RX1 9 1 0 := ⟨RX1, TX1, 5, 117, rfl, by decide, ⟨by decide +kernel, rfl⟩⟩
theorem fi_X1_15 : FI RX1 15 1 1 := ⟨RX1, TX1, 5, 120, rfl, by decide, ⟨by decide +kernel, rfl⟩⟩
theorem fi_X1_18 : FI RX1 18 1 2 := ⟨RX1, TX1, 5, 122, rfl, by decide, ⟨by decide +kernel, rfl⟩⟩
theorem fi_X1_21 : FI RX1 21 1 4 := ⟨RX1, TX1, 5, 126, rfl, by decide, ⟨by decide +kernel, rfl⟩⟩
theorem wo_X2_3 : Wd 144 (.methodLink RX2 3 objectInit) := ⟨by decide +kernel, rfl⟩
theorem fi_X2_9 : FI RX2 9 2 0 := ⟨RX2, TX2, 4, 145, rfl, by decide, ⟨by decide +kernel, rfl⟩⟩
theorem fi_X2_15 : FI RX2 15 2 1 := ⟨RX2, TX2, 4, 146, rfl, by decide, ⟨by decide +kernel, rfl⟩⟩
theorem fi_X2_18 : FI RX2 18 2 2 := ⟨RX2, TX2, 4, 147, rfl, by decide, ⟨by decide +kernel, rfl⟩⟩
theorem wo_X4_3 : Wd 60 (.methodLink RX4 3 objectInit) := ⟨by decide +kernel, rfl⟩
theorem wa_X4_11 : Wd 63 (.classLink RX4 11 RX3) := ⟨by decide +kernel, rfl⟩
theorem fi_X4_13 : FI RX4 13 4 0 := ⟨RX4, TX4, 8, 159, rfl, by decide, ⟨by decide +kernel, rfl⟩⟩
theorem nl_X4_11 : NL RX4 11 3 [.null, .int 0, .int 0] := ⟨RX3, TX3, 3, 63, 65, 48, tyX3, rfl, ⟨by decide +kernel, rfl⟩, ⟨by decide +kernel, rfl⟩, ⟨by decide +kernel, rfl⟩, tyX3_ok, by decide +kernel, rfl⟩
theorem il_X4_17 : IL RX4 17 M_X3_init := ⟨66, 67, Or.inr ⟨by decide +kernel, rfl⟩, ⟨by decide +kernel, rfl⟩, ⟨48, 68, ⟨by decide +kernel, rfl⟩, ⟨by decide +kernel, rfl⟩, by decide +kernel, by decide⟩, rfl, rfl⟩
theorem nl_X4_18 : NL RX4 18 0 [.null, .null, .null, .int 0] := ⟨RX0, TX0, 4, 85, 86, 49, tyX0, rfl, ⟨by decide +kernel, rfl⟩, ⟨by decide +kernel, rfl⟩, ⟨by decide +kernel, rfl⟩, tyX0_ok, by decide +kernel, rfl⟩
theorem il_X4_20 : IL RX4 20 M_X0_init := ⟨87, 88, Or.inr ⟨by decide +kernel, rfl⟩, ⟨by decide +kernel, rfl⟩, ⟨49, 89, ⟨by decide +kernel, rfl⟩, ⟨by decide +kernel, rfl⟩, by decide +kernel, by decide⟩, rfl, rfl⟩
theorem fi_X4_21 : FI RX4 21 4 1 := ⟨RX4, TX4, 8, 160, rfl, by decide, ⟨by decide +kernel, rfl⟩⟩
theorem nl_X4_25 : NL RX4 25 1 [.null, .null, .null, .int 0, .int 0] := ⟨RX1, TX1, 5, 111, 112, 50, tyX1, rfl, ⟨by decide +kernel, rfl⟩, ⟨by decide +kernel, rfl⟩, ⟨by decide +kernel, rfl⟩, tyX1_ok, by decide +kernel, rfl⟩
theorem il_X4_27 : IL RX4 27 M_X1_init := ⟨113, 114, Or.inr ⟨by decide +kernel, rfl⟩, ⟨by decide +kernel, rfl⟩, ⟨50, 115, ⟨by decide +kernel, rfl⟩, ⟨by decide +kernel, rfl⟩, by decide +kernel, by decide⟩, rfl, rfl⟩
theorem fi_X4_28 : FI RX4 28 4 2 := ⟨RX4, TX4, 8, 161, rfl, by decide, ⟨by decide +kernel, rfl⟩⟩
theorem nl_X4_32 : NL RX4 32 2 [.null, .null, .null, .int 0] := ⟨RX2, TX2, 4, 139, 140, 51, tyX2, rfl, ⟨by decide +kernel, rfl⟩, ⟨by decide +kernel, rfl⟩, ⟨by decide +kernel, rfl⟩, tyX2_ok, by decide +kernel, rfl⟩
theorem il_X4_34 : IL RX4 34 M_X2_init := ⟨141, 142, Or.inr ⟨by decide +kernel, rfl⟩, ⟨by decide +kernel, rfl⟩, ⟨51, 143, ⟨by decide +kernel, rfl⟩, ⟨by decide +kernel, rfl⟩, by decide +kernel, by decide⟩, rfl, rfl⟩
theorem fi_X4_35 : FI RX4 35 4 3 := ⟨RX4, TX4, 8, 162, rfl, by decide, ⟨by decide +kernel, rfl⟩⟩
theorem fi_X4_39 : FI RX4 39 4 4 := ⟨RX4, TX4, 8, 163, rfl, by decide, ⟨by decide +kernel, rfl⟩⟩
theorem wo_X5_1 : Wd 468 (.methodLink RX5 1 objectInit) := ⟨by decide +kernel, rfl⟩
theorem fi_X5_9 : FI RX5 9 5 2 := ⟨RX5, TX5, 22, 471, rfl, by decide, ⟨by decide +kernel, rfl⟩⟩
theorem fi_X5_13 : FI RX5 13 5 3 := ⟨RX5, TX5, 22, 472, rfl, by decide, ⟨by decide +kernel, rfl⟩⟩
theorem fi_X5_16 : FI RX5 16 5 4 := ⟨RX5, TX5, 22, 473, rfl, by decide, ⟨by decide +kernel, rfl⟩⟩
theorem fi_X5_19 : FI RX5 19 5 6 := ⟨RX5, TX5, 22, 475, rfl, by decide, ⟨by decide +kernel, rfl⟩⟩
theorem fi_X5_22 : FI RX5 22 5 7 := ⟨RX5, TX5, 22, 476, rfl, by decide, ⟨by decide +kernel, rfl⟩⟩
theorem fi_X5_25 : FI RX5 25 5 8 := ⟨RX5, TX5, 22, 477, rfl, by decide, ⟨by decide +kernel, rfl⟩⟩
theorem fi_X5_28 : FI RX5 28 5 11 := ⟨RX5, TX5, 22, 480, rfl, by decide, ⟨by decide +kernel, rfl⟩⟩
theorem fi_X5_31 : FI RX5 31 5 12 := ⟨RX5, TX5, 22, 481, rfl, by decide, ⟨by decide +kernel, rfl⟩⟩
theorem fi_X5_34 : FI RX5 34 5 13 := ⟨RX5, TX5, 22, 482, rfl, by decide, ⟨by decide +kernel, rfl⟩⟩
theorem fi_X5_37 : FI RX5 37 5 16 := ⟨RX5, TX5, 22, 485, rfl, by decide, ⟨by decide +kernel, rfl⟩⟩
theorem fi_X5_40 : FI RX5 40 5 19 := ⟨RX5, TX5, 22, 488, rfl, by decide, ⟨by decide +kernel, rfl⟩⟩
theorem fi_X5_43 : FI RX5 43 5 20 := ⟨RX5, TX5, 22, 489, rfl, by decide, ⟨by decide +kernel, rfl⟩⟩
theorem fi_X5_46 : FI RX5 46 5 21 := ⟨RX5, TX5, 22, 490, rfl, by decide, ⟨by decide +kernel, rfl⟩⟩
abbrev wX3 (E : GI) (h0 : Nat) (u : Nat → Nat) : va_W := [(h0, .inr (3, [.ref (u 0), .int 0, .int (-9)])), (u 0, .inl (E.2.2.1, 60, .inl (fun _ => 0)))]
set_option maxRecDepth 100000 in
theorem mi_X3 (E : GI) (h0 : Nat) : MI E 1 M_X3_init 1 60 h0 (.inr (3, [.null, .int 0, .int 0])) (wX3 E h0) := by
  refine MI_of ?_
  refine VI_aload_n 0 dX3_init_0 ?_
  refine VI_objInit 69 dX3_init_1 wo_X3_3 ?_
  refine VI_aload_n 0 dX3_init_4 ?_
  refine VI_bipush 60 dX3_init_5 ?_
  refine VI_newa 60 dX3_init_7 (fun q1 => ?_)
  refine VI_w (ws' := [(h0, .inr (3, [.null, .int 0, .int 0])), (q1, .inl (E.2.2.1, 60, .inl (fun _ => 0)))]) (kc' := 1) (ks' := 60) rfl ?_
  refine VI_put 0 (.array .int) dX3_init_9 fi_X3_9 ?_
  refine VI_w (ws' := [(h0, .inr (3, [.ref q1, .int 0, .int 0])), (q1, .inl (E.2.2.1, 60, .inl (fun _ => 0)))]) (kc' := 1) (ks' := 60) rfl ?_
  refine VI_aload_n 0 dX3_init_12 ?_
  refine VI_bipush (-9) dX3_init_13 ?_
  refine VI_put 0 .int dX3_init_15 fi_X3_15 ?_
  refine VI_w (ws' := [(h0, .inr (3, [.ref q1, .int 0, .int (-9)])), (q1, .inl (E.2.2.1, 60, .inl (fun _ => 0)))]) (kc' := 1) (ks' := 60) rfl ?_
  exact VI_vret (fun j => ([q1] : List Nat).getD j 0) [0, 1] dX3_init_18 rfl
abbrev wX0 (E : GI) (h0 : Nat) (u : Nat → Nat) : va_W := [(h0, .inr (0, [.ref (u 0), .ref (u 1), .ref (u 2), .int 0])), (u 0, .inl (E.2.2.1, 5, .inl (fun _ => 0))), (u 1, .inl (E.2.2.1, 5, .inl (fun _ => 0))), (u 2, .inl (E.2.2.1, 5, .inl (fun _ => 0)))]
set_option maxRecDepth 100000 in
theorem mi_X0 (E : GI) (h0 : Nat) : MI E 1 M_X0_init 3 15 h0 (.inr (0, [.null, .null, .null, .int 0])) (wX0 E h0) := by
  refine MI_of ?_
  refine VI_aload_n 0 dX0_init_0 ?_
  refine VI_objInit 90 dX0_init_1 wo_X0_3 ?_
  refine VI_aload_n 0 dX0_init_4 ?_
  refine VI_iconst 5 dX0_init_5 ?_
  refine VI_newa 5 dX0_init_6 (fun q1 => ?_)
  refine VI_w (ws' := [(h0, .inr (0, [.null, .null, .null, .int 0])), (q1, .inl (E.2.2.1, 5, .inl (fun _ => 0)))]) (kc' := 1) (ks' := 5) rfl ?_
  refine VI_put 0 (.array .int) dX0_init_8 fi_X0_9 ?_
  refine VI_w (ws' := [(h0, .inr (0, [.ref q1, .null, .null, .int 0])), (q1, .inl (E.2.2.1, 5, .inl (fun _ => 0)))]) (kc' := 1) (ks' := 5) rfl ?_
  refine VI_aload_n 0 dX0_init_11 ?_
  refine VI_iconst 5 dX0_init_12 ?_
  refine VI_newa 5 dX0_init_13 (fun q2 => ?_)
  refine VI_w (ws' := [(h0, .inr (0, [.ref q1, .null, .null, .int 0])), (q1, .inl (E.2.2.1, 5, .inl (fun _ => 0))), (q2, .inl (E.2.2.1, 5, .inl (fun _ => 0)))]) (kc' := 2) (ks' := 10) rfl ?_
  refine VI_put 0 (.array .int) dX0_init_15 fi_X0_15 ?_
  refine VI_w (ws' := [(h0, .inr (0, [.ref q1, .ref q2, .null, .int 0])), (q1, .inl (E.2.2.1, 5, .inl (fun _ => 0))), (q2, .inl (E.2.2.1, 5, .inl (fun _ => 0)))]) (kc' := 2) (ks' := 10) rfl ?_
  refine VI_aload_n 0 dX0_init_18 ?_
  refine VI_iconst 5 dX0_init_19 ?_
  refine VI_newa 5 dX0_init_20 (fun q3 => ?_)
  refine VI_w (ws' := [(h0, .inr (0, [.ref q1, .ref q2, .null, .int 0])), (q1, .inl (E.2.2.1, 5, .inl (fun _ => 0))), (q2, .inl (E.2.2.1, 5, .inl (fun _ => 0))), (q3, .inl (E.2.2.1, 5, .inl (fun _ => 0)))]) (kc' := 3) (ks' := 15) rfl ?_
  refine VI_put 0 (.array .int) dX0_init_22 fi_X0_18 ?_
  refine VI_w (ws' := [(h0, .inr (0, [.ref q1, .ref q2, .ref q3, .int 0])), (q1, .inl (E.2.2.1, 5, .inl (fun _ => 0))), (q2, .inl (E.2.2.1, 5, .inl (fun _ => 0))), (q3, .inl (E.2.2.1, 5, .inl (fun _ => 0)))]) (kc' := 3) (ks' := 15) rfl ?_
  exact VI_vret (fun j => ([q1, q2, q3] : List Nat).getD j 0) [0, 1, 2, 3] dX0_init_25 rfl
abbrev wX1 (E : GI) (h0 : Nat) (u : Nat → Nat) : va_W := [(h0, .inr (1, [.ref (u 0), .ref (u 1), .ref (u 2), .int 0, .int (-9)])), (u 0, .inl (E.2.2.1, 5, .inl (fun _ => 0))), (u 1, .inl (E.2.2.1, 5, .inl (fun _ => 0))), (u 2, .inl (E.2.2.1, 5, .inl (fun _ => 0)))]
set_option maxRecDepth 100000 in
theorem mi_X1 (E : GI) (h0 : Nat) : MI E 1 M_X1_init 3 15 h0 (.inr (1, [.null, .null, .null, .int 0, .int 0])) (wX1 E h0) := by
  refine MI_of ?_
  refine VI_aload_n 0 dX1_init_0 ?_
  refine VI_objInit 116 dX1_init_1 wo_X1_3 ?_
  refine VI_aload_n 0 dX1_init_4 ?_
  refine VI_iconst 5 dX1_init_5 ?_
  refine VI_newa 5 dX1_init_6 (fun q1 => ?_)
  refine VI_w (ws' := [(h0, .inr (1, [.null, .null, .null, .int 0, .int 0])), (q1, .inl (E.2.2.1, 5, .inl (fun _ => 0)))]) (kc' := 1) (ks' := 5) rfl ?_
  refine VI_put 0 (.array .int) dX1_init_8 fi_X1_9 ?_
  refine VI_w (ws' := [(h0, .inr (1, [.ref q1, .null, .null, .int 0, .int 0])), (q1, .inl (E.2.2.1, 5, .inl (fun _ => 0)))]) (kc' := 1) (ks' := 5) rfl ?_
  refine VI_aload_n 0 dX1_init_11 ?_
  refine VI_iconst 5 dX1_init_12 ?_
  refine VI_newa 5 dX1_init_13 (fun q2 => ?_)
  refine VI_w (ws' := [(h0, .inr (1, [.ref q1, .null, .null, .int 0, .int 0])), (q1, .inl (E.2.2.1, 5, .inl (fun _ => 0))), (q2, .inl (E.2.2.1, 5, .inl (fun _ => 0)))]) (kc' := 2) (ks' := 10) rfl ?_
  refine VI_put 0 (.array .int) dX1_init_15 fi_X1_15 ?_
  refine VI_w (ws' := [(h0, .inr (1, [.ref q1, .ref q2, .null, .int 0, .int 0])), (q1, .inl (E.2.2.1, 5, .inl (fun _ => 0))), (q2, .inl (E.2.2.1, 5, .inl (fun _ => 0)))]) (kc' := 2) (ks' := 10) rfl ?_
  refine VI_aload_n 0 dX1_init_18 ?_
  refine VI_iconst 5 dX1_init_19 ?_
  refine VI_newa 5 dX1_init_20 (fun q3 => ?_)
  refine VI_w (ws' := [(h0, .inr (1, [.ref q1, .ref q2, .null, .int 0, .int 0])), (q1, .inl (E.2.2.1, 5, .inl (fun _ => 0))), (q2, .inl (E.2.2.1, 5, .inl (fun _ => 0))), (q3, .inl (E.2.2.1, 5, .inl (fun _ => 0)))]) (kc' := 3) (ks' := 15) rfl ?_
  refine VI_put 0 (.array .int) dX1_init_22 fi_X1_18 ?_
  refine VI_w (ws' := [(h0, .inr (1, [.ref q1, .ref q2, .ref q3, .int 0, .int 0])), (q1, .inl (E.2.2.1, 5, .inl (fun _ => 0))), (q2, .inl (E.2.2.1, 5, .inl (fun _ => 0))), (q3, .inl (E.2.2.1, 5, .inl (fun _ => 0)))]) (kc' := 3) (ks' := 15) rfl ?_
  refine VI_aload_n 0 dX1_init_25 ?_
  refine VI_bipush (-9) dX1_init_26 ?_
  refine VI_put 0 .int dX1_init_28 fi_X1_21 ?_
  refine VI_w (ws' := [(h0, .inr (1, [.ref q1, .ref q2, .ref q3, .int 0, .int (-9)])), (q1, .inl (E.2.2.1, 5, .inl (fun _ => 0))), (q2, .inl (E.2.2.1, 5, .inl (fun _ => 0))), (q3, .inl (E.2.2.1, 5, .inl (fun _ => 0)))]) (kc' := 3) (ks' := 15) rfl ?_
  exact VI_vret (fun j => ([q1, q2, q3] : List Nat).getD j 0) [0, 1, 2, 3] dX1_init_31 rfl
abbrev wX2 (E : GI) (h0 : Nat) (u : Nat → Nat) : va_W := [(h0, .inr (2, [.ref (u 0), .ref (u 1), .ref (u 2), .int 0])), (u 0, .inl (E.2.2.1, 8, .inl (fun _ => 0))), (u 1, .inl (E.2.2.1, 8, .inl (fun _ => 0))), (u 2, .inl (E.2.2.1, 8, .inl (fun _ => 0)))]
set_option maxRecDepth 100000 in
theorem mi_X2 (E : GI) (h0 : Nat) : MI E 1 M_X2_init 3 24 h0 (.inr (2, [.null, .null, .null, .int 0])) (wX2 E h0) := by
  refine MI_of ?_
  refine VI_aload_n 0 dX2_init_0 ?_
  refine VI_objInit 144 dX2_init_1 wo_X2_3 ?_
  refine VI_aload_n 0 dX2_init_4 ?_
  refine VI_bipush 8 dX2_init_5 ?_
  refine VI_newa 8 dX2_init_7 (fun q1 => ?_)
  refine VI_w (ws' := [(h0, .inr (2, [.null, .null, .null, .int 0])), (q1, .inl (E.2.2.1, 8, .inl (fun _ => 0)))]) (kc' := 1) (ks' := 8) rfl ?_
  refine VI_put 0 (.array .int) dX2_init_9 fi_X2_9 ?_
  refine VI_w (ws' := [(h0, .inr (2, [.ref q1, .null, .null, .int 0])), (q1, .inl (E.2.2.1, 8, .inl (fun _ => 0)))]) (kc' := 1) (ks' := 8) rfl ?_
  refine VI_aload_n 0 dX2_init_12 ?_
  refine VI_bipush 8 dX2_init_13 ?_
  refine VI_newa 8 dX2_init_15 (fun q2 => ?_)
  refine VI_w (ws' := [(h0, .inr (2, [.ref q1, .null, .null, .int 0])), (q1, .inl (E.2.2.1, 8, .inl (fun _ => 0))), (q2, .inl (E.2.2.1, 8, .inl (fun _ => 0)))]) (kc' := 2) (ks' := 16) rfl ?_
  refine VI_put 0 (.array .int) dX2_init_17 fi_X2_15 ?_
  refine VI_w (ws' := [(h0, .inr (2, [.ref q1, .ref q2, .null, .int 0])), (q1, .inl (E.2.2.1, 8, .inl (fun _ => 0))), (q2, .inl (E.2.2.1, 8, .inl (fun _ => 0)))]) (kc' := 2) (ks' := 16) rfl ?_
  refine VI_aload_n 0 dX2_init_20 ?_
  refine VI_bipush 8 dX2_init_21 ?_
  refine VI_newa 8 dX2_init_23 (fun q3 => ?_)
  refine VI_w (ws' := [(h0, .inr (2, [.ref q1, .ref q2, .null, .int 0])), (q1, .inl (E.2.2.1, 8, .inl (fun _ => 0))), (q2, .inl (E.2.2.1, 8, .inl (fun _ => 0))), (q3, .inl (E.2.2.1, 8, .inl (fun _ => 0)))]) (kc' := 3) (ks' := 24) rfl ?_
  refine VI_put 0 (.array .int) dX2_init_25 fi_X2_18 ?_
  refine VI_w (ws' := [(h0, .inr (2, [.ref q1, .ref q2, .ref q3, .int 0])), (q1, .inl (E.2.2.1, 8, .inl (fun _ => 0))), (q2, .inl (E.2.2.1, 8, .inl (fun _ => 0))), (q3, .inl (E.2.2.1, 8, .inl (fun _ => 0)))]) (kc' := 3) (ks' := 24) rfl ?_
  exact VI_vret (fun j => ([q1, q2, q3] : List Nat).getD j 0) [0, 1, 2, 3] dX2_init_28 rfl
abbrev wX4 (E : GI) (h0 : Nat) (u : Nat → Nat) : va_W := [(h0, .inr (4, [.ref (u 1), .ref (u 10), .ref (u 14), .ref (u 18), .ref (u 22), .int 0, .int 0, .int 0])), (u 1, .inl (E.2.2.2, 4, .inr (.inr (.inr (.inr (va_up (va_up (va_up (va_up (fun _ => none) (Int32.toNatClampNeg 0) (some (u 2))) (Int32.toNatClampNeg 1) (some (u 3))) (Int32.toNatClampNeg 2) (some (u 4))) (Int32.toNatClampNeg 3) (some (u 5)))))))), (u 2, .inr (3, [.ref (u 6), .int 0, .int (-9)])), (u 3, .inr (3, [.ref (u 7), .int 0, .int (-9)])), (u 4, .inr (3, [.ref (u 8), .int 0, .int (-9)])), (u 5, .inr (3, [.ref (u 9), .int 0, .int (-9)])), (u 6, .inl (E.2.2.1, 60, .inl (fun _ => 0))), (u 7, .inl (E.2.2.1, 60, .inl (fun _ => 0))), (u 8, .inl (E.2.2.1, 60, .inl (fun _ => 0))), (u 9, .inl (E.2.2.1, 60, .inl (fun _ => 0))), (u 10, .inr (0, [.ref (u 11), .ref (u 12), .ref (u 13), .int 0])), (u 11, .inl (E.2.2.1, 5, .inl (fun _ => 0))), (u 12, .inl (E.2.2.1, 5, .inl (fun _ => 0))), (u 13, .inl (E.2.2.1, 5, .inl (fun _ => 0))), (u 14, .inr (1, [.ref (u 15), .ref (u 16), .ref (u 17), .int 0, .int (-9)])), (u 15, .inl (E.2.2.1, 5, .inl (fun _ => 0))), (u 16, .inl (E.2.2.1, 5, .inl (fun _ => 0))), (u 17, .inl (E.2.2.1, 5, .inl (fun _ => 0))), (u 18, .inr (2, [.ref (u 19), .ref (u 20), .ref (u 21), .int 0])), (u 19, .inl (E.2.2.1, 8, .inl (fun _ => 0))), (u 20, .inl (E.2.2.1, 8, .inl (fun _ => 0))), (u 21, .inl (E.2.2.1, 8, .inl (fun _ => 0))), (u 22, .inl (E.2.2.1, 20, .inl (fun _ => 0)))]
set_option maxRecDepth 100000 in
theorem mi_X4 (E : GI) (h0 : Nat) : MI E 2 M_X4_init 22 343 h0 (.inr (4, [.null, .null, .null, .null, .null, .int 0, .int 0, .int 0])) (wX4 E h0) := by
  refine MI_of ?_
  refine VI_aload_n 0 dX4_init_0 ?_
  refine VI_objInit 60 dX4_init_1 wo_X4_3 ?_
  refine VI_aload_n 0 dX4_init_4 ?_
  refine VI_iconst 4 dX4_init_5 ?_
  refine VI_newq 4 63 dX4_init_6 wa_X4_11 (fun q1 => ?_)
  refine VI_w (ws' := [(h0, .inr (4, [.null, .null, .null, .null, .null, .int 0, .int 0, .int 0])), (q1, .inl (E.2.2.2, 4, .inr (.inr (.inr (.inr (fun _ => none))))))]) (kc' := 1) (ks' := 4) rfl ?_
  refine VI_put 0 (.array (.object "FaceGlass$Sheet")) dX4_init_9 fi_X4_13 ?_
  refine VI_w (ws' := [(h0, .inr (4, [.ref q1, .null, .null, .null, .null, .int 0, .int 0, .int 0])), (q1, .inl (E.2.2.2, 4, .inr (.inr (.inr (.inr (fun _ => none))))))]) (kc' := 1) (ks' := 4) rfl ?_
  refine VI_iconst 0 dX4_init_12 ?_
  refine VI_istore_n dX4_init_13 ?_
  refine VI_iload_n 0 dX4_init_14 ?_
  refine VI_iconst 4 dX4_init_15 ?_
  refine VI_icmp_ge 38 dX4_init_16 (fun hz => absurd hz (by decide)) (fun _ => ?_)
  refine VI_aload_n 1 dX4_init_19 ?_
  refine VI_get 0 (.ref q1) dX4_init_20 fi_X4_13 ?_
  refine VI_iload_n 0 dX4_init_23 ?_
  refine VI_new 3 [.null, .int 0, .int 0] dX4_init_24 nl_X4_11 (fun q2 => ?_)
  refine VI_w (ws' := [(h0, .inr (4, [.ref q1, .null, .null, .null, .null, .int 0, .int 0, .int 0])), (q1, .inl (E.2.2.2, 4, .inr (.inr (.inr (.inr (fun _ => none)))))), (q2, .inr (3, [.null, .int 0, .int 0]))]) (kc' := 2) (ks' := 7) rfl ?_
  refine VI_dup dX4_init_27 ?_
  refine VI_call (wr := [(h0, .inr (4, [.ref q1, .null, .null, .null, .null, .int 0, .int 0, .int 0])), (q1, .inl (E.2.2.2, 4, .inr (.inr (.inr (.inr (fun _ => none))))))]) 2 dX4_init_28 il_X4_17 (mi_X3 E q2) (fun u1 => ?_)
  refine VI_w (ws' := [(h0, .inr (4, [.ref q1, .null, .null, .null, .null, .int 0, .int 0, .int 0])), (q1, .inl (E.2.2.2, 4, .inr (.inr (.inr (.inr (fun _ => none)))))), (q2, .inr (3, [.ref (u1 0), .int 0, .int (-9)])), (u1 0, .inl (E.2.2.1, 60, .inl (fun _ => 0)))]) (kc' := 3) (ks' := 67) rfl ?_
  refine VI_aast 1 2 dX4_init_31 ?_
  refine VI_w (ws' := [(h0, .inr (4, [.ref q1, .null, .null, .null, .null, .int 0, .int 0, .int 0])), (q1, .inl (E.2.2.2, 4, .inr (.inr (.inr (.inr (va_up (fun _ => none) (Int32.toNatClampNeg 0) (some (q2)))))))), (q2, .inr (3, [.ref (u1 0), .int 0, .int (-9)])), (u1 0, .inl (E.2.2.1, 60, .inl (fun _ => 0)))]) (kc' := 3) (ks' := 67) rfl ?_
  refine VI_iinc 0 1 dX4_init_32 ?_
  refine VI_goto 14 dX4_init_35 ?_
  refine VI_iload_n 0 dX4_init_14 ?_
  refine VI_iconst 4 dX4_init_15 ?_
  refine VI_icmp_ge 38 dX4_init_16 (fun hz => absurd hz (by decide)) (fun _ => ?_)
  refine VI_aload_n 1 dX4_init_19 ?_
  refine VI_get 0 (.ref q1) dX4_init_20 fi_X4_13 ?_
  refine VI_iload_n 0 dX4_init_23 ?_
  refine VI_new 3 [.null, .int 0, .int 0] dX4_init_24 nl_X4_11 (fun q3 => ?_)
  refine VI_w (ws' := [(h0, .inr (4, [.ref q1, .null, .null, .null, .null, .int 0, .int 0, .int 0])), (q1, .inl (E.2.2.2, 4, .inr (.inr (.inr (.inr (va_up (fun _ => none) (Int32.toNatClampNeg 0) (some (q2)))))))), (q2, .inr (3, [.ref (u1 0), .int 0, .int (-9)])), (u1 0, .inl (E.2.2.1, 60, .inl (fun _ => 0))), (q3, .inr (3, [.null, .int 0, .int 0]))]) (kc' := 4) (ks' := 70) rfl ?_
  refine VI_dup dX4_init_27 ?_
  refine VI_call (wr := [(h0, .inr (4, [.ref q1, .null, .null, .null, .null, .int 0, .int 0, .int 0])), (q1, .inl (E.2.2.2, 4, .inr (.inr (.inr (.inr (va_up (fun _ => none) (Int32.toNatClampNeg 0) (some (q2)))))))), (q2, .inr (3, [.ref (u1 0), .int 0, .int (-9)])), (u1 0, .inl (E.2.2.1, 60, .inl (fun _ => 0)))]) 4 dX4_init_28 il_X4_17 (mi_X3 E q3) (fun u2 => ?_)
  refine VI_w (ws' := [(h0, .inr (4, [.ref q1, .null, .null, .null, .null, .int 0, .int 0, .int 0])), (q1, .inl (E.2.2.2, 4, .inr (.inr (.inr (.inr (va_up (fun _ => none) (Int32.toNatClampNeg 0) (some (q2)))))))), (q2, .inr (3, [.ref (u1 0), .int 0, .int (-9)])), (u1 0, .inl (E.2.2.1, 60, .inl (fun _ => 0))), (q3, .inr (3, [.ref (u2 0), .int 0, .int (-9)])), (u2 0, .inl (E.2.2.1, 60, .inl (fun _ => 0)))]) (kc' := 5) (ks' := 130) rfl ?_
  refine VI_aast 1 4 dX4_init_31 ?_
  refine VI_w (ws' := [(h0, .inr (4, [.ref q1, .null, .null, .null, .null, .int 0, .int 0, .int 0])), (q1, .inl (E.2.2.2, 4, .inr (.inr (.inr (.inr (va_up (va_up (fun _ => none) (Int32.toNatClampNeg 0) (some (q2))) (Int32.toNatClampNeg 1) (some (q3)))))))), (q2, .inr (3, [.ref (u1 0), .int 0, .int (-9)])), (u1 0, .inl (E.2.2.1, 60, .inl (fun _ => 0))), (q3, .inr (3, [.ref (u2 0), .int 0, .int (-9)])), (u2 0, .inl (E.2.2.1, 60, .inl (fun _ => 0)))]) (kc' := 5) (ks' := 130) rfl ?_
  refine VI_iinc 0 2 dX4_init_32 ?_
  refine VI_goto 14 dX4_init_35 ?_
  refine VI_iload_n 0 dX4_init_14 ?_
  refine VI_iconst 4 dX4_init_15 ?_
  refine VI_icmp_ge 38 dX4_init_16 (fun hz => absurd hz (by decide)) (fun _ => ?_)
  refine VI_aload_n 1 dX4_init_19 ?_
  refine VI_get 0 (.ref q1) dX4_init_20 fi_X4_13 ?_
  refine VI_iload_n 0 dX4_init_23 ?_
  refine VI_new 3 [.null, .int 0, .int 0] dX4_init_24 nl_X4_11 (fun q4 => ?_)
  refine VI_w (ws' := [(h0, .inr (4, [.ref q1, .null, .null, .null, .null, .int 0, .int 0, .int 0])), (q1, .inl (E.2.2.2, 4, .inr (.inr (.inr (.inr (va_up (va_up (fun _ => none) (Int32.toNatClampNeg 0) (some (q2))) (Int32.toNatClampNeg 1) (some (q3)))))))), (q2, .inr (3, [.ref (u1 0), .int 0, .int (-9)])), (u1 0, .inl (E.2.2.1, 60, .inl (fun _ => 0))), (q3, .inr (3, [.ref (u2 0), .int 0, .int (-9)])), (u2 0, .inl (E.2.2.1, 60, .inl (fun _ => 0))), (q4, .inr (3, [.null, .int 0, .int 0]))]) (kc' := 6) (ks' := 133) rfl ?_
  refine VI_dup dX4_init_27 ?_
  refine VI_call (wr := [(h0, .inr (4, [.ref q1, .null, .null, .null, .null, .int 0, .int 0, .int 0])), (q1, .inl (E.2.2.2, 4, .inr (.inr (.inr (.inr (va_up (va_up (fun _ => none) (Int32.toNatClampNeg 0) (some (q2))) (Int32.toNatClampNeg 1) (some (q3)))))))), (q2, .inr (3, [.ref (u1 0), .int 0, .int (-9)])), (u1 0, .inl (E.2.2.1, 60, .inl (fun _ => 0))), (q3, .inr (3, [.ref (u2 0), .int 0, .int (-9)])), (u2 0, .inl (E.2.2.1, 60, .inl (fun _ => 0)))]) 6 dX4_init_28 il_X4_17 (mi_X3 E q4) (fun u3 => ?_)
  refine VI_w (ws' := [(h0, .inr (4, [.ref q1, .null, .null, .null, .null, .int 0, .int 0, .int 0])), (q1, .inl (E.2.2.2, 4, .inr (.inr (.inr (.inr (va_up (va_up (fun _ => none) (Int32.toNatClampNeg 0) (some (q2))) (Int32.toNatClampNeg 1) (some (q3)))))))), (q2, .inr (3, [.ref (u1 0), .int 0, .int (-9)])), (u1 0, .inl (E.2.2.1, 60, .inl (fun _ => 0))), (q3, .inr (3, [.ref (u2 0), .int 0, .int (-9)])), (u2 0, .inl (E.2.2.1, 60, .inl (fun _ => 0))), (q4, .inr (3, [.ref (u3 0), .int 0, .int (-9)])), (u3 0, .inl (E.2.2.1, 60, .inl (fun _ => 0)))]) (kc' := 7) (ks' := 193) rfl ?_
  refine VI_aast 1 6 dX4_init_31 ?_
  refine VI_w (ws' := [(h0, .inr (4, [.ref q1, .null, .null, .null, .null, .int 0, .int 0, .int 0])), (q1, .inl (E.2.2.2, 4, .inr (.inr (.inr (.inr (va_up (va_up (va_up (fun _ => none) (Int32.toNatClampNeg 0) (some (q2))) (Int32.toNatClampNeg 1) (some (q3))) (Int32.toNatClampNeg 2) (some (q4)))))))), (q2, .inr (3, [.ref (u1 0), .int 0, .int (-9)])), (u1 0, .inl (E.2.2.1, 60, .inl (fun _ => 0))), (q3, .inr (3, [.ref (u2 0), .int 0, .int (-9)])), (u2 0, .inl (E.2.2.1, 60, .inl (fun _ => 0))), (q4, .inr (3, [.ref (u3 0), .int 0, .int (-9)])), (u3 0, .inl (E.2.2.1, 60, .inl (fun _ => 0)))]) (kc' := 7) (ks' := 193) rfl ?_
  refine VI_iinc 0 3 dX4_init_32 ?_
  refine VI_goto 14 dX4_init_35 ?_
  refine VI_iload_n 0 dX4_init_14 ?_
  refine VI_iconst 4 dX4_init_15 ?_
  refine VI_icmp_ge 38 dX4_init_16 (fun hz => absurd hz (by decide)) (fun _ => ?_)
  refine VI_aload_n 1 dX4_init_19 ?_
  refine VI_get 0 (.ref q1) dX4_init_20 fi_X4_13 ?_
  refine VI_iload_n 0 dX4_init_23 ?_
  refine VI_new 3 [.null, .int 0, .int 0] dX4_init_24 nl_X4_11 (fun q5 => ?_)
  refine VI_w (ws' := [(h0, .inr (4, [.ref q1, .null, .null, .null, .null, .int 0, .int 0, .int 0])), (q1, .inl (E.2.2.2, 4, .inr (.inr (.inr (.inr (va_up (va_up (va_up (fun _ => none) (Int32.toNatClampNeg 0) (some (q2))) (Int32.toNatClampNeg 1) (some (q3))) (Int32.toNatClampNeg 2) (some (q4)))))))), (q2, .inr (3, [.ref (u1 0), .int 0, .int (-9)])), (u1 0, .inl (E.2.2.1, 60, .inl (fun _ => 0))), (q3, .inr (3, [.ref (u2 0), .int 0, .int (-9)])), (u2 0, .inl (E.2.2.1, 60, .inl (fun _ => 0))), (q4, .inr (3, [.ref (u3 0), .int 0, .int (-9)])), (u3 0, .inl (E.2.2.1, 60, .inl (fun _ => 0))), (q5, .inr (3, [.null, .int 0, .int 0]))]) (kc' := 8) (ks' := 196) rfl ?_
  refine VI_dup dX4_init_27 ?_
  refine VI_call (wr := [(h0, .inr (4, [.ref q1, .null, .null, .null, .null, .int 0, .int 0, .int 0])), (q1, .inl (E.2.2.2, 4, .inr (.inr (.inr (.inr (va_up (va_up (va_up (fun _ => none) (Int32.toNatClampNeg 0) (some (q2))) (Int32.toNatClampNeg 1) (some (q3))) (Int32.toNatClampNeg 2) (some (q4)))))))), (q2, .inr (3, [.ref (u1 0), .int 0, .int (-9)])), (u1 0, .inl (E.2.2.1, 60, .inl (fun _ => 0))), (q3, .inr (3, [.ref (u2 0), .int 0, .int (-9)])), (u2 0, .inl (E.2.2.1, 60, .inl (fun _ => 0))), (q4, .inr (3, [.ref (u3 0), .int 0, .int (-9)])), (u3 0, .inl (E.2.2.1, 60, .inl (fun _ => 0)))]) 8 dX4_init_28 il_X4_17 (mi_X3 E q5) (fun u4 => ?_)
  refine VI_w (ws' := [(h0, .inr (4, [.ref q1, .null, .null, .null, .null, .int 0, .int 0, .int 0])), (q1, .inl (E.2.2.2, 4, .inr (.inr (.inr (.inr (va_up (va_up (va_up (fun _ => none) (Int32.toNatClampNeg 0) (some (q2))) (Int32.toNatClampNeg 1) (some (q3))) (Int32.toNatClampNeg 2) (some (q4)))))))), (q2, .inr (3, [.ref (u1 0), .int 0, .int (-9)])), (u1 0, .inl (E.2.2.1, 60, .inl (fun _ => 0))), (q3, .inr (3, [.ref (u2 0), .int 0, .int (-9)])), (u2 0, .inl (E.2.2.1, 60, .inl (fun _ => 0))), (q4, .inr (3, [.ref (u3 0), .int 0, .int (-9)])), (u3 0, .inl (E.2.2.1, 60, .inl (fun _ => 0))), (q5, .inr (3, [.ref (u4 0), .int 0, .int (-9)])), (u4 0, .inl (E.2.2.1, 60, .inl (fun _ => 0)))]) (kc' := 9) (ks' := 256) rfl ?_
  refine VI_aast 1 8 dX4_init_31 ?_
  refine VI_w (ws' := [(h0, .inr (4, [.ref q1, .null, .null, .null, .null, .int 0, .int 0, .int 0])), (q1, .inl (E.2.2.2, 4, .inr (.inr (.inr (.inr (va_up (va_up (va_up (va_up (fun _ => none) (Int32.toNatClampNeg 0) (some (q2))) (Int32.toNatClampNeg 1) (some (q3))) (Int32.toNatClampNeg 2) (some (q4))) (Int32.toNatClampNeg 3) (some (q5)))))))), (q2, .inr (3, [.ref (u1 0), .int 0, .int (-9)])), (u1 0, .inl (E.2.2.1, 60, .inl (fun _ => 0))), (q3, .inr (3, [.ref (u2 0), .int 0, .int (-9)])), (u2 0, .inl (E.2.2.1, 60, .inl (fun _ => 0))), (q4, .inr (3, [.ref (u3 0), .int 0, .int (-9)])), (u3 0, .inl (E.2.2.1, 60, .inl (fun _ => 0))), (q5, .inr (3, [.ref (u4 0), .int 0, .int (-9)])), (u4 0, .inl (E.2.2.1, 60, .inl (fun _ => 0)))]) (kc' := 9) (ks' := 256) rfl ?_
  refine VI_iinc 0 4 dX4_init_32 ?_
  refine VI_goto 14 dX4_init_35 ?_
  refine VI_iload_n 0 dX4_init_14 ?_
  refine VI_iconst 4 dX4_init_15 ?_
  refine VI_icmp_ge 38 dX4_init_16 (fun _ => ?_) (fun hz => absurd (by decide) hz)
  refine VI_aload_n 1 dX4_init_38 ?_
  refine VI_new 0 [.null, .null, .null, .int 0] dX4_init_39 nl_X4_18 (fun q6 => ?_)
  refine VI_w (ws' := [(h0, .inr (4, [.ref q1, .null, .null, .null, .null, .int 0, .int 0, .int 0])), (q1, .inl (E.2.2.2, 4, .inr (.inr (.inr (.inr (va_up (va_up (va_up (va_up (fun _ => none) (Int32.toNatClampNeg 0) (some (q2))) (Int32.toNatClampNeg 1) (some (q3))) (Int32.toNatClampNeg 2) (some (q4))) (Int32.toNatClampNeg 3) (some (q5)))))))), (q2, .inr (3, [.ref (u1 0), .int 0, .int (-9)])), (u1 0, .inl (E.2.2.1, 60, .inl (fun _ => 0))), (q3, .inr (3, [.ref (u2 0), .int 0, .int (-9)])), (u2 0, .inl (E.2.2.1, 60, .inl (fun _ => 0))), (q4, .inr (3, [.ref (u3 0), .int 0, .int (-9)])), (u3 0, .inl (E.2.2.1, 60, .inl (fun _ => 0))), (q5, .inr (3, [.ref (u4 0), .int 0, .int (-9)])), (u4 0, .inl (E.2.2.1, 60, .inl (fun _ => 0))), (q6, .inr (0, [.null, .null, .null, .int 0]))]) (kc' := 10) (ks' := 260) rfl ?_
  refine VI_dup dX4_init_42 ?_
  refine VI_call (wr := [(h0, .inr (4, [.ref q1, .null, .null, .null, .null, .int 0, .int 0, .int 0])), (q1, .inl (E.2.2.2, 4, .inr (.inr (.inr (.inr (va_up (va_up (va_up (va_up (fun _ => none) (Int32.toNatClampNeg 0) (some (q2))) (Int32.toNatClampNeg 1) (some (q3))) (Int32.toNatClampNeg 2) (some (q4))) (Int32.toNatClampNeg 3) (some (q5)))))))), (q2, .inr (3, [.ref (u1 0), .int 0, .int (-9)])), (u1 0, .inl (E.2.2.1, 60, .inl (fun _ => 0))), (q3, .inr (3, [.ref (u2 0), .int 0, .int (-9)])), (u2 0, .inl (E.2.2.1, 60, .inl (fun _ => 0))), (q4, .inr (3, [.ref (u3 0), .int 0, .int (-9)])), (u3 0, .inl (E.2.2.1, 60, .inl (fun _ => 0))), (q5, .inr (3, [.ref (u4 0), .int 0, .int (-9)])), (u4 0, .inl (E.2.2.1, 60, .inl (fun _ => 0)))]) 10 dX4_init_43 il_X4_20 (mi_X0 E q6) (fun u5 => ?_)
  refine VI_w (ws' := [(h0, .inr (4, [.ref q1, .null, .null, .null, .null, .int 0, .int 0, .int 0])), (q1, .inl (E.2.2.2, 4, .inr (.inr (.inr (.inr (va_up (va_up (va_up (va_up (fun _ => none) (Int32.toNatClampNeg 0) (some (q2))) (Int32.toNatClampNeg 1) (some (q3))) (Int32.toNatClampNeg 2) (some (q4))) (Int32.toNatClampNeg 3) (some (q5)))))))), (q2, .inr (3, [.ref (u1 0), .int 0, .int (-9)])), (u1 0, .inl (E.2.2.1, 60, .inl (fun _ => 0))), (q3, .inr (3, [.ref (u2 0), .int 0, .int (-9)])), (u2 0, .inl (E.2.2.1, 60, .inl (fun _ => 0))), (q4, .inr (3, [.ref (u3 0), .int 0, .int (-9)])), (u3 0, .inl (E.2.2.1, 60, .inl (fun _ => 0))), (q5, .inr (3, [.ref (u4 0), .int 0, .int (-9)])), (u4 0, .inl (E.2.2.1, 60, .inl (fun _ => 0))), (q6, .inr (0, [.ref (u5 0), .ref (u5 1), .ref (u5 2), .int 0])), (u5 0, .inl (E.2.2.1, 5, .inl (fun _ => 0))), (u5 1, .inl (E.2.2.1, 5, .inl (fun _ => 0))), (u5 2, .inl (E.2.2.1, 5, .inl (fun _ => 0)))]) (kc' := 13) (ks' := 275) rfl ?_
  refine VI_put 0 (.object "FaceGlass$Court") dX4_init_46 fi_X4_21 ?_
  refine VI_w (ws' := [(h0, .inr (4, [.ref q1, .ref q6, .null, .null, .null, .int 0, .int 0, .int 0])), (q1, .inl (E.2.2.2, 4, .inr (.inr (.inr (.inr (va_up (va_up (va_up (va_up (fun _ => none) (Int32.toNatClampNeg 0) (some (q2))) (Int32.toNatClampNeg 1) (some (q3))) (Int32.toNatClampNeg 2) (some (q4))) (Int32.toNatClampNeg 3) (some (q5)))))))), (q2, .inr (3, [.ref (u1 0), .int 0, .int (-9)])), (u1 0, .inl (E.2.2.1, 60, .inl (fun _ => 0))), (q3, .inr (3, [.ref (u2 0), .int 0, .int (-9)])), (u2 0, .inl (E.2.2.1, 60, .inl (fun _ => 0))), (q4, .inr (3, [.ref (u3 0), .int 0, .int (-9)])), (u3 0, .inl (E.2.2.1, 60, .inl (fun _ => 0))), (q5, .inr (3, [.ref (u4 0), .int 0, .int (-9)])), (u4 0, .inl (E.2.2.1, 60, .inl (fun _ => 0))), (q6, .inr (0, [.ref (u5 0), .ref (u5 1), .ref (u5 2), .int 0])), (u5 0, .inl (E.2.2.1, 5, .inl (fun _ => 0))), (u5 1, .inl (E.2.2.1, 5, .inl (fun _ => 0))), (u5 2, .inl (E.2.2.1, 5, .inl (fun _ => 0)))]) (kc' := 13) (ks' := 275) rfl ?_
  refine VI_aload_n 1 dX4_init_49 ?_
  refine VI_new 1 [.null, .null, .null, .int 0, .int 0] dX4_init_50 nl_X4_25 (fun q7 => ?_)
  refine VI_w (ws' := [(h0, .inr (4, [.ref q1, .ref q6, .null, .null, .null, .int 0, .int 0, .int 0])), (q1, .inl (E.2.2.2, 4, .inr (.inr (.inr (.inr (va_up (va_up (va_up (va_up (fun _ => none) (Int32.toNatClampNeg 0) (some (q2))) (Int32.toNatClampNeg 1) (some (q3))) (Int32.toNatClampNeg 2) (some (q4))) (Int32.toNatClampNeg 3) (some (q5)))))))), (q2, .inr (3, [.ref (u1 0), .int 0, .int (-9)])), (u1 0, .inl (E.2.2.1, 60, .inl (fun _ => 0))), (q3, .inr (3, [.ref (u2 0), .int 0, .int (-9)])), (u2 0, .inl (E.2.2.1, 60, .inl (fun _ => 0))), (q4, .inr (3, [.ref (u3 0), .int 0, .int (-9)])), (u3 0, .inl (E.2.2.1, 60, .inl (fun _ => 0))), (q5, .inr (3, [.ref (u4 0), .int 0, .int (-9)])), (u4 0, .inl (E.2.2.1, 60, .inl (fun _ => 0))), (q6, .inr (0, [.ref (u5 0), .ref (u5 1), .ref (u5 2), .int 0])), (u5 0, .inl (E.2.2.1, 5, .inl (fun _ => 0))), (u5 1, .inl (E.2.2.1, 5, .inl (fun _ => 0))), (u5 2, .inl (E.2.2.1, 5, .inl (fun _ => 0))), (q7, .inr (1, [.null, .null, .null, .int 0, .int 0]))]) (kc' := 14) (ks' := 280) rfl ?_
  refine VI_dup dX4_init_53 ?_
  refine VI_call (wr := [(h0, .inr (4, [.ref q1, .ref q6, .null, .null, .null, .int 0, .int 0, .int 0])), (q1, .inl (E.2.2.2, 4, .inr (.inr (.inr (.inr (va_up (va_up (va_up (va_up (fun _ => none) (Int32.toNatClampNeg 0) (some (q2))) (Int32.toNatClampNeg 1) (some (q3))) (Int32.toNatClampNeg 2) (some (q4))) (Int32.toNatClampNeg 3) (some (q5)))))))), (q2, .inr (3, [.ref (u1 0), .int 0, .int (-9)])), (u1 0, .inl (E.2.2.1, 60, .inl (fun _ => 0))), (q3, .inr (3, [.ref (u2 0), .int 0, .int (-9)])), (u2 0, .inl (E.2.2.1, 60, .inl (fun _ => 0))), (q4, .inr (3, [.ref (u3 0), .int 0, .int (-9)])), (u3 0, .inl (E.2.2.1, 60, .inl (fun _ => 0))), (q5, .inr (3, [.ref (u4 0), .int 0, .int (-9)])), (u4 0, .inl (E.2.2.1, 60, .inl (fun _ => 0))), (q6, .inr (0, [.ref (u5 0), .ref (u5 1), .ref (u5 2), .int 0])), (u5 0, .inl (E.2.2.1, 5, .inl (fun _ => 0))), (u5 1, .inl (E.2.2.1, 5, .inl (fun _ => 0))), (u5 2, .inl (E.2.2.1, 5, .inl (fun _ => 0)))]) 14 dX4_init_54 il_X4_27 (mi_X1 E q7) (fun u6 => ?_)
  refine VI_w (ws' := [(h0, .inr (4, [.ref q1, .ref q6, .null, .null, .null, .int 0, .int 0, .int 0])), (q1, .inl (E.2.2.2, 4, .inr (.inr (.inr (.inr (va_up (va_up (va_up (va_up (fun _ => none) (Int32.toNatClampNeg 0) (some (q2))) (Int32.toNatClampNeg 1) (some (q3))) (Int32.toNatClampNeg 2) (some (q4))) (Int32.toNatClampNeg 3) (some (q5)))))))), (q2, .inr (3, [.ref (u1 0), .int 0, .int (-9)])), (u1 0, .inl (E.2.2.1, 60, .inl (fun _ => 0))), (q3, .inr (3, [.ref (u2 0), .int 0, .int (-9)])), (u2 0, .inl (E.2.2.1, 60, .inl (fun _ => 0))), (q4, .inr (3, [.ref (u3 0), .int 0, .int (-9)])), (u3 0, .inl (E.2.2.1, 60, .inl (fun _ => 0))), (q5, .inr (3, [.ref (u4 0), .int 0, .int (-9)])), (u4 0, .inl (E.2.2.1, 60, .inl (fun _ => 0))), (q6, .inr (0, [.ref (u5 0), .ref (u5 1), .ref (u5 2), .int 0])), (u5 0, .inl (E.2.2.1, 5, .inl (fun _ => 0))), (u5 1, .inl (E.2.2.1, 5, .inl (fun _ => 0))), (u5 2, .inl (E.2.2.1, 5, .inl (fun _ => 0))), (q7, .inr (1, [.ref (u6 0), .ref (u6 1), .ref (u6 2), .int 0, .int (-9)])), (u6 0, .inl (E.2.2.1, 5, .inl (fun _ => 0))), (u6 1, .inl (E.2.2.1, 5, .inl (fun _ => 0))), (u6 2, .inl (E.2.2.1, 5, .inl (fun _ => 0)))]) (kc' := 17) (ks' := 295) rfl ?_
  refine VI_put 0 (.object "FaceGlass$Hall") dX4_init_57 fi_X4_28 ?_
  refine VI_w (ws' := [(h0, .inr (4, [.ref q1, .ref q6, .ref q7, .null, .null, .int 0, .int 0, .int 0])), (q1, .inl (E.2.2.2, 4, .inr (.inr (.inr (.inr (va_up (va_up (va_up (va_up (fun _ => none) (Int32.toNatClampNeg 0) (some (q2))) (Int32.toNatClampNeg 1) (some (q3))) (Int32.toNatClampNeg 2) (some (q4))) (Int32.toNatClampNeg 3) (some (q5)))))))), (q2, .inr (3, [.ref (u1 0), .int 0, .int (-9)])), (u1 0, .inl (E.2.2.1, 60, .inl (fun _ => 0))), (q3, .inr (3, [.ref (u2 0), .int 0, .int (-9)])), (u2 0, .inl (E.2.2.1, 60, .inl (fun _ => 0))), (q4, .inr (3, [.ref (u3 0), .int 0, .int (-9)])), (u3 0, .inl (E.2.2.1, 60, .inl (fun _ => 0))), (q5, .inr (3, [.ref (u4 0), .int 0, .int (-9)])), (u4 0, .inl (E.2.2.1, 60, .inl (fun _ => 0))), (q6, .inr (0, [.ref (u5 0), .ref (u5 1), .ref (u5 2), .int 0])), (u5 0, .inl (E.2.2.1, 5, .inl (fun _ => 0))), (u5 1, .inl (E.2.2.1, 5, .inl (fun _ => 0))), (u5 2, .inl (E.2.2.1, 5, .inl (fun _ => 0))), (q7, .inr (1, [.ref (u6 0), .ref (u6 1), .ref (u6 2), .int 0, .int (-9)])), (u6 0, .inl (E.2.2.1, 5, .inl (fun _ => 0))), (u6 1, .inl (E.2.2.1, 5, .inl (fun _ => 0))), (u6 2, .inl (E.2.2.1, 5, .inl (fun _ => 0)))]) (kc' := 17) (ks' := 295) rfl ?_
  refine VI_aload_n 1 dX4_init_60 ?_
  refine VI_new 2 [.null, .null, .null, .int 0] dX4_init_61 nl_X4_32 (fun q8 => ?_)
  refine VI_w (ws' := [(h0, .inr (4, [.ref q1, .ref q6, .ref q7, .null, .null, .int 0, .int 0, .int 0])), (q1, .inl (E.2.2.2, 4, .inr (.inr (.inr (.inr (va_up (va_up (va_up (va_up (fun _ => none) (Int32.toNatClampNeg 0) (some (q2))) (Int32.toNatClampNeg 1) (some (q3))) (Int32.toNatClampNeg 2) (some (q4))) (Int32.toNatClampNeg 3) (some (q5)))))))), (q2, .inr (3, [.ref (u1 0), .int 0, .int (-9)])), (u1 0, .inl (E.2.2.1, 60, .inl (fun _ => 0))), (q3, .inr (3, [.ref (u2 0), .int 0, .int (-9)])), (u2 0, .inl (E.2.2.1, 60, .inl (fun _ => 0))), (q4, .inr (3, [.ref (u3 0), .int 0, .int (-9)])), (u3 0, .inl (E.2.2.1, 60, .inl (fun _ => 0))), (q5, .inr (3, [.ref (u4 0), .int 0, .int (-9)])), (u4 0, .inl (E.2.2.1, 60, .inl (fun _ => 0))), (q6, .inr (0, [.ref (u5 0), .ref (u5 1), .ref (u5 2), .int 0])), (u5 0, .inl (E.2.2.1, 5, .inl (fun _ => 0))), (u5 1, .inl (E.2.2.1, 5, .inl (fun _ => 0))), (u5 2, .inl (E.2.2.1, 5, .inl (fun _ => 0))), (q7, .inr (1, [.ref (u6 0), .ref (u6 1), .ref (u6 2), .int 0, .int (-9)])), (u6 0, .inl (E.2.2.1, 5, .inl (fun _ => 0))), (u6 1, .inl (E.2.2.1, 5, .inl (fun _ => 0))), (u6 2, .inl (E.2.2.1, 5, .inl (fun _ => 0))), (q8, .inr (2, [.null, .null, .null, .int 0]))]) (kc' := 18) (ks' := 299) rfl ?_
  refine VI_dup dX4_init_64 ?_
  refine VI_call (wr := [(h0, .inr (4, [.ref q1, .ref q6, .ref q7, .null, .null, .int 0, .int 0, .int 0])), (q1, .inl (E.2.2.2, 4, .inr (.inr (.inr (.inr (va_up (va_up (va_up (va_up (fun _ => none) (Int32.toNatClampNeg 0) (some (q2))) (Int32.toNatClampNeg 1) (some (q3))) (Int32.toNatClampNeg 2) (some (q4))) (Int32.toNatClampNeg 3) (some (q5)))))))), (q2, .inr (3, [.ref (u1 0), .int 0, .int (-9)])), (u1 0, .inl (E.2.2.1, 60, .inl (fun _ => 0))), (q3, .inr (3, [.ref (u2 0), .int 0, .int (-9)])), (u2 0, .inl (E.2.2.1, 60, .inl (fun _ => 0))), (q4, .inr (3, [.ref (u3 0), .int 0, .int (-9)])), (u3 0, .inl (E.2.2.1, 60, .inl (fun _ => 0))), (q5, .inr (3, [.ref (u4 0), .int 0, .int (-9)])), (u4 0, .inl (E.2.2.1, 60, .inl (fun _ => 0))), (q6, .inr (0, [.ref (u5 0), .ref (u5 1), .ref (u5 2), .int 0])), (u5 0, .inl (E.2.2.1, 5, .inl (fun _ => 0))), (u5 1, .inl (E.2.2.1, 5, .inl (fun _ => 0))), (u5 2, .inl (E.2.2.1, 5, .inl (fun _ => 0))), (q7, .inr (1, [.ref (u6 0), .ref (u6 1), .ref (u6 2), .int 0, .int (-9)])), (u6 0, .inl (E.2.2.1, 5, .inl (fun _ => 0))), (u6 1, .inl (E.2.2.1, 5, .inl (fun _ => 0))), (u6 2, .inl (E.2.2.1, 5, .inl (fun _ => 0)))]) 18 dX4_init_65 il_X4_34 (mi_X2 E q8) (fun u7 => ?_)
  refine VI_w (ws' := [(h0, .inr (4, [.ref q1, .ref q6, .ref q7, .null, .null, .int 0, .int 0, .int 0])), (q1, .inl (E.2.2.2, 4, .inr (.inr (.inr (.inr (va_up (va_up (va_up (va_up (fun _ => none) (Int32.toNatClampNeg 0) (some (q2))) (Int32.toNatClampNeg 1) (some (q3))) (Int32.toNatClampNeg 2) (some (q4))) (Int32.toNatClampNeg 3) (some (q5)))))))), (q2, .inr (3, [.ref (u1 0), .int 0, .int (-9)])), (u1 0, .inl (E.2.2.1, 60, .inl (fun _ => 0))), (q3, .inr (3, [.ref (u2 0), .int 0, .int (-9)])), (u2 0, .inl (E.2.2.1, 60, .inl (fun _ => 0))), (q4, .inr (3, [.ref (u3 0), .int 0, .int (-9)])), (u3 0, .inl (E.2.2.1, 60, .inl (fun _ => 0))), (q5, .inr (3, [.ref (u4 0), .int 0, .int (-9)])), (u4 0, .inl (E.2.2.1, 60, .inl (fun _ => 0))), (q6, .inr (0, [.ref (u5 0), .ref (u5 1), .ref (u5 2), .int 0])), (u5 0, .inl (E.2.2.1, 5, .inl (fun _ => 0))), (u5 1, .inl (E.2.2.1, 5, .inl (fun _ => 0))), (u5 2, .inl (E.2.2.1, 5, .inl (fun _ => 0))), (q7, .inr (1, [.ref (u6 0), .ref (u6 1), .ref (u6 2), .int 0, .int (-9)])), (u6 0, .inl (E.2.2.1, 5, .inl (fun _ => 0))), (u6 1, .inl (E.2.2.1, 5, .inl (fun _ => 0))), (u6 2, .inl (E.2.2.1, 5, .inl (fun _ => 0))), (q8, .inr (2, [.ref (u7 0), .ref (u7 1), .ref (u7 2), .int 0])), (u7 0, .inl (E.2.2.1, 8, .inl (fun _ => 0))), (u7 1, .inl (E.2.2.1, 8, .inl (fun _ => 0))), (u7 2, .inl (E.2.2.1, 8, .inl (fun _ => 0)))]) (kc' := 21) (ks' := 323) rfl ?_
  refine VI_put 0 (.object "FaceGlass$Readings") dX4_init_68 fi_X4_35 ?_
  refine VI_w (ws' := [(h0, .inr (4, [.ref q1, .ref q6, .ref q7, .ref q8, .null, .int 0, .int 0, .int 0])), (q1, .inl (E.2.2.2, 4, .inr (.inr (.inr (.inr (va_up (va_up (va_up (va_up (fun _ => none) (Int32.toNatClampNeg 0) (some (q2))) (Int32.toNatClampNeg 1) (some (q3))) (Int32.toNatClampNeg 2) (some (q4))) (Int32.toNatClampNeg 3) (some (q5)))))))), (q2, .inr (3, [.ref (u1 0), .int 0, .int (-9)])), (u1 0, .inl (E.2.2.1, 60, .inl (fun _ => 0))), (q3, .inr (3, [.ref (u2 0), .int 0, .int (-9)])), (u2 0, .inl (E.2.2.1, 60, .inl (fun _ => 0))), (q4, .inr (3, [.ref (u3 0), .int 0, .int (-9)])), (u3 0, .inl (E.2.2.1, 60, .inl (fun _ => 0))), (q5, .inr (3, [.ref (u4 0), .int 0, .int (-9)])), (u4 0, .inl (E.2.2.1, 60, .inl (fun _ => 0))), (q6, .inr (0, [.ref (u5 0), .ref (u5 1), .ref (u5 2), .int 0])), (u5 0, .inl (E.2.2.1, 5, .inl (fun _ => 0))), (u5 1, .inl (E.2.2.1, 5, .inl (fun _ => 0))), (u5 2, .inl (E.2.2.1, 5, .inl (fun _ => 0))), (q7, .inr (1, [.ref (u6 0), .ref (u6 1), .ref (u6 2), .int 0, .int (-9)])), (u6 0, .inl (E.2.2.1, 5, .inl (fun _ => 0))), (u6 1, .inl (E.2.2.1, 5, .inl (fun _ => 0))), (u6 2, .inl (E.2.2.1, 5, .inl (fun _ => 0))), (q8, .inr (2, [.ref (u7 0), .ref (u7 1), .ref (u7 2), .int 0])), (u7 0, .inl (E.2.2.1, 8, .inl (fun _ => 0))), (u7 1, .inl (E.2.2.1, 8, .inl (fun _ => 0))), (u7 2, .inl (E.2.2.1, 8, .inl (fun _ => 0)))]) (kc' := 21) (ks' := 323) rfl ?_
  refine VI_aload_n 1 dX4_init_71 ?_
  refine VI_bipush 20 dX4_init_72 ?_
  refine VI_newa 20 dX4_init_74 (fun q9 => ?_)
  refine VI_w (ws' := [(h0, .inr (4, [.ref q1, .ref q6, .ref q7, .ref q8, .null, .int 0, .int 0, .int 0])), (q1, .inl (E.2.2.2, 4, .inr (.inr (.inr (.inr (va_up (va_up (va_up (va_up (fun _ => none) (Int32.toNatClampNeg 0) (some (q2))) (Int32.toNatClampNeg 1) (some (q3))) (Int32.toNatClampNeg 2) (some (q4))) (Int32.toNatClampNeg 3) (some (q5)))))))), (q2, .inr (3, [.ref (u1 0), .int 0, .int (-9)])), (u1 0, .inl (E.2.2.1, 60, .inl (fun _ => 0))), (q3, .inr (3, [.ref (u2 0), .int 0, .int (-9)])), (u2 0, .inl (E.2.2.1, 60, .inl (fun _ => 0))), (q4, .inr (3, [.ref (u3 0), .int 0, .int (-9)])), (u3 0, .inl (E.2.2.1, 60, .inl (fun _ => 0))), (q5, .inr (3, [.ref (u4 0), .int 0, .int (-9)])), (u4 0, .inl (E.2.2.1, 60, .inl (fun _ => 0))), (q6, .inr (0, [.ref (u5 0), .ref (u5 1), .ref (u5 2), .int 0])), (u5 0, .inl (E.2.2.1, 5, .inl (fun _ => 0))), (u5 1, .inl (E.2.2.1, 5, .inl (fun _ => 0))), (u5 2, .inl (E.2.2.1, 5, .inl (fun _ => 0))), (q7, .inr (1, [.ref (u6 0), .ref (u6 1), .ref (u6 2), .int 0, .int (-9)])), (u6 0, .inl (E.2.2.1, 5, .inl (fun _ => 0))), (u6 1, .inl (E.2.2.1, 5, .inl (fun _ => 0))), (u6 2, .inl (E.2.2.1, 5, .inl (fun _ => 0))), (q8, .inr (2, [.ref (u7 0), .ref (u7 1), .ref (u7 2), .int 0])), (u7 0, .inl (E.2.2.1, 8, .inl (fun _ => 0))), (u7 1, .inl (E.2.2.1, 8, .inl (fun _ => 0))), (u7 2, .inl (E.2.2.1, 8, .inl (fun _ => 0))), (q9, .inl (E.2.2.1, 20, .inl (fun _ => 0)))]) (kc' := 22) (ks' := 343) rfl ?_
  refine VI_put 0 (.array .int) dX4_init_76 fi_X4_39 ?_
  refine VI_w (ws' := [(h0, .inr (4, [.ref q1, .ref q6, .ref q7, .ref q8, .ref q9, .int 0, .int 0, .int 0])), (q1, .inl (E.2.2.2, 4, .inr (.inr (.inr (.inr (va_up (va_up (va_up (va_up (fun _ => none) (Int32.toNatClampNeg 0) (some (q2))) (Int32.toNatClampNeg 1) (some (q3))) (Int32.toNatClampNeg 2) (some (q4))) (Int32.toNatClampNeg 3) (some (q5)))))))), (q2, .inr (3, [.ref (u1 0), .int 0, .int (-9)])), (u1 0, .inl (E.2.2.1, 60, .inl (fun _ => 0))), (q3, .inr (3, [.ref (u2 0), .int 0, .int (-9)])), (u2 0, .inl (E.2.2.1, 60, .inl (fun _ => 0))), (q4, .inr (3, [.ref (u3 0), .int 0, .int (-9)])), (u3 0, .inl (E.2.2.1, 60, .inl (fun _ => 0))), (q5, .inr (3, [.ref (u4 0), .int 0, .int (-9)])), (u4 0, .inl (E.2.2.1, 60, .inl (fun _ => 0))), (q6, .inr (0, [.ref (u5 0), .ref (u5 1), .ref (u5 2), .int 0])), (u5 0, .inl (E.2.2.1, 5, .inl (fun _ => 0))), (u5 1, .inl (E.2.2.1, 5, .inl (fun _ => 0))), (u5 2, .inl (E.2.2.1, 5, .inl (fun _ => 0))), (q7, .inr (1, [.ref (u6 0), .ref (u6 1), .ref (u6 2), .int 0, .int (-9)])), (u6 0, .inl (E.2.2.1, 5, .inl (fun _ => 0))), (u6 1, .inl (E.2.2.1, 5, .inl (fun _ => 0))), (u6 2, .inl (E.2.2.1, 5, .inl (fun _ => 0))), (q8, .inr (2, [.ref (u7 0), .ref (u7 1), .ref (u7 2), .int 0])), (u7 0, .inl (E.2.2.1, 8, .inl (fun _ => 0))), (u7 1, .inl (E.2.2.1, 8, .inl (fun _ => 0))), (u7 2, .inl (E.2.2.1, 8, .inl (fun _ => 0))), (q9, .inl (E.2.2.1, 20, .inl (fun _ => 0)))]) (kc' := 22) (ks' := 343) rfl ?_
  exact VI_vret (fun j => ([h0, q1, q2, q3, q4, q5, u1 0, u2 0, u3 0, u4 0, q6, u5 0, u5 1, u5 2, q7, u6 0, u6 1, u6 2, q8, u7 0, u7 1, u7 2, q9] : List Nat).getD j 0) [0, 1, 2, 4, 6, 8, 3, 5, 7, 9, 10, 11, 12, 13, 14, 15, 16, 17, 18, 19, 20, 21, 22] dX4_init_79 rfl
abbrev wX5 (E : GI) (h0 : Nat) (u : Nat → Nat) : va_W := [(h0, .inr (5, [.int 0, .int 0, .ref (u 1), .ref (u 2), .ref (u 3), .int 0, .ref (u 4), .ref (u 5), .ref (u 6), .int 0, .int 0, .ref (u 7), .ref (u 8), .ref (u 9), .int 0, .int 0, .ref (u 10), .int 0, .int 0, .ref (u 11), .ref (u 12), .ref (u 13)])), (u 1, .inl (E.2.2.1, 4, .inl (upd (upd (upd (upd (fun _ => 0) (Int32.toNatClampNeg 0) (-9)) (Int32.toNatClampNeg 1) (-9)) (Int32.toNatClampNeg 2) (-9)) (Int32.toNatClampNeg 3) (-9)))), (u 2, .inl (E.2.2.1, 4, .inl (fun _ => 0))), (u 3, .inl (E.2.2.1, 240, .inl (fun _ => 0))), (u 4, .inl (E.2.2.1, 5, .inl (fun _ => 0))), (u 5, .inl (E.2.2.1, 5, .inl (fun _ => 0))), (u 6, .inl (E.2.2.1, 5, .inl (fun _ => 0))), (u 7, .inl (E.2.2.1, 15, .inl (fun _ => 0))), (u 8, .inl (E.2.2.1, 5, .inl (fun _ => 0))), (u 9, .inl (E.2.2.1, 5, .inl (fun _ => 0))), (u 10, .inl (E.2.2.1, 20, .inl (fun _ => 0))), (u 11, .inl (E.2.2.1, 8, .inl (fun _ => 0))), (u 12, .inl (E.2.2.1, 8, .inl (fun _ => 0))), (u 13, .inl (E.2.2.1, 8, .inl (fun _ => 0)))]
set_option maxRecDepth 100000 in
theorem mi_X5 (E : GI) (h0 : Nat) : MI E 1 M_X5_init 13 332 h0 (.inr (5, [.int 0, .int 0, .null, .null, .null, .int 0, .null, .null, .null, .int 0, .int 0, .null, .null, .null, .int 0, .int 0, .null, .int 0, .int 0, .null, .null, .null])) (wX5 E h0) := by
  refine MI_of ?_
  refine VI_aload_n 0 dX5_init_0 ?_
  refine VI_objInit 468 dX5_init_1 wo_X5_1 ?_
  refine VI_aload_n 0 dX5_init_4 ?_
  refine VI_iconst 4 dX5_init_5 ?_
  refine VI_newa 4 dX5_init_6 (fun q1 => ?_)
  refine VI_w (ws' := [(h0, .inr (5, [.int 0, .int 0, .null, .null, .null, .int 0, .null, .null, .null, .int 0, .int 0, .null, .null, .null, .int 0, .int 0, .null, .int 0, .int 0, .null, .null, .null])), (q1, .inl (E.2.2.1, 4, .inl (fun _ => 0)))]) (kc' := 1) (ks' := 4) rfl ?_
  refine VI_dup dX5_init_8 ?_
  refine VI_iconst 0 dX5_init_9 ?_
  refine VI_bipush (-9) dX5_init_10 ?_
  refine VI_iast 1 dX5_init_12 ?_
  refine VI_w (ws' := [(h0, .inr (5, [.int 0, .int 0, .null, .null, .null, .int 0, .null, .null, .null, .int 0, .int 0, .null, .null, .null, .int 0, .int 0, .null, .int 0, .int 0, .null, .null, .null])), (q1, .inl (E.2.2.1, 4, .inl (upd (fun _ => 0) (Int32.toNatClampNeg 0) (-9))))]) (kc' := 1) (ks' := 4) rfl ?_
  refine VI_dup dX5_init_13 ?_
  refine VI_iconst 1 dX5_init_14 ?_
  refine VI_bipush (-9) dX5_init_15 ?_
  refine VI_iast 1 dX5_init_17 ?_
  refine VI_w (ws' := [(h0, .inr (5, [.int 0, .int 0, .null, .null, .null, .int 0, .null, .null, .null, .int 0, .int 0, .null, .null, .null, .int 0, .int 0, .null, .int 0, .int 0, .null, .null, .null])), (q1, .inl (E.2.2.1, 4, .inl (upd (upd (fun _ => 0) (Int32.toNatClampNeg 0) (-9)) (Int32.toNatClampNeg 1) (-9))))]) (kc' := 1) (ks' := 4) rfl ?_
  refine VI_dup dX5_init_18 ?_
  refine VI_iconst 2 dX5_init_19 ?_
  refine VI_bipush (-9) dX5_init_20 ?_
  refine VI_iast 1 dX5_init_22 ?_
  refine VI_w (ws' := [(h0, .inr (5, [.int 0, .int 0, .null, .null, .null, .int 0, .null, .null, .null, .int 0, .int 0, .null, .null, .null, .int 0, .int 0, .null, .int 0, .int 0, .null, .null, .null])), (q1, .inl (E.2.2.1, 4, .inl (upd (upd (upd (fun _ => 0) (Int32.toNatClampNeg 0) (-9)) (Int32.toNatClampNeg 1) (-9)) (Int32.toNatClampNeg 2) (-9))))]) (kc' := 1) (ks' := 4) rfl ?_
  refine VI_dup dX5_init_23 ?_
  refine VI_iconst 3 dX5_init_24 ?_
  refine VI_bipush (-9) dX5_init_25 ?_
  refine VI_iast 1 dX5_init_27 ?_
  refine VI_w (ws' := [(h0, .inr (5, [.int 0, .int 0, .null, .null, .null, .int 0, .null, .null, .null, .int 0, .int 0, .null, .null, .null, .int 0, .int 0, .null, .int 0, .int 0, .null, .null, .null])), (q1, .inl (E.2.2.1, 4, .inl (upd (upd (upd (upd (fun _ => 0) (Int32.toNatClampNeg 0) (-9)) (Int32.toNatClampNeg 1) (-9)) (Int32.toNatClampNeg 2) (-9)) (Int32.toNatClampNeg 3) (-9))))]) (kc' := 1) (ks' := 4) rfl ?_
  refine VI_put 0 (.array .int) dX5_init_28 fi_X5_9 ?_
  refine VI_w (ws' := [(h0, .inr (5, [.int 0, .int 0, .ref q1, .null, .null, .int 0, .null, .null, .null, .int 0, .int 0, .null, .null, .null, .int 0, .int 0, .null, .int 0, .int 0, .null, .null, .null])), (q1, .inl (E.2.2.1, 4, .inl (upd (upd (upd (upd (fun _ => 0) (Int32.toNatClampNeg 0) (-9)) (Int32.toNatClampNeg 1) (-9)) (Int32.toNatClampNeg 2) (-9)) (Int32.toNatClampNeg 3) (-9))))]) (kc' := 1) (ks' := 4) rfl ?_
  refine VI_aload_n 0 dX5_init_31 ?_
  refine VI_iconst 4 dX5_init_32 ?_
  refine VI_newa 4 dX5_init_33 (fun q2 => ?_)
  refine VI_w (ws' := [(h0, .inr (5, [.int 0, .int 0, .ref q1, .null, .null, .int 0, .null, .null, .null, .int 0, .int 0, .null, .null, .null, .int 0, .int 0, .null, .int 0, .int 0, .null, .null, .null])), (q1, .inl (E.2.2.1, 4, .inl (upd (upd (upd (upd (fun _ => 0) (Int32.toNatClampNeg 0) (-9)) (Int32.toNatClampNeg 1) (-9)) (Int32.toNatClampNeg 2) (-9)) (Int32.toNatClampNeg 3) (-9)))), (q2, .inl (E.2.2.1, 4, .inl (fun _ => 0)))]) (kc' := 2) (ks' := 8) rfl ?_
  refine VI_put 0 (.array .int) dX5_init_35 fi_X5_13 ?_
  refine VI_w (ws' := [(h0, .inr (5, [.int 0, .int 0, .ref q1, .ref q2, .null, .int 0, .null, .null, .null, .int 0, .int 0, .null, .null, .null, .int 0, .int 0, .null, .int 0, .int 0, .null, .null, .null])), (q1, .inl (E.2.2.1, 4, .inl (upd (upd (upd (upd (fun _ => 0) (Int32.toNatClampNeg 0) (-9)) (Int32.toNatClampNeg 1) (-9)) (Int32.toNatClampNeg 2) (-9)) (Int32.toNatClampNeg 3) (-9)))), (q2, .inl (E.2.2.1, 4, .inl (fun _ => 0)))]) (kc' := 2) (ks' := 8) rfl ?_
  refine VI_aload_n 0 dX5_init_38 ?_
  refine VI_sipush 240 dX5_init_39 ?_
  refine VI_newa 240 dX5_init_42 (fun q3 => ?_)
  refine VI_w (ws' := [(h0, .inr (5, [.int 0, .int 0, .ref q1, .ref q2, .null, .int 0, .null, .null, .null, .int 0, .int 0, .null, .null, .null, .int 0, .int 0, .null, .int 0, .int 0, .null, .null, .null])), (q1, .inl (E.2.2.1, 4, .inl (upd (upd (upd (upd (fun _ => 0) (Int32.toNatClampNeg 0) (-9)) (Int32.toNatClampNeg 1) (-9)) (Int32.toNatClampNeg 2) (-9)) (Int32.toNatClampNeg 3) (-9)))), (q2, .inl (E.2.2.1, 4, .inl (fun _ => 0))), (q3, .inl (E.2.2.1, 240, .inl (fun _ => 0)))]) (kc' := 3) (ks' := 248) rfl ?_
  refine VI_put 0 (.array .int) dX5_init_44 fi_X5_16 ?_
  refine VI_w (ws' := [(h0, .inr (5, [.int 0, .int 0, .ref q1, .ref q2, .ref q3, .int 0, .null, .null, .null, .int 0, .int 0, .null, .null, .null, .int 0, .int 0, .null, .int 0, .int 0, .null, .null, .null])), (q1, .inl (E.2.2.1, 4, .inl (upd (upd (upd (upd (fun _ => 0) (Int32.toNatClampNeg 0) (-9)) (Int32.toNatClampNeg 1) (-9)) (Int32.toNatClampNeg 2) (-9)) (Int32.toNatClampNeg 3) (-9)))), (q2, .inl (E.2.2.1, 4, .inl (fun _ => 0))), (q3, .inl (E.2.2.1, 240, .inl (fun _ => 0)))]) (kc' := 3) (ks' := 248) rfl ?_
  refine VI_aload_n 0 dX5_init_47 ?_
  refine VI_iconst 5 dX5_init_48 ?_
  refine VI_newa 5 dX5_init_49 (fun q4 => ?_)
  refine VI_w (ws' := [(h0, .inr (5, [.int 0, .int 0, .ref q1, .ref q2, .ref q3, .int 0, .null, .null, .null, .int 0, .int 0, .null, .null, .null, .int 0, .int 0, .null, .int 0, .int 0, .null, .null, .null])), (q1, .inl (E.2.2.1, 4, .inl (upd (upd (upd (upd (fun _ => 0) (Int32.toNatClampNeg 0) (-9)) (Int32.toNatClampNeg 1) (-9)) (Int32.toNatClampNeg 2) (-9)) (Int32.toNatClampNeg 3) (-9)))), (q2, .inl (E.2.2.1, 4, .inl (fun _ => 0))), (q3, .inl (E.2.2.1, 240, .inl (fun _ => 0))), (q4, .inl (E.2.2.1, 5, .inl (fun _ => 0)))]) (kc' := 4) (ks' := 253) rfl ?_
  refine VI_put 0 (.array .int) dX5_init_51 fi_X5_19 ?_
  refine VI_w (ws' := [(h0, .inr (5, [.int 0, .int 0, .ref q1, .ref q2, .ref q3, .int 0, .ref q4, .null, .null, .int 0, .int 0, .null, .null, .null, .int 0, .int 0, .null, .int 0, .int 0, .null, .null, .null])), (q1, .inl (E.2.2.1, 4, .inl (upd (upd (upd (upd (fun _ => 0) (Int32.toNatClampNeg 0) (-9)) (Int32.toNatClampNeg 1) (-9)) (Int32.toNatClampNeg 2) (-9)) (Int32.toNatClampNeg 3) (-9)))), (q2, .inl (E.2.2.1, 4, .inl (fun _ => 0))), (q3, .inl (E.2.2.1, 240, .inl (fun _ => 0))), (q4, .inl (E.2.2.1, 5, .inl (fun _ => 0)))]) (kc' := 4) (ks' := 253) rfl ?_
  refine VI_aload_n 0 dX5_init_54 ?_
  refine VI_iconst 5 dX5_init_55 ?_
  refine VI_newa 5 dX5_init_56 (fun q5 => ?_)
  refine VI_w (ws' := [(h0, .inr (5, [.int 0, .int 0, .ref q1, .ref q2, .ref q3, .int 0, .ref q4, .null, .null, .int 0, .int 0, .null, .null, .null, .int 0, .int 0, .null, .int 0, .int 0, .null, .null, .null])), (q1, .inl (E.2.2.1, 4, .inl (upd (upd (upd (upd (fun _ => 0) (Int32.toNatClampNeg 0) (-9)) (Int32.toNatClampNeg 1) (-9)) (Int32.toNatClampNeg 2) (-9)) (Int32.toNatClampNeg 3) (-9)))), (q2, .inl (E.2.2.1, 4, .inl (fun _ => 0))), (q3, .inl (E.2.2.1, 240, .inl (fun _ => 0))), (q4, .inl (E.2.2.1, 5, .inl (fun _ => 0))), (q5, .inl (E.2.2.1, 5, .inl (fun _ => 0)))]) (kc' := 5) (ks' := 258) rfl ?_
  refine VI_put 0 (.array .int) dX5_init_58 fi_X5_22 ?_
  refine VI_w (ws' := [(h0, .inr (5, [.int 0, .int 0, .ref q1, .ref q2, .ref q3, .int 0, .ref q4, .ref q5, .null, .int 0, .int 0, .null, .null, .null, .int 0, .int 0, .null, .int 0, .int 0, .null, .null, .null])), (q1, .inl (E.2.2.1, 4, .inl (upd (upd (upd (upd (fun _ => 0) (Int32.toNatClampNeg 0) (-9)) (Int32.toNatClampNeg 1) (-9)) (Int32.toNatClampNeg 2) (-9)) (Int32.toNatClampNeg 3) (-9)))), (q2, .inl (E.2.2.1, 4, .inl (fun _ => 0))), (q3, .inl (E.2.2.1, 240, .inl (fun _ => 0))), (q4, .inl (E.2.2.1, 5, .inl (fun _ => 0))), (q5, .inl (E.2.2.1, 5, .inl (fun _ => 0)))]) (kc' := 5) (ks' := 258) rfl ?_
  refine VI_aload_n 0 dX5_init_61 ?_
  refine VI_iconst 5 dX5_init_62 ?_
  refine VI_newa 5 dX5_init_63 (fun q6 => ?_)
  refine VI_w (ws' := [(h0, .inr (5, [.int 0, .int 0, .ref q1, .ref q2, .ref q3, .int 0, .ref q4, .ref q5, .null, .int 0, .int 0, .null, .null, .null, .int 0, .int 0, .null, .int 0, .int 0, .null, .null, .null])), (q1, .inl (E.2.2.1, 4, .inl (upd (upd (upd (upd (fun _ => 0) (Int32.toNatClampNeg 0) (-9)) (Int32.toNatClampNeg 1) (-9)) (Int32.toNatClampNeg 2) (-9)) (Int32.toNatClampNeg 3) (-9)))), (q2, .inl (E.2.2.1, 4, .inl (fun _ => 0))), (q3, .inl (E.2.2.1, 240, .inl (fun _ => 0))), (q4, .inl (E.2.2.1, 5, .inl (fun _ => 0))), (q5, .inl (E.2.2.1, 5, .inl (fun _ => 0))), (q6, .inl (E.2.2.1, 5, .inl (fun _ => 0)))]) (kc' := 6) (ks' := 263) rfl ?_
  refine VI_put 0 (.array .int) dX5_init_65 fi_X5_25 ?_
  refine VI_w (ws' := [(h0, .inr (5, [.int 0, .int 0, .ref q1, .ref q2, .ref q3, .int 0, .ref q4, .ref q5, .ref q6, .int 0, .int 0, .null, .null, .null, .int 0, .int 0, .null, .int 0, .int 0, .null, .null, .null])), (q1, .inl (E.2.2.1, 4, .inl (upd (upd (upd (upd (fun _ => 0) (Int32.toNatClampNeg 0) (-9)) (Int32.toNatClampNeg 1) (-9)) (Int32.toNatClampNeg 2) (-9)) (Int32.toNatClampNeg 3) (-9)))), (q2, .inl (E.2.2.1, 4, .inl (fun _ => 0))), (q3, .inl (E.2.2.1, 240, .inl (fun _ => 0))), (q4, .inl (E.2.2.1, 5, .inl (fun _ => 0))), (q5, .inl (E.2.2.1, 5, .inl (fun _ => 0))), (q6, .inl (E.2.2.1, 5, .inl (fun _ => 0)))]) (kc' := 6) (ks' := 263) rfl ?_
  refine VI_aload_n 0 dX5_init_68 ?_
  refine VI_bipush 15 dX5_init_69 ?_
  refine VI_newa 15 dX5_init_71 (fun q7 => ?_)
  refine VI_w (ws' := [(h0, .inr (5, [.int 0, .int 0, .ref q1, .ref q2, .ref q3, .int 0, .ref q4, .ref q5, .ref q6, .int 0, .int 0, .null, .null, .null, .int 0, .int 0, .null, .int 0, .int 0, .null, .null, .null])), (q1, .inl (E.2.2.1, 4, .inl (upd (upd (upd (upd (fun _ => 0) (Int32.toNatClampNeg 0) (-9)) (Int32.toNatClampNeg 1) (-9)) (Int32.toNatClampNeg 2) (-9)) (Int32.toNatClampNeg 3) (-9)))), (q2, .inl (E.2.2.1, 4, .inl (fun _ => 0))), (q3, .inl (E.2.2.1, 240, .inl (fun _ => 0))), (q4, .inl (E.2.2.1, 5, .inl (fun _ => 0))), (q5, .inl (E.2.2.1, 5, .inl (fun _ => 0))), (q6, .inl (E.2.2.1, 5, .inl (fun _ => 0))), (q7, .inl (E.2.2.1, 15, .inl (fun _ => 0)))]) (kc' := 7) (ks' := 278) rfl ?_
  refine VI_put 0 (.array .int) dX5_init_73 fi_X5_28 ?_
  refine VI_w (ws' := [(h0, .inr (5, [.int 0, .int 0, .ref q1, .ref q2, .ref q3, .int 0, .ref q4, .ref q5, .ref q6, .int 0, .int 0, .ref q7, .null, .null, .int 0, .int 0, .null, .int 0, .int 0, .null, .null, .null])), (q1, .inl (E.2.2.1, 4, .inl (upd (upd (upd (upd (fun _ => 0) (Int32.toNatClampNeg 0) (-9)) (Int32.toNatClampNeg 1) (-9)) (Int32.toNatClampNeg 2) (-9)) (Int32.toNatClampNeg 3) (-9)))), (q2, .inl (E.2.2.1, 4, .inl (fun _ => 0))), (q3, .inl (E.2.2.1, 240, .inl (fun _ => 0))), (q4, .inl (E.2.2.1, 5, .inl (fun _ => 0))), (q5, .inl (E.2.2.1, 5, .inl (fun _ => 0))), (q6, .inl (E.2.2.1, 5, .inl (fun _ => 0))), (q7, .inl (E.2.2.1, 15, .inl (fun _ => 0)))]) (kc' := 7) (ks' := 278) rfl ?_
  refine VI_aload_n 0 dX5_init_76 ?_
  refine VI_iconst 5 dX5_init_77 ?_
  refine VI_newa 5 dX5_init_78 (fun q8 => ?_)
  refine VI_w (ws' := [(h0, .inr (5, [.int 0, .int 0, .ref q1, .ref q2, .ref q3, .int 0, .ref q4, .ref q5, .ref q6, .int 0, .int 0, .ref q7, .null, .null, .int 0, .int 0, .null, .int 0, .int 0, .null, .null, .null])), (q1, .inl (E.2.2.1, 4, .inl (upd (upd (upd (upd (fun _ => 0) (Int32.toNatClampNeg 0) (-9)) (Int32.toNatClampNeg 1) (-9)) (Int32.toNatClampNeg 2) (-9)) (Int32.toNatClampNeg 3) (-9)))), (q2, .inl (E.2.2.1, 4, .inl (fun _ => 0))), (q3, .inl (E.2.2.1, 240, .inl (fun _ => 0))), (q4, .inl (E.2.2.1, 5, .inl (fun _ => 0))), (q5, .inl (E.2.2.1, 5, .inl (fun _ => 0))), (q6, .inl (E.2.2.1, 5, .inl (fun _ => 0))), (q7, .inl (E.2.2.1, 15, .inl (fun _ => 0))), (q8, .inl (E.2.2.1, 5, .inl (fun _ => 0)))]) (kc' := 8) (ks' := 283) rfl ?_
  refine VI_put 0 (.array .int) dX5_init_80 fi_X5_31 ?_
  refine VI_w (ws' := [(h0, .inr (5, [.int 0, .int 0, .ref q1, .ref q2, .ref q3, .int 0, .ref q4, .ref q5, .ref q6, .int 0, .int 0, .ref q7, .ref q8, .null, .int 0, .int 0, .null, .int 0, .int 0, .null, .null, .null])), (q1, .inl (E.2.2.1, 4, .inl (upd (upd (upd (upd (fun _ => 0) (Int32.toNatClampNeg 0) (-9)) (Int32.toNatClampNeg 1) (-9)) (Int32.toNatClampNeg 2) (-9)) (Int32.toNatClampNeg 3) (-9)))), (q2, .inl (E.2.2.1, 4, .inl (fun _ => 0))), (q3, .inl (E.2.2.1, 240, .inl (fun _ => 0))), (q4, .inl (E.2.2.1, 5, .inl (fun _ => 0))), (q5, .inl (E.2.2.1, 5, .inl (fun _ => 0))), (q6, .inl (E.2.2.1, 5, .inl (fun _ => 0))), (q7, .inl (E.2.2.1, 15, .inl (fun _ => 0))), (q8, .inl (E.2.2.1, 5, .inl (fun _ => 0)))]) (kc' := 8) (ks' := 283) rfl ?_
  refine VI_aload_n 0 dX5_init_83 ?_
  refine VI_iconst 5 dX5_init_84 ?_
  refine VI_newa 5 dX5_init_85 (fun q9 => ?_)
  refine VI_w (ws' := [(h0, .inr (5, [.int 0, .int 0, .ref q1, .ref q2, .ref q3, .int 0, .ref q4, .ref q5, .ref q6, .int 0, .int 0, .ref q7, .ref q8, .null, .int 0, .int 0, .null, .int 0, .int 0, .null, .null, .null])), (q1, .inl (E.2.2.1, 4, .inl (upd (upd (upd (upd (fun _ => 0) (Int32.toNatClampNeg 0) (-9)) (Int32.toNatClampNeg 1) (-9)) (Int32.toNatClampNeg 2) (-9)) (Int32.toNatClampNeg 3) (-9)))), (q2, .inl (E.2.2.1, 4, .inl (fun _ => 0))), (q3, .inl (E.2.2.1, 240, .inl (fun _ => 0))), (q4, .inl (E.2.2.1, 5, .inl (fun _ => 0))), (q5, .inl (E.2.2.1, 5, .inl (fun _ => 0))), (q6, .inl (E.2.2.1, 5, .inl (fun _ => 0))), (q7, .inl (E.2.2.1, 15, .inl (fun _ => 0))), (q8, .inl (E.2.2.1, 5, .inl (fun _ => 0))), (q9, .inl (E.2.2.1, 5, .inl (fun _ => 0)))]) (kc' := 9) (ks' := 288) rfl ?_
  refine VI_put 0 (.array .int) dX5_init_87 fi_X5_34 ?_
  refine VI_w (ws' := [(h0, .inr (5, [.int 0, .int 0, .ref q1, .ref q2, .ref q3, .int 0, .ref q4, .ref q5, .ref q6, .int 0, .int 0, .ref q7, .ref q8, .ref q9, .int 0, .int 0, .null, .int 0, .int 0, .null, .null, .null])), (q1, .inl (E.2.2.1, 4, .inl (upd (upd (upd (upd (fun _ => 0) (Int32.toNatClampNeg 0) (-9)) (Int32.toNatClampNeg 1) (-9)) (Int32.toNatClampNeg 2) (-9)) (Int32.toNatClampNeg 3) (-9)))), (q2, .inl (E.2.2.1, 4, .inl (fun _ => 0))), (q3, .inl (E.2.2.1, 240, .inl (fun _ => 0))), (q4, .inl (E.2.2.1, 5, .inl (fun _ => 0))), (q5, .inl (E.2.2.1, 5, .inl (fun _ => 0))), (q6, .inl (E.2.2.1, 5, .inl (fun _ => 0))), (q7, .inl (E.2.2.1, 15, .inl (fun _ => 0))), (q8, .inl (E.2.2.1, 5, .inl (fun _ => 0))), (q9, .inl (E.2.2.1, 5, .inl (fun _ => 0)))]) (kc' := 9) (ks' := 288) rfl ?_
  refine VI_aload_n 0 dX5_init_90 ?_
  refine VI_bipush 20 dX5_init_91 ?_
  refine VI_newa 20 dX5_init_93 (fun q10 => ?_)
  refine VI_w (ws' := [(h0, .inr (5, [.int 0, .int 0, .ref q1, .ref q2, .ref q3, .int 0, .ref q4, .ref q5, .ref q6, .int 0, .int 0, .ref q7, .ref q8, .ref q9, .int 0, .int 0, .null, .int 0, .int 0, .null, .null, .null])), (q1, .inl (E.2.2.1, 4, .inl (upd (upd (upd (upd (fun _ => 0) (Int32.toNatClampNeg 0) (-9)) (Int32.toNatClampNeg 1) (-9)) (Int32.toNatClampNeg 2) (-9)) (Int32.toNatClampNeg 3) (-9)))), (q2, .inl (E.2.2.1, 4, .inl (fun _ => 0))), (q3, .inl (E.2.2.1, 240, .inl (fun _ => 0))), (q4, .inl (E.2.2.1, 5, .inl (fun _ => 0))), (q5, .inl (E.2.2.1, 5, .inl (fun _ => 0))), (q6, .inl (E.2.2.1, 5, .inl (fun _ => 0))), (q7, .inl (E.2.2.1, 15, .inl (fun _ => 0))), (q8, .inl (E.2.2.1, 5, .inl (fun _ => 0))), (q9, .inl (E.2.2.1, 5, .inl (fun _ => 0))), (q10, .inl (E.2.2.1, 20, .inl (fun _ => 0)))]) (kc' := 10) (ks' := 308) rfl ?_
  refine VI_put 0 (.array .int) dX5_init_95 fi_X5_37 ?_
  refine VI_w (ws' := [(h0, .inr (5, [.int 0, .int 0, .ref q1, .ref q2, .ref q3, .int 0, .ref q4, .ref q5, .ref q6, .int 0, .int 0, .ref q7, .ref q8, .ref q9, .int 0, .int 0, .ref q10, .int 0, .int 0, .null, .null, .null])), (q1, .inl (E.2.2.1, 4, .inl (upd (upd (upd (upd (fun _ => 0) (Int32.toNatClampNeg 0) (-9)) (Int32.toNatClampNeg 1) (-9)) (Int32.toNatClampNeg 2) (-9)) (Int32.toNatClampNeg 3) (-9)))), (q2, .inl (E.2.2.1, 4, .inl (fun _ => 0))), (q3, .inl (E.2.2.1, 240, .inl (fun _ => 0))), (q4, .inl (E.2.2.1, 5, .inl (fun _ => 0))), (q5, .inl (E.2.2.1, 5, .inl (fun _ => 0))), (q6, .inl (E.2.2.1, 5, .inl (fun _ => 0))), (q7, .inl (E.2.2.1, 15, .inl (fun _ => 0))), (q8, .inl (E.2.2.1, 5, .inl (fun _ => 0))), (q9, .inl (E.2.2.1, 5, .inl (fun _ => 0))), (q10, .inl (E.2.2.1, 20, .inl (fun _ => 0)))]) (kc' := 10) (ks' := 308) rfl ?_
  refine VI_aload_n 0 dX5_init_98 ?_
  refine VI_bipush 8 dX5_init_99 ?_
  refine VI_newa 8 dX5_init_101 (fun q11 => ?_)
  refine VI_w (ws' := [(h0, .inr (5, [.int 0, .int 0, .ref q1, .ref q2, .ref q3, .int 0, .ref q4, .ref q5, .ref q6, .int 0, .int 0, .ref q7, .ref q8, .ref q9, .int 0, .int 0, .ref q10, .int 0, .int 0, .null, .null, .null])), (q1, .inl (E.2.2.1, 4, .inl (upd (upd (upd (upd (fun _ => 0) (Int32.toNatClampNeg 0) (-9)) (Int32.toNatClampNeg 1) (-9)) (Int32.toNatClampNeg 2) (-9)) (Int32.toNatClampNeg 3) (-9)))), (q2, .inl (E.2.2.1, 4, .inl (fun _ => 0))), (q3, .inl (E.2.2.1, 240, .inl (fun _ => 0))), (q4, .inl (E.2.2.1, 5, .inl (fun _ => 0))), (q5, .inl (E.2.2.1, 5, .inl (fun _ => 0))), (q6, .inl (E.2.2.1, 5, .inl (fun _ => 0))), (q7, .inl (E.2.2.1, 15, .inl (fun _ => 0))), (q8, .inl (E.2.2.1, 5, .inl (fun _ => 0))), (q9, .inl (E.2.2.1, 5, .inl (fun _ => 0))), (q10, .inl (E.2.2.1, 20, .inl (fun _ => 0))), (q11, .inl (E.2.2.1, 8, .inl (fun _ => 0)))]) (kc' := 11) (ks' := 316) rfl ?_
  refine VI_put 0 (.array .int) dX5_init_103 fi_X5_40 ?_
  refine VI_w (ws' := [(h0, .inr (5, [.int 0, .int 0, .ref q1, .ref q2, .ref q3, .int 0, .ref q4, .ref q5, .ref q6, .int 0, .int 0, .ref q7, .ref q8, .ref q9, .int 0, .int 0, .ref q10, .int 0, .int 0, .ref q11, .null, .null])), (q1, .inl (E.2.2.1, 4, .inl (upd (upd (upd (upd (fun _ => 0) (Int32.toNatClampNeg 0) (-9)) (Int32.toNatClampNeg 1) (-9)) (Int32.toNatClampNeg 2) (-9)) (Int32.toNatClampNeg 3) (-9)))), (q2, .inl (E.2.2.1, 4, .inl (fun _ => 0))), (q3, .inl (E.2.2.1, 240, .inl (fun _ => 0))), (q4, .inl (E.2.2.1, 5, .inl (fun _ => 0))), (q5, .inl (E.2.2.1, 5, .inl (fun _ => 0))), (q6, .inl (E.2.2.1, 5, .inl (fun _ => 0))), (q7, .inl (E.2.2.1, 15, .inl (fun _ => 0))), (q8, .inl (E.2.2.1, 5, .inl (fun _ => 0))), (q9, .inl (E.2.2.1, 5, .inl (fun _ => 0))), (q10, .inl (E.2.2.1, 20, .inl (fun _ => 0))), (q11, .inl (E.2.2.1, 8, .inl (fun _ => 0)))]) (kc' := 11) (ks' := 316) rfl ?_
  refine VI_aload_n 0 dX5_init_106 ?_
  refine VI_bipush 8 dX5_init_107 ?_
  refine VI_newa 8 dX5_init_109 (fun q12 => ?_)
  refine VI_w (ws' := [(h0, .inr (5, [.int 0, .int 0, .ref q1, .ref q2, .ref q3, .int 0, .ref q4, .ref q5, .ref q6, .int 0, .int 0, .ref q7, .ref q8, .ref q9, .int 0, .int 0, .ref q10, .int 0, .int 0, .ref q11, .null, .null])), (q1, .inl (E.2.2.1, 4, .inl (upd (upd (upd (upd (fun _ => 0) (Int32.toNatClampNeg 0) (-9)) (Int32.toNatClampNeg 1) (-9)) (Int32.toNatClampNeg 2) (-9)) (Int32.toNatClampNeg 3) (-9)))), (q2, .inl (E.2.2.1, 4, .inl (fun _ => 0))), (q3, .inl (E.2.2.1, 240, .inl (fun _ => 0))), (q4, .inl (E.2.2.1, 5, .inl (fun _ => 0))), (q5, .inl (E.2.2.1, 5, .inl (fun _ => 0))), (q6, .inl (E.2.2.1, 5, .inl (fun _ => 0))), (q7, .inl (E.2.2.1, 15, .inl (fun _ => 0))), (q8, .inl (E.2.2.1, 5, .inl (fun _ => 0))), (q9, .inl (E.2.2.1, 5, .inl (fun _ => 0))), (q10, .inl (E.2.2.1, 20, .inl (fun _ => 0))), (q11, .inl (E.2.2.1, 8, .inl (fun _ => 0))), (q12, .inl (E.2.2.1, 8, .inl (fun _ => 0)))]) (kc' := 12) (ks' := 324) rfl ?_
  refine VI_put 0 (.array .int) dX5_init_111 fi_X5_43 ?_
  refine VI_w (ws' := [(h0, .inr (5, [.int 0, .int 0, .ref q1, .ref q2, .ref q3, .int 0, .ref q4, .ref q5, .ref q6, .int 0, .int 0, .ref q7, .ref q8, .ref q9, .int 0, .int 0, .ref q10, .int 0, .int 0, .ref q11, .ref q12, .null])), (q1, .inl (E.2.2.1, 4, .inl (upd (upd (upd (upd (fun _ => 0) (Int32.toNatClampNeg 0) (-9)) (Int32.toNatClampNeg 1) (-9)) (Int32.toNatClampNeg 2) (-9)) (Int32.toNatClampNeg 3) (-9)))), (q2, .inl (E.2.2.1, 4, .inl (fun _ => 0))), (q3, .inl (E.2.2.1, 240, .inl (fun _ => 0))), (q4, .inl (E.2.2.1, 5, .inl (fun _ => 0))), (q5, .inl (E.2.2.1, 5, .inl (fun _ => 0))), (q6, .inl (E.2.2.1, 5, .inl (fun _ => 0))), (q7, .inl (E.2.2.1, 15, .inl (fun _ => 0))), (q8, .inl (E.2.2.1, 5, .inl (fun _ => 0))), (q9, .inl (E.2.2.1, 5, .inl (fun _ => 0))), (q10, .inl (E.2.2.1, 20, .inl (fun _ => 0))), (q11, .inl (E.2.2.1, 8, .inl (fun _ => 0))), (q12, .inl (E.2.2.1, 8, .inl (fun _ => 0)))]) (kc' := 12) (ks' := 324) rfl ?_
  refine VI_aload_n 0 dX5_init_114 ?_
  refine VI_bipush 8 dX5_init_115 ?_
  refine VI_newa 8 dX5_init_117 (fun q13 => ?_)
  refine VI_w (ws' := [(h0, .inr (5, [.int 0, .int 0, .ref q1, .ref q2, .ref q3, .int 0, .ref q4, .ref q5, .ref q6, .int 0, .int 0, .ref q7, .ref q8, .ref q9, .int 0, .int 0, .ref q10, .int 0, .int 0, .ref q11, .ref q12, .null])), (q1, .inl (E.2.2.1, 4, .inl (upd (upd (upd (upd (fun _ => 0) (Int32.toNatClampNeg 0) (-9)) (Int32.toNatClampNeg 1) (-9)) (Int32.toNatClampNeg 2) (-9)) (Int32.toNatClampNeg 3) (-9)))), (q2, .inl (E.2.2.1, 4, .inl (fun _ => 0))), (q3, .inl (E.2.2.1, 240, .inl (fun _ => 0))), (q4, .inl (E.2.2.1, 5, .inl (fun _ => 0))), (q5, .inl (E.2.2.1, 5, .inl (fun _ => 0))), (q6, .inl (E.2.2.1, 5, .inl (fun _ => 0))), (q7, .inl (E.2.2.1, 15, .inl (fun _ => 0))), (q8, .inl (E.2.2.1, 5, .inl (fun _ => 0))), (q9, .inl (E.2.2.1, 5, .inl (fun _ => 0))), (q10, .inl (E.2.2.1, 20, .inl (fun _ => 0))), (q11, .inl (E.2.2.1, 8, .inl (fun _ => 0))), (q12, .inl (E.2.2.1, 8, .inl (fun _ => 0))), (q13, .inl (E.2.2.1, 8, .inl (fun _ => 0)))]) (kc' := 13) (ks' := 332) rfl ?_
  refine VI_put 0 (.array .int) dX5_init_119 fi_X5_46 ?_
  refine VI_w (ws' := [(h0, .inr (5, [.int 0, .int 0, .ref q1, .ref q2, .ref q3, .int 0, .ref q4, .ref q5, .ref q6, .int 0, .int 0, .ref q7, .ref q8, .ref q9, .int 0, .int 0, .ref q10, .int 0, .int 0, .ref q11, .ref q12, .ref q13])), (q1, .inl (E.2.2.1, 4, .inl (upd (upd (upd (upd (fun _ => 0) (Int32.toNatClampNeg 0) (-9)) (Int32.toNatClampNeg 1) (-9)) (Int32.toNatClampNeg 2) (-9)) (Int32.toNatClampNeg 3) (-9)))), (q2, .inl (E.2.2.1, 4, .inl (fun _ => 0))), (q3, .inl (E.2.2.1, 240, .inl (fun _ => 0))), (q4, .inl (E.2.2.1, 5, .inl (fun _ => 0))), (q5, .inl (E.2.2.1, 5, .inl (fun _ => 0))), (q6, .inl (E.2.2.1, 5, .inl (fun _ => 0))), (q7, .inl (E.2.2.1, 15, .inl (fun _ => 0))), (q8, .inl (E.2.2.1, 5, .inl (fun _ => 0))), (q9, .inl (E.2.2.1, 5, .inl (fun _ => 0))), (q10, .inl (E.2.2.1, 20, .inl (fun _ => 0))), (q11, .inl (E.2.2.1, 8, .inl (fun _ => 0))), (q12, .inl (E.2.2.1, 8, .inl (fun _ => 0))), (q13, .inl (E.2.2.1, 8, .inl (fun _ => 0)))]) (kc' := 13) (ks' := 332) rfl ?_
  exact VI_vret (fun j => ([h0, q1, q2, q3, q4, q5, q6, q7, q8, q9, q10, q11, q12, q13] : List Nat).getD j 0) [0, 1, 2, 3, 4, 5, 6, 7, 8, 9, 10, 11, 12, 13] dX5_init_122 rfl
