/-! ===== constructors: words, decode rows, shapes ===== -/
def R_law : String := "ChannelTracksLaw"
def shX0 : xSh := [.inr (0, [(some 1, true), (none, false)]), .inl 16]
def shX1 : xSh := [.inr (1, [(some 1, true)]), .inl 14]
def shX2 : xSh := [.inr (2, [(some 1, true), (none, false)]), .inl 14]
def shX3 : xSh := [.inr (3, [(some 1, true), (some 2, true), (some 3, true), (some 4, true), (some 5, true), (some 6, true), (some 7, true), (some 8, true), (none, false), (none, false)]), .inl 14, .inl 14, .inl 14, .inl 14, .inl 14, .inl 14, .inl 14, .inl 14]
def shX4 : xSh := [.inr (4, [(some 1, true), (none, false)]), .inl 20]
def shX5 : xSh := [.inr (5, [(some 1, true), (some 2, true), (none, false), (none, false)]), .inl 8, .inl 8]
theorem shX7_M : [.inr (7, [(none, false), (some 1, true), (none, false), (none, false), (none, false), (some 2, true), (some 3, true), (some 4, true), (some 5, true), (some 6, true), (some 7, true), (none, false), (some 8, true), (none, false), (none, false), (some 9, true), (none, false), (none, false), (some 10, true), (some 11, true), (none, true)]), .inl 16, .inl 14, .inl 14, .inl 14, .inl 14, .inl 14, .inl 14, .inl 14, .inl 20, .inl 15, .inl 14] = shM := rfl
def m_X0_init : xM := (RX0, cX0_init, 1, none)
theorem dX0_init_0 : decode cX0_init 0 = .ok (.aload_n 0, 1) := by decide +kernel
theorem dX0_init_1 : decode cX0_init 1 = .ok (.invokespecial 3, 3) := by decide +kernel
theorem dX0_init_4 : decode cX0_init 4 = .ok (.aload_n 0, 1) := by decide +kernel
theorem dX0_init_5 : decode cX0_init 5 = .ok (.bipush 16, 2) := by decide +kernel
theorem dX0_init_7 : decode cX0_init 7 = .ok (.newarray .int, 2) := by decide +kernel
theorem dX0_init_9 : decode cX0_init 9 = .ok (.putfield 9, 3) := by decide +kernel
theorem dX0_init_12 : decode cX0_init 12 = .ok (.return_, 1) := by decide +kernel
theorem kl_X0 : k_L yX0_init m_X0_init := ⟨⟨(xT_of 131 (by decide +kernel) (by decide +kernel)), (xT_of 92 (by decide +kernel) (by decide +kernel)), (xT_of 132 (by decide +kernel) (by decide +kernel))⟩, rfl, by decide +kernel, by decide +kernel, by decide +kernel⟩
theorem ko_X0 : Cond.methodLink RX0 3 Lib.objectInit ∈ xT := (xT_of 133 (by decide +kernel) (by decide +kernel))
theorem kk_X0 : k_C RX6 16 0 2 [.null, .int 0] := ⟨_, _, tyX0, rfl, inw0, tyX0_ok, (fun j hj => by rcases (show j = 0 ∨ j = 1 by omega) with rfl | rfl <;> rfl), (xT_of 128 (by decide +kernel) (by decide +kernel)), (xT_of 129 (by decide +kernel) (by decide +kernel)), (xT_of 92 (by decide +kernel) (by decide +kernel))⟩
theorem kf_X0_9 : x_FF RX0 9 0 0 (.array .int) := ⟨_, _, _, tyX0, rfl, inw0, by decide, (xT_of 134 (by decide +kernel) (by decide +kernel)), tyX0_ok, nmX0, rfl, by decide +kernel, rfl⟩
def m_X1_init : xM := (RX1, cX1_init, 1, none)
theorem dX1_init_0 : decode cX1_init 0 = .ok (.aload_n 0, 1) := by decide +kernel
theorem dX1_init_1 : decode cX1_init 1 = .ok (.invokespecial 3, 3) := by decide +kernel
theorem dX1_init_4 : decode cX1_init 4 = .ok (.aload_n 0, 1) := by decide +kernel
theorem dX1_init_5 : decode cX1_init 5 = .ok (.bipush 14, 2) := by decide +kernel
theorem dX1_init_7 : decode cX1_init 7 = .ok (.newarray .int, 2) := by decide +kernel
theorem dX1_init_9 : decode cX1_init 9 = .ok (.putfield 9, 3) := by decide +kernel
theorem dX1_init_12 : decode cX1_init 12 = .ok (.aload_n 0, 1) := by decide +kernel
theorem dX1_init_13 : decode cX1_init 13 = .ok (.invokevirtual 15, 3) := by decide +kernel
theorem dX1_init_16 : decode cX1_init 16 = .ok (.return_, 1) := by decide +kernel
theorem kl_X1 : k_L yX1_init m_X1_init := ⟨⟨(xT_of 237 (by decide +kernel) (by decide +kernel)), (xT_of 96 (by decide +kernel) (by decide +kernel)), (xT_of 238 (by decide +kernel) (by decide +kernel))⟩, rfl, by decide +kernel, by decide +kernel, by decide +kernel⟩
theorem ko_X1 : Cond.methodLink RX1 3 Lib.objectInit ∈ xT := (xT_of 239 (by decide +kernel) (by decide +kernel))
theorem kk_X1 : k_C RX6 47 1 1 [.null] := ⟨_, _, tyX1, rfl, inw1, tyX1_ok, (fun j hj => by rcases (show j = 0 by omega) with rfl <;> rfl), (xT_of 234 (by decide +kernel) (by decide +kernel)), (xT_of 235 (by decide +kernel) (by decide +kernel)), (xT_of 96 (by decide +kernel) (by decide +kernel))⟩
theorem kf_X1_9 : x_FF RX1 9 1 0 (.array .int) := ⟨_, _, _, tyX1, rfl, inw1, by decide, (xT_of 244 (by decide +kernel) (by decide +kernel)), tyX1_ok, nmX1, rfl, by decide +kernel, rfl⟩
def m_X2_init : xM := (RX2, cX2_init, 1, none)
theorem dX2_init_0 : decode cX2_init 0 = .ok (.aload_n 0, 1) := by decide +kernel
theorem dX2_init_1 : decode cX2_init 1 = .ok (.invokespecial 3, 3) := by decide +kernel
theorem dX2_init_4 : decode cX2_init 4 = .ok (.aload_n 0, 1) := by decide +kernel
theorem dX2_init_5 : decode cX2_init 5 = .ok (.bipush 14, 2) := by decide +kernel
theorem dX2_init_7 : decode cX2_init 7 = .ok (.newarray .int, 2) := by decide +kernel
theorem dX2_init_9 : decode cX2_init 9 = .ok (.putfield 9, 3) := by decide +kernel
theorem dX2_init_12 : decode cX2_init 12 = .ok (.return_, 1) := by decide +kernel
theorem kl_X2 : k_L yX2_init m_X2_init := ⟨⟨(xT_of 200 (by decide +kernel) (by decide +kernel)), (xT_of 94 (by decide +kernel) (by decide +kernel)), (xT_of 201 (by decide +kernel) (by decide +kernel))⟩, rfl, by decide +kernel, by decide +kernel, by decide +kernel⟩
theorem ko_X2 : Cond.methodLink RX2 3 Lib.objectInit ∈ xT := (xT_of 202 (by decide +kernel) (by decide +kernel))
theorem kk_X2 : k_C RX6 33 2 2 [.null, .int 0] := ⟨_, _, tyX2, rfl, inw2, tyX2_ok, (fun j hj => by rcases (show j = 0 ∨ j = 1 by omega) with rfl | rfl <;> rfl), (xT_of 197 (by decide +kernel) (by decide +kernel)), (xT_of 198 (by decide +kernel) (by decide +kernel)), (xT_of 94 (by decide +kernel) (by decide +kernel))⟩
theorem kf_X2_9 : x_FF RX2 9 2 0 (.array .int) := ⟨_, _, _, tyX2, rfl, inw2, by decide, (xT_of 203 (by decide +kernel) (by decide +kernel)), tyX2_ok, nmX2, rfl, by decide +kernel, rfl⟩
def m_X3_init : xM := (RX3, cX3_init, 1, none)
theorem dX3_init_0 : decode cX3_init 0 = .ok (.aload_n 0, 1) := by decide +kernel
theorem dX3_init_1 : decode cX3_init 1 = .ok (.invokespecial 3, 3) := by decide +kernel
theorem dX3_init_4 : decode cX3_init 4 = .ok (.aload_n 0, 1) := by decide +kernel
theorem dX3_init_5 : decode cX3_init 5 = .ok (.bipush 14, 2) := by decide +kernel
theorem dX3_init_7 : decode cX3_init 7 = .ok (.newarray .int, 2) := by decide +kernel
theorem dX3_init_9 : decode cX3_init 9 = .ok (.putfield 9, 3) := by decide +kernel
theorem dX3_init_12 : decode cX3_init 12 = .ok (.aload_n 0, 1) := by decide +kernel
theorem dX3_init_13 : decode cX3_init 13 = .ok (.bipush 14, 2) := by decide +kernel
theorem dX3_init_15 : decode cX3_init 15 = .ok (.newarray .int, 2) := by decide +kernel
theorem dX3_init_17 : decode cX3_init 17 = .ok (.putfield 15, 3) := by decide +kernel
theorem dX3_init_20 : decode cX3_init 20 = .ok (.aload_n 0, 1) := by decide +kernel
theorem dX3_init_21 : decode cX3_init 21 = .ok (.bipush 14, 2) := by decide +kernel
theorem dX3_init_23 : decode cX3_init 23 = .ok (.newarray .int, 2) := by decide +kernel
theorem dX3_init_25 : decode cX3_init 25 = .ok (.putfield 18, 3) := by decide +kernel
theorem dX3_init_28 : decode cX3_init 28 = .ok (.aload_n 0, 1) := by decide +kernel
theorem dX3_init_29 : decode cX3_init 29 = .ok (.bipush 14, 2) := by decide +kernel
theorem dX3_init_31 : decode cX3_init 31 = .ok (.newarray .int, 2) := by decide +kernel
theorem dX3_init_33 : decode cX3_init 33 = .ok (.putfield 21, 3) := by decide +kernel
theorem dX3_init_36 : decode cX3_init 36 = .ok (.aload_n 0, 1) := by decide +kernel
theorem dX3_init_37 : decode cX3_init 37 = .ok (.bipush 14, 2) := by decide +kernel
theorem dX3_init_39 : decode cX3_init 39 = .ok (.newarray .int, 2) := by decide +kernel
theorem dX3_init_41 : decode cX3_init 41 = .ok (.putfield 24, 3) := by decide +kernel
theorem dX3_init_44 : decode cX3_init 44 = .ok (.aload_n 0, 1) := by decide +kernel
theorem dX3_init_45 : decode cX3_init 45 = .ok (.bipush 14, 2) := by decide +kernel
theorem dX3_init_47 : decode cX3_init 47 = .ok (.newarray .int, 2) := by decide +kernel
theorem dX3_init_49 : decode cX3_init 49 = .ok (.putfield 27, 3) := by decide +kernel
theorem dX3_init_52 : decode cX3_init 52 = .ok (.aload_n 0, 1) := by decide +kernel
theorem dX3_init_53 : decode cX3_init 53 = .ok (.bipush 14, 2) := by decide +kernel
theorem dX3_init_55 : decode cX3_init 55 = .ok (.newarray .int, 2) := by decide +kernel
theorem dX3_init_57 : decode cX3_init 57 = .ok (.putfield 30, 3) := by decide +kernel
theorem dX3_init_60 : decode cX3_init 60 = .ok (.aload_n 0, 1) := by decide +kernel
theorem dX3_init_61 : decode cX3_init 61 = .ok (.bipush 14, 2) := by decide +kernel
theorem dX3_init_63 : decode cX3_init 63 = .ok (.newarray .int, 2) := by decide +kernel
theorem dX3_init_65 : decode cX3_init 65 = .ok (.putfield 33, 3) := by decide +kernel
theorem dX3_init_68 : decode cX3_init 68 = .ok (.return_, 1) := by decide +kernel
theorem kl_X3 : k_L yX3_init m_X3_init := ⟨⟨(xT_of 147 (by decide +kernel) (by decide +kernel)), (xT_of 93 (by decide +kernel) (by decide +kernel)), (xT_of 148 (by decide +kernel) (by decide +kernel))⟩, rfl, by decide +kernel, by decide +kernel, by decide +kernel⟩
theorem ko_X3 : Cond.methodLink RX3 3 Lib.objectInit ∈ xT := (xT_of 149 (by decide +kernel) (by decide +kernel))
theorem kk_X3 : k_C RX6 23 3 10 [.null, .null, .null, .null, .null, .null, .null, .null, .int 0, .int 0] := ⟨_, _, tyX3, rfl, inw3, tyX3_ok, (fun j hj => by rcases (show j = 0 ∨ j = 1 ∨ j = 2 ∨ j = 3 ∨ j = 4 ∨ j = 5 ∨ j = 6 ∨ j = 7 ∨ j = 8 ∨ j = 9 by omega) with rfl | rfl | rfl | rfl | rfl | rfl | rfl | rfl | rfl | rfl <;> rfl), (xT_of 144 (by decide +kernel) (by decide +kernel)), (xT_of 145 (by decide +kernel) (by decide +kernel)), (xT_of 93 (by decide +kernel) (by decide +kernel))⟩
theorem kf_X3_9 : x_FF RX3 9 3 0 (.array .int) := ⟨_, _, _, tyX3, rfl, inw3, by decide, (xT_of 150 (by decide +kernel) (by decide +kernel)), tyX3_ok, nmX3, rfl, by decide +kernel, rfl⟩
theorem kf_X3_15 : x_FF RX3 15 3 1 (.array .int) := ⟨_, _, _, tyX3, rfl, inw3, by decide, (xT_of 154 (by decide +kernel) (by decide +kernel)), tyX3_ok, nmX3, rfl, by decide +kernel, rfl⟩
theorem kf_X3_18 : x_FF RX3 18 3 2 (.array .int) := ⟨_, _, _, tyX3, rfl, inw3, by decide, (xT_of 157 (by decide +kernel) (by decide +kernel)), tyX3_ok, nmX3, rfl, by decide +kernel, rfl⟩
theorem kf_X3_21 : x_FF RX3 21 3 3 (.array .int) := ⟨_, _, _, tyX3, rfl, inw3, by decide, (xT_of 159 (by decide +kernel) (by decide +kernel)), tyX3_ok, nmX3, rfl, by decide +kernel, rfl⟩
theorem kf_X3_24 : x_FF RX3 24 3 4 (.array .int) := ⟨_, _, _, tyX3, rfl, inw3, by decide, (xT_of 161 (by decide +kernel) (by decide +kernel)), tyX3_ok, nmX3, rfl, by decide +kernel, rfl⟩
theorem kf_X3_27 : x_FF RX3 27 3 5 (.array .int) := ⟨_, _, _, tyX3, rfl, inw3, by decide, (xT_of 163 (by decide +kernel) (by decide +kernel)), tyX3_ok, nmX3, rfl, by decide +kernel, rfl⟩
theorem kf_X3_30 : x_FF RX3 30 3 6 (.array .int) := ⟨_, _, _, tyX3, rfl, inw3, by decide, (xT_of 166 (by decide +kernel) (by decide +kernel)), tyX3_ok, nmX3, rfl, by decide +kernel, rfl⟩
theorem kf_X3_33 : x_FF RX3 33 3 7 (.array .int) := ⟨_, _, _, tyX3, rfl, inw3, by decide, (xT_of 168 (by decide +kernel) (by decide +kernel)), tyX3_ok, nmX3, rfl, by decide +kernel, rfl⟩
def m_X4_init : xM := (RX4, cX4_init, 1, none)
theorem dX4_init_0 : decode cX4_init 0 = .ok (.aload_n 0, 1) := by decide +kernel
theorem dX4_init_1 : decode cX4_init 1 = .ok (.invokespecial 3, 3) := by decide +kernel
theorem dX4_init_4 : decode cX4_init 4 = .ok (.aload_n 0, 1) := by decide +kernel
theorem dX4_init_5 : decode cX4_init 5 = .ok (.bipush 20, 2) := by decide +kernel
theorem dX4_init_7 : decode cX4_init 7 = .ok (.newarray .int, 2) := by decide +kernel
theorem dX4_init_9 : decode cX4_init 9 = .ok (.putfield 9, 3) := by decide +kernel
theorem dX4_init_12 : decode cX4_init 12 = .ok (.return_, 1) := by decide +kernel
theorem kl_X4 : k_L yX4_init m_X4_init := ⟨⟨(xT_of 115 (by decide +kernel) (by decide +kernel)), (xT_of 91 (by decide +kernel) (by decide +kernel)), (xT_of 116 (by decide +kernel) (by decide +kernel))⟩, rfl, by decide +kernel, by decide +kernel, by decide +kernel⟩
theorem ko_X4 : Cond.methodLink RX4 3 Lib.objectInit ∈ xT := (xT_of 117 (by decide +kernel) (by decide +kernel))
theorem kk_X4 : k_C RX6 7 4 2 [.null, .int 0] := ⟨_, _, tyX4, rfl, inw4, tyX4_ok, (fun j hj => by rcases (show j = 0 ∨ j = 1 by omega) with rfl | rfl <;> rfl), (xT_of 112 (by decide +kernel) (by decide +kernel)), (xT_of 113 (by decide +kernel) (by decide +kernel)), (xT_of 91 (by decide +kernel) (by decide +kernel))⟩
theorem kf_X4_9 : x_FF RX4 9 4 0 (.array .int) := ⟨_, _, _, tyX4, rfl, inw4, by decide, (xT_of 118 (by decide +kernel) (by decide +kernel)), tyX4_ok, nmX4, rfl, by decide +kernel, rfl⟩
def m_X5_init : xM := (RX5, cX5_init, 1, none)
theorem dX5_init_0 : decode cX5_init 0 = .ok (.aload_n 0, 1) := by decide +kernel
theorem dX5_init_1 : decode cX5_init 1 = .ok (.invokespecial 3, 3) := by decide +kernel
theorem dX5_init_4 : decode cX5_init 4 = .ok (.aload_n 0, 1) := by decide +kernel
theorem dX5_init_5 : decode cX5_init 5 = .ok (.bipush 8, 2) := by decide +kernel
theorem dX5_init_7 : decode cX5_init 7 = .ok (.newarray .int, 2) := by decide +kernel
theorem dX5_init_9 : decode cX5_init 9 = .ok (.putfield 9, 3) := by decide +kernel
theorem dX5_init_12 : decode cX5_init 12 = .ok (.aload_n 0, 1) := by decide +kernel
theorem dX5_init_13 : decode cX5_init 13 = .ok (.bipush 8, 2) := by decide +kernel
theorem dX5_init_15 : decode cX5_init 15 = .ok (.newarray .int, 2) := by decide +kernel
theorem dX5_init_17 : decode cX5_init 17 = .ok (.putfield 15, 3) := by decide +kernel
theorem dX5_init_20 : decode cX5_init 20 = .ok (.return_, 1) := by decide +kernel
theorem kl_X5 : k_L yX5_init m_X5_init := ⟨⟨(xT_of 215 (by decide +kernel) (by decide +kernel)), (xT_of 95 (by decide +kernel) (by decide +kernel)), (xT_of 216 (by decide +kernel) (by decide +kernel))⟩, rfl, by decide +kernel, by decide +kernel, by decide +kernel⟩
theorem ko_X5 : Cond.methodLink RX5 3 Lib.objectInit ∈ xT := (xT_of 217 (by decide +kernel) (by decide +kernel))
theorem kk_X5 : k_C RX6 40 5 4 [.null, .null, .int 0, .int 0] := ⟨_, _, tyX5, rfl, inw5, tyX5_ok, (fun j hj => by rcases (show j = 0 ∨ j = 1 ∨ j = 2 ∨ j = 3 by omega) with rfl | rfl | rfl | rfl <;> rfl), (xT_of 212 (by decide +kernel) (by decide +kernel)), (xT_of 213 (by decide +kernel) (by decide +kernel)), (xT_of 95 (by decide +kernel) (by decide +kernel))⟩
theorem kf_X5_9 : x_FF RX5 9 5 0 (.array .int) := ⟨_, _, _, tyX5, rfl, inw5, by decide, (xT_of 218 (by decide +kernel) (by decide +kernel)), tyX5_ok, nmX5, rfl, by decide +kernel, rfl⟩
theorem kf_X5_15 : x_FF RX5 15 5 1 (.array .int) := ⟨_, _, _, tyX5, rfl, inw5, by decide, (xT_of 219 (by decide +kernel) (by decide +kernel)), tyX5_ok, nmX5, rfl, by decide +kernel, rfl⟩
def m_X6_init : xM := (RX6, cX6_init, 1, none)
theorem dX6_init_0 : decode cX6_init 0 = .ok (.aload_n 0, 1) := by decide +kernel
theorem dX6_init_1 : decode cX6_init 1 = .ok (.invokespecial 1, 3) := by decide +kernel
theorem dX6_init_4 : decode cX6_init 4 = .ok (.aload_n 0, 1) := by decide +kernel
theorem dX6_init_5 : decode cX6_init 5 = .ok (.new 7, 3) := by decide +kernel
theorem dX6_init_8 : decode cX6_init 8 = .ok (.dup, 1) := by decide +kernel
theorem dX6_init_9 : decode cX6_init 9 = .ok (.invokespecial 9, 3) := by decide +kernel
theorem dX6_init_12 : decode cX6_init 12 = .ok (.putfield 10, 3) := by decide +kernel
theorem dX6_init_15 : decode cX6_init 15 = .ok (.aload_n 0, 1) := by decide +kernel
theorem dX6_init_16 : decode cX6_init 16 = .ok (.new 16, 3) := by decide +kernel
theorem dX6_init_19 : decode cX6_init 19 = .ok (.dup, 1) := by decide +kernel
theorem dX6_init_20 : decode cX6_init 20 = .ok (.invokespecial 18, 3) := by decide +kernel
theorem dX6_init_23 : decode cX6_init 23 = .ok (.putfield 19, 3) := by decide +kernel
theorem dX6_init_26 : decode cX6_init 26 = .ok (.aload_n 0, 1) := by decide +kernel
theorem dX6_init_27 : decode cX6_init 27 = .ok (.new 23, 3) := by decide +kernel
theorem dX6_init_30 : decode cX6_init 30 = .ok (.dup, 1) := by decide +kernel
theorem dX6_init_31 : decode cX6_init 31 = .ok (.invokespecial 25, 3) := by decide +kernel
theorem dX6_init_34 : decode cX6_init 34 = .ok (.putfield 26, 3) := by decide +kernel
theorem dX6_init_37 : decode cX6_init 37 = .ok (.aload_n 0, 1) := by decide +kernel
theorem dX6_init_38 : decode cX6_init 38 = .ok (.new 23, 3) := by decide +kernel
theorem dX6_init_41 : decode cX6_init 41 = .ok (.dup, 1) := by decide +kernel
theorem dX6_init_42 : decode cX6_init 42 = .ok (.invokespecial 25, 3) := by decide +kernel
theorem dX6_init_45 : decode cX6_init 45 = .ok (.putfield 30, 3) := by decide +kernel
theorem dX6_init_48 : decode cX6_init 48 = .ok (.aload_n 0, 1) := by decide +kernel
theorem dX6_init_49 : decode cX6_init 49 = .ok (.new 33, 3) := by decide +kernel
theorem dX6_init_52 : decode cX6_init 52 = .ok (.dup, 1) := by decide +kernel
theorem dX6_init_53 : decode cX6_init 53 = .ok (.invokespecial 35, 3) := by decide +kernel
theorem dX6_init_56 : decode cX6_init 56 = .ok (.putfield 36, 3) := by decide +kernel
theorem dX6_init_59 : decode cX6_init 59 = .ok (.aload_n 0, 1) := by decide +kernel
theorem dX6_init_60 : decode cX6_init 60 = .ok (.new 40, 3) := by decide +kernel
theorem dX6_init_63 : decode cX6_init 63 = .ok (.dup, 1) := by decide +kernel
theorem dX6_init_64 : decode cX6_init 64 = .ok (.invokespecial 42, 3) := by decide +kernel
theorem dX6_init_67 : decode cX6_init 67 = .ok (.putfield 43, 3) := by decide +kernel
theorem dX6_init_70 : decode cX6_init 70 = .ok (.aload_n 0, 1) := by decide +kernel
theorem dX6_init_71 : decode cX6_init 71 = .ok (.new 47, 3) := by decide +kernel
theorem dX6_init_74 : decode cX6_init 74 = .ok (.dup, 1) := by decide +kernel
theorem dX6_init_75 : decode cX6_init 75 = .ok (.invokespecial 49, 3) := by decide +kernel
theorem dX6_init_78 : decode cX6_init 78 = .ok (.putfield 50, 3) := by decide +kernel
theorem dX6_init_81 : decode cX6_init 81 = .ok (.return_, 1) := by decide +kernel
theorem kl_X6 : k_L yX6_init m_X6_init := ⟨⟨(xT_of 107 (by decide +kernel) (by decide +kernel)), (xT_of 90 (by decide +kernel) (by decide +kernel)), (xT_of 108 (by decide +kernel) (by decide +kernel))⟩, rfl, by decide +kernel, by decide +kernel, by decide +kernel⟩
theorem ko_X6 : Cond.methodLink RX6 1 Lib.objectInit ∈ xT := (xT_of 109 (by decide +kernel) (by decide +kernel))
theorem kk_X6 : k_C R_law 7 6 10 [.null, .null, .null, .null, .null, .null, .null, .int 0, .int 0, .int 0] := ⟨_, _, tyX6, rfl, inw6, tyX6_ok, (fun j hj => by rcases (show j = 0 ∨ j = 1 ∨ j = 2 ∨ j = 3 ∨ j = 4 ∨ j = 5 ∨ j = 6 ∨ j = 7 ∨ j = 8 ∨ j = 9 by omega) with rfl | rfl | rfl | rfl | rfl | rfl | rfl | rfl | rfl | rfl <;> rfl), (xT_of 104 (by decide +kernel) (by decide +kernel)), (xT_of 105 (by decide +kernel) (by decide +kernel)), (xT_of 90 (by decide +kernel) (by decide +kernel))⟩
theorem kf_X6_10 : x_FF RX6 10 6 0 (.object "ChannelTracks$Text") := ⟨_, _, _, tyX6, rfl, inw6, by decide, (xT_of 249 (by decide +kernel) (by decide +kernel)), tyX6_ok, nmX6, rfl, by decide +kernel, rfl⟩
theorem kf_X6_19 : x_FF RX6 19 6 1 (.object "ChannelTracks$Pins") := ⟨_, _, _, tyX6, rfl, inw6, by decide, (xT_of 250 (by decide +kernel) (by decide +kernel)), tyX6_ok, nmX6, rfl, by decide +kernel, rfl⟩
theorem kf_X6_26 : x_FF RX6 26 6 2 (.object "ChannelTracks$Segments") := ⟨_, _, _, tyX6, rfl, inw6, by decide, (xT_of 251 (by decide +kernel) (by decide +kernel)), tyX6_ok, nmX6, rfl, by decide +kernel, rfl⟩
theorem kf_X6_30 : x_FF RX6 30 6 3 (.object "ChannelTracks$Segments") := ⟨_, _, _, tyX6, rfl, inw6, by decide, (xT_of 252 (by decide +kernel) (by decide +kernel)), tyX6_ok, nmX6, rfl, by decide +kernel, rfl⟩
theorem kf_X6_36 : x_FF RX6 36 6 4 (.object "ChannelTracks$Ring") := ⟨_, _, _, tyX6, rfl, inw6, by decide, (xT_of 253 (by decide +kernel) (by decide +kernel)), tyX6_ok, nmX6, rfl, by decide +kernel, rfl⟩
theorem kf_X6_43 : x_FF RX6 43 6 5 (.object "ChannelTracks$Zones") := ⟨_, _, _, tyX6, rfl, inw6, by decide, (xT_of 254 (by decide +kernel) (by decide +kernel)), tyX6_ok, nmX6, rfl, by decide +kernel, rfl⟩
theorem kf_X6_50 : x_FF RX6 50 6 6 (.object "ChannelTracks$Plan") := ⟨_, _, _, tyX6, rfl, inw6, by decide, (xT_of 255 (by decide +kernel) (by decide +kernel)), tyX6_ok, nmX6, rfl, by decide +kernel, rfl⟩
def m_X7_init : xM := (RX7, cX7_init, 1, none)
theorem dX7_init_0 : decode cX7_init 0 = .ok (.aload_n 0, 1) := by decide +kernel
theorem dX7_init_1 : decode cX7_init 1 = .ok (.invokespecial 1, 3) := by decide +kernel
theorem dX7_init_4 : decode cX7_init 4 = .ok (.aload_n 0, 1) := by decide +kernel
theorem dX7_init_5 : decode cX7_init 5 = .ok (.bipush 16, 2) := by decide +kernel
theorem dX7_init_7 : decode cX7_init 7 = .ok (.newarray .int, 2) := by decide +kernel
theorem dX7_init_9 : decode cX7_init 9 = .ok (.putfield 7, 3) := by decide +kernel
theorem dX7_init_12 : decode cX7_init 12 = .ok (.aload_n 0, 1) := by decide +kernel
theorem dX7_init_13 : decode cX7_init 13 = .ok (.bipush 14, 2) := by decide +kernel
theorem dX7_init_15 : decode cX7_init 15 = .ok (.newarray .int, 2) := by decide +kernel
theorem dX7_init_17 : decode cX7_init 17 = .ok (.putfield 13, 3) := by decide +kernel
theorem dX7_init_20 : decode cX7_init 20 = .ok (.aload_n 0, 1) := by decide +kernel
theorem dX7_init_21 : decode cX7_init 21 = .ok (.bipush 14, 2) := by decide +kernel
theorem dX7_init_23 : decode cX7_init 23 = .ok (.newarray .int, 2) := by decide +kernel
theorem dX7_init_25 : decode cX7_init 25 = .ok (.putfield 16, 3) := by decide +kernel
theorem dX7_init_28 : decode cX7_init 28 = .ok (.aload_n 0, 1) := by decide +kernel
theorem dX7_init_29 : decode cX7_init 29 = .ok (.bipush 14, 2) := by decide +kernel
theorem dX7_init_31 : decode cX7_init 31 = .ok (.newarray .int, 2) := by decide +kernel
theorem dX7_init_33 : decode cX7_init 33 = .ok (.putfield 19, 3) := by decide +kernel
theorem dX7_init_36 : decode cX7_init 36 = .ok (.aload_n 0, 1) := by decide +kernel
theorem dX7_init_37 : decode cX7_init 37 = .ok (.bipush 14, 2) := by decide +kernel
theorem dX7_init_39 : decode cX7_init 39 = .ok (.newarray .int, 2) := by decide +kernel
theorem dX7_init_41 : decode cX7_init 41 = .ok (.putfield 22, 3) := by decide +kernel
theorem dX7_init_44 : decode cX7_init 44 = .ok (.aload_n 0, 1) := by decide +kernel
theorem dX7_init_45 : decode cX7_init 45 = .ok (.bipush 14, 2) := by decide +kernel
theorem dX7_init_47 : decode cX7_init 47 = .ok (.newarray .int, 2) := by decide +kernel
theorem dX7_init_49 : decode cX7_init 49 = .ok (.putfield 25, 3) := by decide +kernel
theorem dX7_init_52 : decode cX7_init 52 = .ok (.aload_n 0, 1) := by decide +kernel
theorem dX7_init_53 : decode cX7_init 53 = .ok (.bipush 14, 2) := by decide +kernel
theorem dX7_init_55 : decode cX7_init 55 = .ok (.newarray .int, 2) := by decide +kernel
theorem dX7_init_57 : decode cX7_init 57 = .ok (.putfield 28, 3) := by decide +kernel
theorem dX7_init_60 : decode cX7_init 60 = .ok (.aload_n 0, 1) := by decide +kernel
theorem dX7_init_61 : decode cX7_init 61 = .ok (.bipush 14, 2) := by decide +kernel
theorem dX7_init_63 : decode cX7_init 63 = .ok (.newarray .int, 2) := by decide +kernel
theorem dX7_init_65 : decode cX7_init 65 = .ok (.putfield 31, 3) := by decide +kernel
theorem dX7_init_68 : decode cX7_init 68 = .ok (.aload_n 0, 1) := by decide +kernel
theorem dX7_init_69 : decode cX7_init 69 = .ok (.bipush 20, 2) := by decide +kernel
theorem dX7_init_71 : decode cX7_init 71 = .ok (.newarray .int, 2) := by decide +kernel
theorem dX7_init_73 : decode cX7_init 73 = .ok (.putfield 34, 3) := by decide +kernel
theorem dX7_init_76 : decode cX7_init 76 = .ok (.aload_n 0, 1) := by decide +kernel
theorem dX7_init_77 : decode cX7_init 77 = .ok (.bipush 15, 2) := by decide +kernel
theorem dX7_init_79 : decode cX7_init 79 = .ok (.newarray .int, 2) := by decide +kernel
theorem dX7_init_81 : decode cX7_init 81 = .ok (.putfield 37, 3) := by decide +kernel
theorem dX7_init_84 : decode cX7_init 84 = .ok (.aload_n 0, 1) := by decide +kernel
theorem dX7_init_85 : decode cX7_init 85 = .ok (.bipush 14, 2) := by decide +kernel
theorem dX7_init_87 : decode cX7_init 87 = .ok (.newarray .int, 2) := by decide +kernel
theorem dX7_init_89 : decode cX7_init 89 = .ok (.putfield 40, 3) := by decide +kernel
theorem dX7_init_92 : decode cX7_init 92 = .ok (.return_, 1) := by decide +kernel
theorem kl_X7 : k_L yX7_init m_X7_init := ⟨⟨(xT_of 761 (by decide +kernel) (by decide +kernel)), (xT_of 97 (by decide +kernel) (by decide +kernel)), (xT_of 762 (by decide +kernel) (by decide +kernel))⟩, rfl, by decide +kernel, by decide +kernel, by decide +kernel⟩
theorem ko_X7 : Cond.methodLink RX7 1 Lib.objectInit ∈ xT := (xT_of 763 (by decide +kernel) (by decide +kernel))
theorem kk_X7 : k_C R_law 10 7 21 [.int 0, .null, .int 0, .int 0, .int 0, .null, .null, .null, .null, .null, .null, .int 0, .null, .int 0, .int 0, .null, .int 0, .int 0, .null, .null, .long 0] := ⟨_, _, tyX7, rfl, inw7, tyX7_ok, (fun j hj => by rcases (show j = 0 ∨ j = 1 ∨ j = 2 ∨ j = 3 ∨ j = 4 ∨ j = 5 ∨ j = 6 ∨ j = 7 ∨ j = 8 ∨ j = 9 ∨ j = 10 ∨ j = 11 ∨ j = 12 ∨ j = 13 ∨ j = 14 ∨ j = 15 ∨ j = 16 ∨ j = 17 ∨ j = 18 ∨ j = 19 ∨ j = 20 by omega) with rfl | rfl | rfl | rfl | rfl | rfl | rfl | rfl | rfl | rfl | rfl | rfl | rfl | rfl | rfl | rfl | rfl | rfl | rfl | rfl | rfl <;> rfl), (xT_of 758 (by decide +kernel) (by decide +kernel)), (xT_of 759 (by decide +kernel) (by decide +kernel)), (xT_of 97 (by decide +kernel) (by decide +kernel))⟩
theorem kf_X7_7 : x_FF RX7 7 7 1 (.array .int) := ⟨_, _, _, tyX7, rfl, inw7, by decide, (xT_of 765 (by decide +kernel) (by decide +kernel)), tyX7_ok, nmX7, rfl, by decide +kernel, rfl⟩
theorem kf_X7_13 : x_FF RX7 13 7 5 (.array .int) := ⟨_, _, _, tyX7, rfl, inw7, by decide, (xT_of 769 (by decide +kernel) (by decide +kernel)), tyX7_ok, nmX7, rfl, by decide +kernel, rfl⟩
theorem kf_X7_16 : x_FF RX7 16 7 6 (.array .int) := ⟨_, _, _, tyX7, rfl, inw7, by decide, (xT_of 770 (by decide +kernel) (by decide +kernel)), tyX7_ok, nmX7, rfl, by decide +kernel, rfl⟩
theorem kf_X7_19 : x_FF RX7 19 7 7 (.array .int) := ⟨_, _, _, tyX7, rfl, inw7, by decide, (xT_of 771 (by decide +kernel) (by decide +kernel)), tyX7_ok, nmX7, rfl, by decide +kernel, rfl⟩
theorem kf_X7_22 : x_FF RX7 22 7 8 (.array .int) := ⟨_, _, _, tyX7, rfl, inw7, by decide, (xT_of 772 (by decide +kernel) (by decide +kernel)), tyX7_ok, nmX7, rfl, by decide +kernel, rfl⟩
theorem kf_X7_25 : x_FF RX7 25 7 9 (.array .int) := ⟨_, _, _, tyX7, rfl, inw7, by decide, (xT_of 773 (by decide +kernel) (by decide +kernel)), tyX7_ok, nmX7, rfl, by decide +kernel, rfl⟩
theorem kf_X7_28 : x_FF RX7 28 7 10 (.array .int) := ⟨_, _, _, tyX7, rfl, inw7, by decide, (xT_of 774 (by decide +kernel) (by decide +kernel)), tyX7_ok, nmX7, rfl, by decide +kernel, rfl⟩
theorem kf_X7_31 : x_FF RX7 31 7 12 (.array .int) := ⟨_, _, _, tyX7, rfl, inw7, by decide, (xT_of 776 (by decide +kernel) (by decide +kernel)), tyX7_ok, nmX7, rfl, by decide +kernel, rfl⟩
theorem kf_X7_34 : x_FF RX7 34 7 15 (.array .int) := ⟨_, _, _, tyX7, rfl, inw7, by decide, (xT_of 779 (by decide +kernel) (by decide +kernel)), tyX7_ok, nmX7, rfl, by decide +kernel, rfl⟩
theorem kf_X7_37 : x_FF RX7 37 7 18 (.array .int) := ⟨_, _, _, tyX7, rfl, inw7, by decide, (xT_of 782 (by decide +kernel) (by decide +kernel)), tyX7_ok, nmX7, rfl, by decide +kernel, rfl⟩
theorem kf_X7_40 : x_FF RX7 40 7 19 (.array .int) := ⟨_, _, _, tyX7, rfl, inw7, by decide, (xT_of 783 (by decide +kernel) (by decide +kernel)), tyX7_ok, nmX7, rfl, by decide +kernel, rfl⟩
theorem ko_1 : Cond.instanceMethod Lib.objectInit ∈ xT := (xT_of 110 (by decide +kernel) (by decide +kernel))
theorem ko_2 : Cond.code Lib.objectInit ⟨#[0xb1]⟩ 1 none ∈ xT := (xT_of 111 (by decide +kernel) (by decide +kernel))
theorem ko_3 : Cond.arrayClass .int ∈ xT := (xT_of 127 (by decide +kernel) (by decide +kernel))
