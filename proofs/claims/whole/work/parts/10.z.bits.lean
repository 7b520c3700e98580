noncomputable def bcE (a0 : Int32) : Int32 := (f_J6_bitCount_0f7a4 a0 ((fun _ _ => 0), 0)).elim 0 (fun q => q.1)
theorem bcE_f (a0 : Int32) (σ : xSt) : f_J6_bitCount_0f7a4 a0 σ = some (bcE a0, σ) := rfl
theorem bcE_0 : ∀ b, b < 128 → bcE (nI (0 + b)) = nI (pc (0 + b) 16) := by decide +kernel
theorem bcE_1 : ∀ b, b < 128 → bcE (nI (128 + b)) = nI (pc (128 + b) 16) := by decide +kernel
theorem bcE_2 : ∀ b, b < 128 → bcE (nI (256 + b)) = nI (pc (256 + b) 16) := by decide +kernel
theorem bcE_3 : ∀ b, b < 128 → bcE (nI (384 + b)) = nI (pc (384 + b) 16) := by decide +kernel
theorem bcE_4 : ∀ b, b < 128 → bcE (nI (512 + b)) = nI (pc (512 + b) 16) := by decide +kernel
theorem bcE_5 : ∀ b, b < 128 → bcE (nI (640 + b)) = nI (pc (640 + b) 16) := by decide +kernel
theorem bcE_6 : ∀ b, b < 128 → bcE (nI (768 + b)) = nI (pc (768 + b) 16) := by decide +kernel
theorem bcE_7 : ∀ b, b < 128 → bcE (nI (896 + b)) = nI (pc (896 + b) 16) := by decide +kernel
theorem bcE_8 : ∀ b, b < 128 → bcE (nI (1024 + b)) = nI (pc (1024 + b) 16) := by decide +kernel
theorem bcE_9 : ∀ b, b < 128 → bcE (nI (1152 + b)) = nI (pc (1152 + b) 16) := by decide +kernel
theorem bcE_10 : ∀ b, b < 128 → bcE (nI (1280 + b)) = nI (pc (1280 + b) 16) := by decide +kernel
theorem bcE_11 : ∀ b, b < 128 → bcE (nI (1408 + b)) = nI (pc (1408 + b) 16) := by decide +kernel
theorem bcE_12 : ∀ b, b < 128 → bcE (nI (1536 + b)) = nI (pc (1536 + b) 16) := by decide +kernel
theorem bcE_13 : ∀ b, b < 128 → bcE (nI (1664 + b)) = nI (pc (1664 + b) 16) := by decide +kernel
theorem bcE_14 : ∀ b, b < 128 → bcE (nI (1792 + b)) = nI (pc (1792 + b) 16) := by decide +kernel
theorem bcE_15 : ∀ b, b < 128 → bcE (nI (1920 + b)) = nI (pc (1920 + b) 16) := by decide +kernel
theorem bcE_16 : ∀ b, b < 128 → bcE (nI (2048 + b)) = nI (pc (2048 + b) 16) := by decide +kernel
theorem bcE_17 : ∀ b, b < 128 → bcE (nI (2176 + b)) = nI (pc (2176 + b) 16) := by decide +kernel
theorem bcE_18 : ∀ b, b < 128 → bcE (nI (2304 + b)) = nI (pc (2304 + b) 16) := by decide +kernel
theorem bcE_19 : ∀ b, b < 128 → bcE (nI (2432 + b)) = nI (pc (2432 + b) 16) := by decide +kernel
theorem bcE_20 : ∀ b, b < 128 → bcE (nI (2560 + b)) = nI (pc (2560 + b) 16) := by decide +kernel
theorem bcE_21 : ∀ b, b < 128 → bcE (nI (2688 + b)) = nI (pc (2688 + b) 16) := by decide +kernel
theorem bcE_22 : ∀ b, b < 128 → bcE (nI (2816 + b)) = nI (pc (2816 + b) 16) := by decide +kernel
theorem bcE_23 : ∀ b, b < 128 → bcE (nI (2944 + b)) = nI (pc (2944 + b) 16) := by decide +kernel
theorem bcE_24 : ∀ b, b < 128 → bcE (nI (3072 + b)) = nI (pc (3072 + b) 16) := by decide +kernel
theorem bcE_25 : ∀ b, b < 128 → bcE (nI (3200 + b)) = nI (pc (3200 + b) 16) := by decide +kernel
theorem bcE_26 : ∀ b, b < 128 → bcE (nI (3328 + b)) = nI (pc (3328 + b) 16) := by decide +kernel
theorem bcE_27 : ∀ b, b < 128 → bcE (nI (3456 + b)) = nI (pc (3456 + b) 16) := by decide +kernel
theorem bcE_28 : ∀ b, b < 128 → bcE (nI (3584 + b)) = nI (pc (3584 + b) 16) := by decide +kernel
theorem bcE_29 : ∀ b, b < 128 → bcE (nI (3712 + b)) = nI (pc (3712 + b) 16) := by decide +kernel
theorem bcE_30 : ∀ b, b < 128 → bcE (nI (3840 + b)) = nI (pc (3840 + b) 16) := by decide +kernel
theorem bcE_31 : ∀ b, b < 128 → bcE (nI (3968 + b)) = nI (pc (3968 + b) 16) := by decide +kernel
theorem bcE_32 : ∀ b, b < 128 → bcE (nI (4096 + b)) = nI (pc (4096 + b) 16) := by decide +kernel
theorem bcE_33 : ∀ b, b < 128 → bcE (nI (4224 + b)) = nI (pc (4224 + b) 16) := by decide +kernel
theorem bcE_34 : ∀ b, b < 128 → bcE (nI (4352 + b)) = nI (pc (4352 + b) 16) := by decide +kernel
theorem bcE_35 : ∀ b, b < 128 → bcE (nI (4480 + b)) = nI (pc (4480 + b) 16) := by decide +kernel
theorem bcE_36 : ∀ b, b < 128 → bcE (nI (4608 + b)) = nI (pc (4608 + b) 16) := by decide +kernel
theorem bcE_37 : ∀ b, b < 128 → bcE (nI (4736 + b)) = nI (pc (4736 + b) 16) := by decide +kernel
theorem bcE_38 : ∀ b, b < 128 → bcE (nI (4864 + b)) = nI (pc (4864 + b) 16) := by decide +kernel
theorem bcE_39 : ∀ b, b < 128 → bcE (nI (4992 + b)) = nI (pc (4992 + b) 16) := by decide +kernel
theorem bcE_40 : ∀ b, b < 128 → bcE (nI (5120 + b)) = nI (pc (5120 + b) 16) := by decide +kernel
theorem bcE_41 : ∀ b, b < 128 → bcE (nI (5248 + b)) = nI (pc (5248 + b) 16) := by decide +kernel
theorem bcE_42 : ∀ b, b < 128 → bcE (nI (5376 + b)) = nI (pc (5376 + b) 16) := by decide +kernel
theorem bcE_43 : ∀ b, b < 128 → bcE (nI (5504 + b)) = nI (pc (5504 + b) 16) := by decide +kernel
theorem bcE_44 : ∀ b, b < 128 → bcE (nI (5632 + b)) = nI (pc (5632 + b) 16) := by decide +kernel
theorem bcE_45 : ∀ b, b < 128 → bcE (nI (5760 + b)) = nI (pc (5760 + b) 16) := by decide +kernel
theorem bcE_46 : ∀ b, b < 128 → bcE (nI (5888 + b)) = nI (pc (5888 + b) 16) := by decide +kernel
theorem bcE_47 : ∀ b, b < 128 → bcE (nI (6016 + b)) = nI (pc (6016 + b) 16) := by decide +kernel
theorem bcE_48 : ∀ b, b < 128 → bcE (nI (6144 + b)) = nI (pc (6144 + b) 16) := by decide +kernel
theorem bcE_49 : ∀ b, b < 128 → bcE (nI (6272 + b)) = nI (pc (6272 + b) 16) := by decide +kernel
theorem bcE_50 : ∀ b, b < 128 → bcE (nI (6400 + b)) = nI (pc (6400 + b) 16) := by decide +kernel
theorem bcE_51 : ∀ b, b < 128 → bcE (nI (6528 + b)) = nI (pc (6528 + b) 16) := by decide +kernel
theorem bcE_52 : ∀ b, b < 128 → bcE (nI (6656 + b)) = nI (pc (6656 + b) 16) := by decide +kernel
theorem bcE_53 : ∀ b, b < 128 → bcE (nI (6784 + b)) = nI (pc (6784 + b) 16) := by decide +kernel
theorem bcE_54 : ∀ b, b < 128 → bcE (nI (6912 + b)) = nI (pc (6912 + b) 16) := by decide +kernel
theorem bcE_55 : ∀ b, b < 128 → bcE (nI (7040 + b)) = nI (pc (7040 + b) 16) := by decide +kernel
theorem bcE_56 : ∀ b, b < 128 → bcE (nI (7168 + b)) = nI (pc (7168 + b) 16) := by decide +kernel
theorem bcE_57 : ∀ b, b < 128 → bcE (nI (7296 + b)) = nI (pc (7296 + b) 16) := by decide +kernel
theorem bcE_58 : ∀ b, b < 128 → bcE (nI (7424 + b)) = nI (pc (7424 + b) 16) := by decide +kernel
theorem bcE_59 : ∀ b, b < 128 → bcE (nI (7552 + b)) = nI (pc (7552 + b) 16) := by decide +kernel
theorem bcE_60 : ∀ b, b < 128 → bcE (nI (7680 + b)) = nI (pc (7680 + b) 16) := by decide +kernel
theorem bcE_61 : ∀ b, b < 128 → bcE (nI (7808 + b)) = nI (pc (7808 + b) 16) := by decide +kernel
theorem bcE_62 : ∀ b, b < 128 → bcE (nI (7936 + b)) = nI (pc (7936 + b) 16) := by decide +kernel
theorem bcE_63 : ∀ b, b < 128 → bcE (nI (8064 + b)) = nI (pc (8064 + b) 16) := by decide +kernel
theorem bcE_64 : ∀ b, b < 128 → bcE (nI (8192 + b)) = nI (pc (8192 + b) 16) := by decide +kernel
theorem bcE_65 : ∀ b, b < 128 → bcE (nI (8320 + b)) = nI (pc (8320 + b) 16) := by decide +kernel
theorem bcE_66 : ∀ b, b < 128 → bcE (nI (8448 + b)) = nI (pc (8448 + b) 16) := by decide +kernel
theorem bcE_67 : ∀ b, b < 128 → bcE (nI (8576 + b)) = nI (pc (8576 + b) 16) := by decide +kernel
theorem bcE_68 : ∀ b, b < 128 → bcE (nI (8704 + b)) = nI (pc (8704 + b) 16) := by decide +kernel
theorem bcE_69 : ∀ b, b < 128 → bcE (nI (8832 + b)) = nI (pc (8832 + b) 16) := by decide +kernel
theorem bcE_70 : ∀ b, b < 128 → bcE (nI (8960 + b)) = nI (pc (8960 + b) 16) := by decide +kernel
theorem bcE_71 : ∀ b, b < 128 → bcE (nI (9088 + b)) = nI (pc (9088 + b) 16) := by decide +kernel
theorem bcE_72 : ∀ b, b < 128 → bcE (nI (9216 + b)) = nI (pc (9216 + b) 16) := by decide +kernel
theorem bcE_73 : ∀ b, b < 128 → bcE (nI (9344 + b)) = nI (pc (9344 + b) 16) := by decide +kernel
theorem bcE_74 : ∀ b, b < 128 → bcE (nI (9472 + b)) = nI (pc (9472 + b) 16) := by decide +kernel
theorem bcE_75 : ∀ b, b < 128 → bcE (nI (9600 + b)) = nI (pc (9600 + b) 16) := by decide +kernel
theorem bcE_76 : ∀ b, b < 128 → bcE (nI (9728 + b)) = nI (pc (9728 + b) 16) := by decide +kernel
theorem bcE_77 : ∀ b, b < 128 → bcE (nI (9856 + b)) = nI (pc (9856 + b) 16) := by decide +kernel
theorem bcE_78 : ∀ b, b < 128 → bcE (nI (9984 + b)) = nI (pc (9984 + b) 16) := by decide +kernel
theorem bcE_79 : ∀ b, b < 128 → bcE (nI (10112 + b)) = nI (pc (10112 + b) 16) := by decide +kernel
theorem bcE_80 : ∀ b, b < 128 → bcE (nI (10240 + b)) = nI (pc (10240 + b) 16) := by decide +kernel
theorem bcE_81 : ∀ b, b < 128 → bcE (nI (10368 + b)) = nI (pc (10368 + b) 16) := by decide +kernel
theorem bcE_82 : ∀ b, b < 128 → bcE (nI (10496 + b)) = nI (pc (10496 + b) 16) := by decide +kernel
theorem bcE_83 : ∀ b, b < 128 → bcE (nI (10624 + b)) = nI (pc (10624 + b) 16) := by decide +kernel
theorem bcE_84 : ∀ b, b < 128 → bcE (nI (10752 + b)) = nI (pc (10752 + b) 16) := by decide +kernel
theorem bcE_85 : ∀ b, b < 128 → bcE (nI (10880 + b)) = nI (pc (10880 + b) 16) := by decide +kernel
theorem bcE_86 : ∀ b, b < 128 → bcE (nI (11008 + b)) = nI (pc (11008 + b) 16) := by decide +kernel
theorem bcE_87 : ∀ b, b < 128 → bcE (nI (11136 + b)) = nI (pc (11136 + b) 16) := by decide +kernel
theorem bcE_88 : ∀ b, b < 128 → bcE (nI (11264 + b)) = nI (pc (11264 + b) 16) := by decide +kernel
theorem bcE_89 : ∀ b, b < 128 → bcE (nI (11392 + b)) = nI (pc (11392 + b) 16) := by decide +kernel
theorem bcE_90 : ∀ b, b < 128 → bcE (nI (11520 + b)) = nI (pc (11520 + b) 16) := by decide +kernel
theorem bcE_91 : ∀ b, b < 128 → bcE (nI (11648 + b)) = nI (pc (11648 + b) 16) := by decide +kernel
theorem bcE_92 : ∀ b, b < 128 → bcE (nI (11776 + b)) = nI (pc (11776 + b) 16) := by decide +kernel
theorem bcE_93 : ∀ b, b < 128 → bcE (nI (11904 + b)) = nI (pc (11904 + b) 16) := by decide +kernel
theorem bcE_94 : ∀ b, b < 128 → bcE (nI (12032 + b)) = nI (pc (12032 + b) 16) := by decide +kernel
theorem bcE_95 : ∀ b, b < 128 → bcE (nI (12160 + b)) = nI (pc (12160 + b) 16) := by decide +kernel
theorem bcE_96 : ∀ b, b < 128 → bcE (nI (12288 + b)) = nI (pc (12288 + b) 16) := by decide +kernel
theorem bcE_97 : ∀ b, b < 128 → bcE (nI (12416 + b)) = nI (pc (12416 + b) 16) := by decide +kernel
theorem bcE_98 : ∀ b, b < 128 → bcE (nI (12544 + b)) = nI (pc (12544 + b) 16) := by decide +kernel
theorem bcE_99 : ∀ b, b < 128 → bcE (nI (12672 + b)) = nI (pc (12672 + b) 16) := by decide +kernel
theorem bcE_100 : ∀ b, b < 128 → bcE (nI (12800 + b)) = nI (pc (12800 + b) 16) := by decide +kernel
theorem bcE_101 : ∀ b, b < 128 → bcE (nI (12928 + b)) = nI (pc (12928 + b) 16) := by decide +kernel
theorem bcE_102 : ∀ b, b < 128 → bcE (nI (13056 + b)) = nI (pc (13056 + b) 16) := by decide +kernel
theorem bcE_103 : ∀ b, b < 128 → bcE (nI (13184 + b)) = nI (pc (13184 + b) 16) := by decide +kernel
theorem bcE_104 : ∀ b, b < 128 → bcE (nI (13312 + b)) = nI (pc (13312 + b) 16) := by decide +kernel
theorem bcE_105 : ∀ b, b < 128 → bcE (nI (13440 + b)) = nI (pc (13440 + b) 16) := by decide +kernel
theorem bcE_106 : ∀ b, b < 128 → bcE (nI (13568 + b)) = nI (pc (13568 + b) 16) := by decide +kernel
theorem bcE_107 : ∀ b, b < 128 → bcE (nI (13696 + b)) = nI (pc (13696 + b) 16) := by decide +kernel
theorem bcE_108 : ∀ b, b < 128 → bcE (nI (13824 + b)) = nI (pc (13824 + b) 16) := by decide +kernel
theorem bcE_109 : ∀ b, b < 128 → bcE (nI (13952 + b)) = nI (pc (13952 + b) 16) := by decide +kernel
theorem bcE_110 : ∀ b, b < 128 → bcE (nI (14080 + b)) = nI (pc (14080 + b) 16) := by decide +kernel
theorem bcE_111 : ∀ b, b < 128 → bcE (nI (14208 + b)) = nI (pc (14208 + b) 16) := by decide +kernel
theorem bcE_112 : ∀ b, b < 128 → bcE (nI (14336 + b)) = nI (pc (14336 + b) 16) := by decide +kernel
theorem bcE_113 : ∀ b, b < 128 → bcE (nI (14464 + b)) = nI (pc (14464 + b) 16) := by decide +kernel
theorem bcE_114 : ∀ b, b < 128 → bcE (nI (14592 + b)) = nI (pc (14592 + b) 16) := by decide +kernel
theorem bcE_115 : ∀ b, b < 128 → bcE (nI (14720 + b)) = nI (pc (14720 + b) 16) := by decide +kernel
theorem bcE_116 : ∀ b, b < 128 → bcE (nI (14848 + b)) = nI (pc (14848 + b) 16) := by decide +kernel
theorem bcE_117 : ∀ b, b < 128 → bcE (nI (14976 + b)) = nI (pc (14976 + b) 16) := by decide +kernel
theorem bcE_118 : ∀ b, b < 128 → bcE (nI (15104 + b)) = nI (pc (15104 + b) 16) := by decide +kernel
theorem bcE_119 : ∀ b, b < 128 → bcE (nI (15232 + b)) = nI (pc (15232 + b) 16) := by decide +kernel
theorem bcE_120 : ∀ b, b < 128 → bcE (nI (15360 + b)) = nI (pc (15360 + b) 16) := by decide +kernel
theorem bcE_121 : ∀ b, b < 128 → bcE (nI (15488 + b)) = nI (pc (15488 + b) 16) := by decide +kernel
theorem bcE_122 : ∀ b, b < 128 → bcE (nI (15616 + b)) = nI (pc (15616 + b) 16) := by decide +kernel
theorem bcE_123 : ∀ b, b < 128 → bcE (nI (15744 + b)) = nI (pc (15744 + b) 16) := by decide +kernel
theorem bcE_124 : ∀ b, b < 128 → bcE (nI (15872 + b)) = nI (pc (15872 + b) 16) := by decide +kernel
theorem bcE_125 : ∀ b, b < 128 → bcE (nI (16000 + b)) = nI (pc (16000 + b) 16) := by decide +kernel
theorem bcE_126 : ∀ b, b < 128 → bcE (nI (16128 + b)) = nI (pc (16128 + b) 16) := by decide +kernel
theorem bcE_127 : ∀ b, b < 128 → bcE (nI (16256 + b)) = nI (pc (16256 + b) 16) := by decide +kernel
theorem bcE_all {m : Nat} (hm : m < 16384) : bcE (nI m) = nI (pc m 16) := by
  have h1 : m / 128 < 128 := by omega
  have h2 : m % 128 < 128 := by omega
  have h3 : m = m / 128 * 128 + m % 128 := by omega
  generalize m / 128 = a at h1 h3
  generalize m % 128 = b at h2 h3
  subst h3
  match a, h1 with
  | 0, _ => exact bcE_0 b h2
  | 1, _ => exact bcE_1 b h2
  | 2, _ => exact bcE_2 b h2
  | 3, _ => exact bcE_3 b h2
  | 4, _ => exact bcE_4 b h2
  | 5, _ => exact bcE_5 b h2
  | 6, _ => exact bcE_6 b h2
  | 7, _ => exact bcE_7 b h2
  | 8, _ => exact bcE_8 b h2
  | 9, _ => exact bcE_9 b h2
  | 10, _ => exact bcE_10 b h2
  | 11, _ => exact bcE_11 b h2
  | 12, _ => exact bcE_12 b h2
  | 13, _ => exact bcE_13 b h2
  | 14, _ => exact bcE_14 b h2
  | 15, _ => exact bcE_15 b h2
  | 16, _ => exact bcE_16 b h2
  | 17, _ => exact bcE_17 b h2
  | 18, _ => exact bcE_18 b h2
  | 19, _ => exact bcE_19 b h2
  | 20, _ => exact bcE_20 b h2
  | 21, _ => exact bcE_21 b h2
  | 22, _ => exact bcE_22 b h2
  | 23, _ => exact bcE_23 b h2
  | 24, _ => exact bcE_24 b h2
  | 25, _ => exact bcE_25 b h2
  | 26, _ => exact bcE_26 b h2
  | 27, _ => exact bcE_27 b h2
  | 28, _ => exact bcE_28 b h2
  | 29, _ => exact bcE_29 b h2
  | 30, _ => exact bcE_30 b h2
  | 31, _ => exact bcE_31 b h2
  | 32, _ => exact bcE_32 b h2
  | 33, _ => exact bcE_33 b h2
  | 34, _ => exact bcE_34 b h2
  | 35, _ => exact bcE_35 b h2
  | 36, _ => exact bcE_36 b h2
  | 37, _ => exact bcE_37 b h2
  | 38, _ => exact bcE_38 b h2
  | 39, _ => exact bcE_39 b h2
  | 40, _ => exact bcE_40 b h2
  | 41, _ => exact bcE_41 b h2
  | 42, _ => exact bcE_42 b h2
  | 43, _ => exact bcE_43 b h2
  | 44, _ => exact bcE_44 b h2
  | 45, _ => exact bcE_45 b h2
  | 46, _ => exact bcE_46 b h2
  | 47, _ => exact bcE_47 b h2
  | 48, _ => exact bcE_48 b h2
  | 49, _ => exact bcE_49 b h2
  | 50, _ => exact bcE_50 b h2
  | 51, _ => exact bcE_51 b h2
  | 52, _ => exact bcE_52 b h2
  | 53, _ => exact bcE_53 b h2
  | 54, _ => exact bcE_54 b h2
  | 55, _ => exact bcE_55 b h2
  | 56, _ => exact bcE_56 b h2
  | 57, _ => exact bcE_57 b h2
  | 58, _ => exact bcE_58 b h2
  | 59, _ => exact bcE_59 b h2
  | 60, _ => exact bcE_60 b h2
  | 61, _ => exact bcE_61 b h2
  | 62, _ => exact bcE_62 b h2
  | 63, _ => exact bcE_63 b h2
  | 64, _ => exact bcE_64 b h2
  | 65, _ => exact bcE_65 b h2
  | 66, _ => exact bcE_66 b h2
  | 67, _ => exact bcE_67 b h2
  | 68, _ => exact bcE_68 b h2
  | 69, _ => exact bcE_69 b h2
  | 70, _ => exact bcE_70 b h2
  | 71, _ => exact bcE_71 b h2
  | 72, _ => exact bcE_72 b h2
  | 73, _ => exact bcE_73 b h2
  | 74, _ => exact bcE_74 b h2
  | 75, _ => exact bcE_75 b h2
  | 76, _ => exact bcE_76 b h2
  | 77, _ => exact bcE_77 b h2
  | 78, _ => exact bcE_78 b h2
  | 79, _ => exact bcE_79 b h2
  | 80, _ => exact bcE_80 b h2
  | 81, _ => exact bcE_81 b h2
  | 82, _ => exact bcE_82 b h2
  | 83, _ => exact bcE_83 b h2
  | 84, _ => exact bcE_84 b h2
  | 85, _ => exact bcE_85 b h2
  | 86, _ => exact bcE_86 b h2
  | 87, _ => exact bcE_87 b h2
  | 88, _ => exact bcE_88 b h2
  | 89, _ => exact bcE_89 b h2
  | 90, _ => exact bcE_90 b h2
  | 91, _ => exact bcE_91 b h2
  | 92, _ => exact bcE_92 b h2
  | 93, _ => exact bcE_93 b h2
  | 94, _ => exact bcE_94 b h2
  | 95, _ => exact bcE_95 b h2
  | 96, _ => exact bcE_96 b h2
  | 97, _ => exact bcE_97 b h2
  | 98, _ => exact bcE_98 b h2
  | 99, _ => exact bcE_99 b h2
  | 100, _ => exact bcE_100 b h2
  | 101, _ => exact bcE_101 b h2
  | 102, _ => exact bcE_102 b h2
  | 103, _ => exact bcE_103 b h2
  | 104, _ => exact bcE_104 b h2
  | 105, _ => exact bcE_105 b h2
  | 106, _ => exact bcE_106 b h2
  | 107, _ => exact bcE_107 b h2
  | 108, _ => exact bcE_108 b h2
  | 109, _ => exact bcE_109 b h2
  | 110, _ => exact bcE_110 b h2
  | 111, _ => exact bcE_111 b h2
  | 112, _ => exact bcE_112 b h2
  | 113, _ => exact bcE_113 b h2
  | 114, _ => exact bcE_114 b h2
  | 115, _ => exact bcE_115 b h2
  | 116, _ => exact bcE_116 b h2
  | 117, _ => exact bcE_117 b h2
  | 118, _ => exact bcE_118 b h2
  | 119, _ => exact bcE_119 b h2
  | 120, _ => exact bcE_120 b h2
  | 121, _ => exact bcE_121 b h2
  | 122, _ => exact bcE_122 b h2
  | 123, _ => exact bcE_123 b h2
  | 124, _ => exact bcE_124 b h2
  | 125, _ => exact bcE_125 b h2
  | 126, _ => exact bcE_126 b h2
  | 127, _ => exact bcE_127 b h2
  | a + 128, h => omega
theorem eJ_bitCount {m : Nat} (hm : m < 16384) (σ : xSt) : f_J6_bitCount_0f7a4 (nI m) σ = some (nI (pc m 16), σ) := by
  rw [bcE_f, bcE_all hm]
