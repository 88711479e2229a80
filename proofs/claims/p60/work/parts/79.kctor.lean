/-! the constructors of the class that run once -/
theorem dX1_init_0 : decode cX1_init 0 = .ok (.aload_n 0, 1) := by decide +kernel
theorem dX1_init_1 : decode cX1_init 1 = .ok (.invokespecial 3, 3) := by decide +kernel
theorem dX1_init_4 : decode cX1_init 4 = .ok (.aload_n 0, 1) := by decide +kernel
theorem dX1_init_5 : decode cX1_init 5 = .ok (.iconst 0, 1) := by decide +kernel
theorem dX1_init_6 : decode cX1_init 6 = .ok (.putfield 9, 3) := by decide +kernel
theorem dX1_init_9 : decode cX1_init 9 = .ok (.aload_n 0, 1) := by decide +kernel
theorem dX1_init_10 : decode cX1_init 10 = .ok (.bipush 20, 2) := by decide +kernel
theorem dX1_init_12 : decode cX1_init 12 = .ok (.newarray .int, 2) := by decide +kernel
theorem dX1_init_14 : decode cX1_init 14 = .ok (.putfield 15, 3) := by decide +kernel
theorem dX1_init_17 : decode cX1_init 17 = .ok (.aload_n 0, 1) := by decide +kernel
theorem dX1_init_18 : decode cX1_init 18 = .ok (.bipush 20, 2) := by decide +kernel
theorem dX1_init_20 : decode cX1_init 20 = .ok (.newarray .int, 2) := by decide +kernel
theorem dX1_init_22 : decode cX1_init 22 = .ok (.putfield 19, 3) := by decide +kernel
theorem dX1_init_25 : decode cX1_init 25 = .ok (.aload_n 0, 1) := by decide +kernel
theorem dX1_init_26 : decode cX1_init 26 = .ok (.iconst 0, 1) := by decide +kernel
theorem dX1_init_27 : decode cX1_init 27 = .ok (.putfield 22, 3) := by decide +kernel
theorem dX1_init_30 : decode cX1_init 30 = .ok (.aload_n 0, 1) := by decide +kernel
theorem dX1_init_31 : decode cX1_init 31 = .ok (.iconst 0, 1) := by decide +kernel
theorem dX1_init_32 : decode cX1_init 32 = .ok (.putfield 25, 3) := by decide +kernel
theorem dX1_init_35 : decode cX1_init 35 = .ok (.aload_n 0, 1) := by decide +kernel
theorem dX1_init_36 : decode cX1_init 36 = .ok (.iconst 0, 1) := by decide +kernel
theorem dX1_init_37 : decode cX1_init 37 = .ok (.putfield 28, 3) := by decide +kernel
theorem dX1_init_40 : decode cX1_init 40 = .ok (.aload_n 0, 1) := by decide +kernel
theorem dX1_init_41 : decode cX1_init 41 = .ok (.iconst 0, 1) := by decide +kernel
theorem dX1_init_42 : decode cX1_init 42 = .ok (.putfield 31, 3) := by decide +kernel
theorem dX1_init_45 : decode cX1_init 45 = .ok (.aload_n 0, 1) := by decide +kernel
theorem dX1_init_46 : decode cX1_init 46 = .ok (.bipush 8, 2) := by decide +kernel
theorem dX1_init_48 : decode cX1_init 48 = .ok (.newarray .int, 2) := by decide +kernel
theorem dX1_init_50 : decode cX1_init 50 = .ok (.putfield 34, 3) := by decide +kernel
theorem dX1_init_53 : decode cX1_init 53 = .ok (.aload_n 0, 1) := by decide +kernel
theorem dX1_init_54 : decode cX1_init 54 = .ok (.bipush 8, 2) := by decide +kernel
theorem dX1_init_56 : decode cX1_init 56 = .ok (.newarray .int, 2) := by decide +kernel
theorem dX1_init_58 : decode cX1_init 58 = .ok (.putfield 37, 3) := by decide +kernel
theorem dX1_init_61 : decode cX1_init 61 = .ok (.aload_n 0, 1) := by decide +kernel
theorem dX1_init_62 : decode cX1_init 62 = .ok (.bipush 8, 2) := by decide +kernel
theorem dX1_init_64 : decode cX1_init 64 = .ok (.newarray .int, 2) := by decide +kernel
theorem dX1_init_66 : decode cX1_init 66 = .ok (.putfield 40, 3) := by decide +kernel
theorem dX1_init_69 : decode cX1_init 69 = .ok (.aload_n 0, 1) := by decide +kernel
theorem dX1_init_70 : decode cX1_init 70 = .ok (.bipush 8, 2) := by decide +kernel
theorem dX1_init_72 : decode cX1_init 72 = .ok (.bipush 100, 2) := by decide +kernel
theorem dX1_init_74 : decode cX1_init 74 = .ok (.multianewarray 43 2, 4) := by decide +kernel
theorem dX1_init_78 : decode cX1_init 78 = .ok (.putfield 45, 3) := by decide +kernel
theorem dX1_init_81 : decode cX1_init 81 = .ok (.aload_n 0, 1) := by decide +kernel
theorem dX1_init_82 : decode cX1_init 82 = .ok (.iconst 4, 1) := by decide +kernel
theorem dX1_init_83 : decode cX1_init 83 = .ok (.newarray .int, 2) := by decide +kernel
theorem dX1_init_85 : decode cX1_init 85 = .ok (.putfield 48, 3) := by decide +kernel
theorem dX1_init_88 : decode cX1_init 88 = .ok (.aload_n 0, 1) := by decide +kernel
theorem dX1_init_89 : decode cX1_init 89 = .ok (.bipush 24, 2) := by decide +kernel
theorem dX1_init_91 : decode cX1_init 91 = .ok (.newarray .int, 2) := by decide +kernel
theorem dX1_init_93 : decode cX1_init 93 = .ok (.putfield 51, 3) := by decide +kernel
theorem dX1_init_96 : decode cX1_init 96 = .ok (.aload_n 0, 1) := by decide +kernel
theorem dX1_init_97 : decode cX1_init 97 = .ok (.aload_n 1, 1) := by decide +kernel
theorem dX1_init_98 : decode cX1_init 98 = .ok (.putfield 54, 3) := by decide +kernel
theorem dX1_init_101 : decode cX1_init 101 = .ok (.return_, 1) := by decide +kernel
theorem dX3_init_0 : decode cX3_init 0 = .ok (.aload_n 0, 1) := by decide +kernel
theorem dX3_init_1 : decode cX3_init 1 = .ok (.invokespecial 3, 3) := by decide +kernel
theorem dX3_init_4 : decode cX3_init 4 = .ok (.aload_n 0, 1) := by decide +kernel
theorem dX3_init_5 : decode cX3_init 5 = .ok (.new 9, 3) := by decide +kernel
theorem dX3_init_8 : decode cX3_init 8 = .ok (.dup, 1) := by decide +kernel
theorem dX3_init_9 : decode cX3_init 9 = .ok (.invokespecial 11, 3) := by decide +kernel
theorem dX3_init_12 : decode cX3_init 12 = .ok (.putfield 12, 3) := by decide +kernel
theorem dX3_init_15 : decode cX3_init 15 = .ok (.aload_n 0, 1) := by decide +kernel
theorem dX3_init_16 : decode cX3_init 16 = .ok (.bipush 20, 2) := by decide +kernel
theorem dX3_init_18 : decode cX3_init 18 = .ok (.newarray .long, 2) := by decide +kernel
theorem dX3_init_20 : decode cX3_init 20 = .ok (.putfield 18, 3) := by decide +kernel
theorem dX3_init_23 : decode cX3_init 23 = .ok (.aload_n 0, 1) := by decide +kernel
theorem dX3_init_24 : decode cX3_init 24 = .ok (.iconst 0, 1) := by decide +kernel
theorem dX3_init_25 : decode cX3_init 25 = .ok (.putfield 22, 3) := by decide +kernel
theorem dX3_init_28 : decode cX3_init 28 = .ok (.aload_n 0, 1) := by decide +kernel
theorem dX3_init_29 : decode cX3_init 29 = .ok (.bipush 10, 2) := by decide +kernel
theorem dX3_init_31 : decode cX3_init 31 = .ok (.newarray .long, 2) := by decide +kernel
theorem dX3_init_33 : decode cX3_init 33 = .ok (.putfield 26, 3) := by decide +kernel
theorem dX3_init_36 : decode cX3_init 36 = .ok (.aload_n 0, 1) := by decide +kernel
theorem dX3_init_37 : decode cX3_init 37 = .ok (.iconst 0, 1) := by decide +kernel
theorem dX3_init_38 : decode cX3_init 38 = .ok (.putfield 29, 3) := by decide +kernel
theorem dX3_init_41 : decode cX3_init 41 = .ok (.aload_n 0, 1) := by decide +kernel
theorem dX3_init_42 : decode cX3_init 42 = .ok (.bipush 10, 2) := by decide +kernel
theorem dX3_init_44 : decode cX3_init 44 = .ok (.newarray .long, 2) := by decide +kernel
theorem dX3_init_46 : decode cX3_init 46 = .ok (.putfield 32, 3) := by decide +kernel
theorem dX3_init_49 : decode cX3_init 49 = .ok (.aload_n 0, 1) := by decide +kernel
theorem dX3_init_50 : decode cX3_init 50 = .ok (.bipush 10, 2) := by decide +kernel
theorem dX3_init_52 : decode cX3_init 52 = .ok (.newarray .long, 2) := by decide +kernel
theorem dX3_init_54 : decode cX3_init 54 = .ok (.putfield 35, 3) := by decide +kernel
theorem dX3_init_57 : decode cX3_init 57 = .ok (.aload_n 0, 1) := by decide +kernel
theorem dX3_init_58 : decode cX3_init 58 = .ok (.iconst 0, 1) := by decide +kernel
theorem dX3_init_59 : decode cX3_init 59 = .ok (.putfield 38, 3) := by decide +kernel
theorem dX3_init_62 : decode cX3_init 62 = .ok (.aload_n 0, 1) := by decide +kernel
theorem dX3_init_63 : decode cX3_init 63 = .ok (.iconst 0, 1) := by decide +kernel
theorem dX3_init_64 : decode cX3_init 64 = .ok (.putfield 41, 3) := by decide +kernel
theorem dX3_init_67 : decode cX3_init 67 = .ok (.return_, 1) := by decide +kernel
theorem dX7_init_0 : decode cX7_init 0 = .ok (.aload_n 0, 1) := by decide +kernel
theorem dX7_init_1 : decode cX7_init 1 = .ok (.invokespecial 3, 3) := by decide +kernel
theorem dX7_init_4 : decode cX7_init 4 = .ok (.aload_n 0, 1) := by decide +kernel
theorem dX7_init_5 : decode cX7_init 5 = .ok (.iconst 2, 1) := by decide +kernel
theorem dX7_init_6 : decode cX7_init 6 = .ok (.newarray .int, 2) := by decide +kernel
theorem dX7_init_8 : decode cX7_init 8 = .ok (.dup, 1) := by decide +kernel
theorem dX7_init_9 : decode cX7_init 9 = .ok (.iconst 0, 1) := by decide +kernel
theorem dX7_init_10 : decode cX7_init 10 = .ok (.iconst 3, 1) := by decide +kernel
theorem dX7_init_11 : decode cX7_init 11 = .ok (.iastore, 1) := by decide +kernel
theorem dX7_init_12 : decode cX7_init 12 = .ok (.dup, 1) := by decide +kernel
theorem dX7_init_13 : decode cX7_init 13 = .ok (.iconst 1, 1) := by decide +kernel
theorem dX7_init_14 : decode cX7_init 14 = .ok (.iconst 1, 1) := by decide +kernel
theorem dX7_init_15 : decode cX7_init 15 = .ok (.iastore, 1) := by decide +kernel
theorem dX7_init_16 : decode cX7_init 16 = .ok (.putfield 9, 3) := by decide +kernel
theorem dX7_init_19 : decode cX7_init 19 = .ok (.aload_n 0, 1) := by decide +kernel
theorem dX7_init_20 : decode cX7_init 20 = .ok (.bipush 24, 2) := by decide +kernel
theorem dX7_init_22 : decode cX7_init 22 = .ok (.bipush 100, 2) := by decide +kernel
theorem dX7_init_24 : decode cX7_init 24 = .ok (.multianewarray 15 2, 4) := by decide +kernel
theorem dX7_init_28 : decode cX7_init 28 = .ok (.putfield 17, 3) := by decide +kernel
theorem dX7_init_31 : decode cX7_init 31 = .ok (.aload_n 0, 1) := by decide +kernel
theorem dX7_init_32 : decode cX7_init 32 = .ok (.bipush 24, 2) := by decide +kernel
theorem dX7_init_34 : decode cX7_init 34 = .ok (.bipush 100, 2) := by decide +kernel
theorem dX7_init_36 : decode cX7_init 36 = .ok (.multianewarray 15 2, 4) := by decide +kernel
theorem dX7_init_40 : decode cX7_init 40 = .ok (.putfield 20, 3) := by decide +kernel
theorem dX7_init_43 : decode cX7_init 43 = .ok (.aload_n 0, 1) := by decide +kernel
theorem dX7_init_44 : decode cX7_init 44 = .ok (.bipush 6, 2) := by decide +kernel
theorem dX7_init_46 : decode cX7_init 46 = .ok (.bipush 100, 2) := by decide +kernel
theorem dX7_init_48 : decode cX7_init 48 = .ok (.multianewarray 15 2, 4) := by decide +kernel
theorem dX7_init_52 : decode cX7_init 52 = .ok (.putfield 23, 3) := by decide +kernel
theorem dX7_init_55 : decode cX7_init 55 = .ok (.aload_n 0, 1) := by decide +kernel
theorem dX7_init_56 : decode cX7_init 56 = .ok (.bipush 6, 2) := by decide +kernel
theorem dX7_init_58 : decode cX7_init 58 = .ok (.newarray .int, 2) := by decide +kernel
theorem dX7_init_60 : decode cX7_init 60 = .ok (.putfield 26, 3) := by decide +kernel
theorem dX7_init_63 : decode cX7_init 63 = .ok (.aload_n 0, 1) := by decide +kernel
theorem dX7_init_64 : decode cX7_init 64 = .ok (.bipush 24, 2) := by decide +kernel
theorem dX7_init_66 : decode cX7_init 66 = .ok (.newarray .int, 2) := by decide +kernel
theorem dX7_init_68 : decode cX7_init 68 = .ok (.putfield 29, 3) := by decide +kernel
theorem dX7_init_71 : decode cX7_init 71 = .ok (.aload_n 0, 1) := by decide +kernel
theorem dX7_init_72 : decode cX7_init 72 = .ok (.bipush 24, 2) := by decide +kernel
theorem dX7_init_74 : decode cX7_init 74 = .ok (.newarray .int, 2) := by decide +kernel
theorem dX7_init_76 : decode cX7_init 76 = .ok (.putfield 32, 3) := by decide +kernel
theorem dX7_init_79 : decode cX7_init 79 = .ok (.return_, 1) := by decide +kernel
theorem dX11_init_0 : decode cX11_init 0 = .ok (.aload_n 0, 1) := by decide +kernel
theorem dX11_init_1 : decode cX11_init 1 = .ok (.invokespecial 1, 3) := by decide +kernel
theorem dX11_init_4 : decode cX11_init 4 = .ok (.aload_n 0, 1) := by decide +kernel
theorem dX11_init_5 : decode cX11_init 5 = .ok (.new 7, 3) := by decide +kernel
theorem dX11_init_8 : decode cX11_init 8 = .ok (.dup, 1) := by decide +kernel
theorem dX11_init_9 : decode cX11_init 9 = .ok (.invokespecial 9, 3) := by decide +kernel
theorem dX11_init_12 : decode cX11_init 12 = .ok (.putfield 10, 3) := by decide +kernel
theorem dX11_init_15 : decode cX11_init 15 = .ok (.aload_n 0, 1) := by decide +kernel
theorem dX11_init_16 : decode cX11_init 16 = .ok (.new 16, 3) := by decide +kernel
theorem dX11_init_19 : decode cX11_init 19 = .ok (.dup, 1) := by decide +kernel
theorem dX11_init_20 : decode cX11_init 20 = .ok (.invokespecial 18, 3) := by decide +kernel
theorem dX11_init_23 : decode cX11_init 23 = .ok (.putfield 19, 3) := by decide +kernel
theorem dX11_init_26 : decode cX11_init 26 = .ok (.aload_n 0, 1) := by decide +kernel
theorem dX11_init_27 : decode cX11_init 27 = .ok (.new 23, 3) := by decide +kernel
theorem dX11_init_30 : decode cX11_init 30 = .ok (.dup, 1) := by decide +kernel
theorem dX11_init_31 : decode cX11_init 31 = .ok (.invokespecial 25, 3) := by decide +kernel
theorem dX11_init_34 : decode cX11_init 34 = .ok (.putfield 26, 3) := by decide +kernel
theorem dX11_init_37 : decode cX11_init 37 = .ok (.aload_n 0, 1) := by decide +kernel
theorem dX11_init_38 : decode cX11_init 38 = .ok (.new 30, 3) := by decide +kernel
theorem dX11_init_41 : decode cX11_init 41 = .ok (.dup, 1) := by decide +kernel
theorem dX11_init_42 : decode cX11_init 42 = .ok (.iconst (-1), 1) := by decide +kernel
theorem dX11_init_43 : decode cX11_init 43 = .ok (.invokespecial 32, 3) := by decide +kernel
theorem dX11_init_46 : decode cX11_init 46 = .ok (.putfield 35, 3) := by decide +kernel
theorem dX11_init_49 : decode cX11_init 49 = .ok (.aload_n 0, 1) := by decide +kernel
theorem dX11_init_50 : decode cX11_init 50 = .ok (.aconst_null, 1) := by decide +kernel
theorem dX11_init_51 : decode cX11_init 51 = .ok (.putfield 39, 3) := by decide +kernel
theorem dX11_init_54 : decode cX11_init 54 = .ok (.aload_n 0, 1) := by decide +kernel
theorem dX11_init_55 : decode cX11_init 55 = .ok (.iconst 0, 1) := by decide +kernel
theorem dX11_init_56 : decode cX11_init 56 = .ok (.putfield 42, 3) := by decide +kernel
theorem dX11_init_59 : decode cX11_init 59 = .ok (.aload_n 0, 1) := by decide +kernel
theorem dX11_init_60 : decode cX11_init 60 = .ok (.aconst_null, 1) := by decide +kernel
theorem dX11_init_61 : decode cX11_init 61 = .ok (.putfield 46, 3) := by decide +kernel
theorem dX11_init_64 : decode cX11_init 64 = .ok (.aload_n 0, 1) := by decide +kernel
theorem dX11_init_65 : decode cX11_init 65 = .ok (.aconst_null, 1) := by decide +kernel
theorem dX11_init_66 : decode cX11_init 66 = .ok (.putfield 49, 3) := by decide +kernel
theorem dX11_init_69 : decode cX11_init 69 = .ok (.aload_n 0, 1) := by decide +kernel
theorem dX11_init_70 : decode cX11_init 70 = .ok (.new 23, 3) := by decide +kernel
theorem dX11_init_73 : decode cX11_init 73 = .ok (.dup, 1) := by decide +kernel
theorem dX11_init_74 : decode cX11_init 74 = .ok (.invokespecial 25, 3) := by decide +kernel
theorem dX11_init_77 : decode cX11_init 77 = .ok (.putfield 52, 3) := by decide +kernel
theorem dX11_init_80 : decode cX11_init 80 = .ok (.aload_n 0, 1) := by decide +kernel
theorem dX11_init_81 : decode cX11_init 81 = .ok (.iconst 0, 1) := by decide +kernel
theorem dX11_init_82 : decode cX11_init 82 = .ok (.putfield 55, 3) := by decide +kernel
theorem dX11_init_85 : decode cX11_init 85 = .ok (.aload_n 0, 1) := by decide +kernel
theorem dX11_init_86 : decode cX11_init 86 = .ok (.new 58, 3) := by decide +kernel
theorem dX11_init_89 : decode cX11_init 89 = .ok (.dup, 1) := by decide +kernel
theorem dX11_init_90 : decode cX11_init 90 = .ok (.invokespecial 60, 3) := by decide +kernel
theorem dX11_init_93 : decode cX11_init 93 = .ok (.putfield 61, 3) := by decide +kernel
theorem dX11_init_96 : decode cX11_init 96 = .ok (.aload_n 0, 1) := by decide +kernel
theorem dX11_init_97 : decode cX11_init 97 = .ok (.new 23, 3) := by decide +kernel
theorem dX11_init_100 : decode cX11_init 100 = .ok (.dup, 1) := by decide +kernel
theorem dX11_init_101 : decode cX11_init 101 = .ok (.invokespecial 25, 3) := by decide +kernel
theorem dX11_init_104 : decode cX11_init 104 = .ok (.putfield 65, 3) := by decide +kernel
theorem dX11_init_107 : decode cX11_init 107 = .ok (.aload_n 0, 1) := by decide +kernel
theorem dX11_init_108 : decode cX11_init 108 = .ok (.new 68, 3) := by decide +kernel
theorem dX11_init_111 : decode cX11_init 111 = .ok (.dup, 1) := by decide +kernel
theorem dX11_init_112 : decode cX11_init 112 = .ok (.invokespecial 70, 3) := by decide +kernel
theorem dX11_init_115 : decode cX11_init 115 = .ok (.putfield 71, 3) := by decide +kernel
theorem dX11_init_118 : decode cX11_init 118 = .ok (.aload_n 0, 1) := by decide +kernel
theorem dX11_init_119 : decode cX11_init 119 = .ok (.new 75, 3) := by decide +kernel
theorem dX11_init_122 : decode cX11_init 122 = .ok (.dup, 1) := by decide +kernel
theorem dX11_init_123 : decode cX11_init 123 = .ok (.aload_n 0, 1) := by decide +kernel
theorem dX11_init_124 : decode cX11_init 124 = .ok (.getfield 71, 3) := by decide +kernel
theorem dX11_init_127 : decode cX11_init 127 = .ok (.invokespecial 77, 3) := by decide +kernel
theorem dX11_init_130 : decode cX11_init 130 = .ok (.putfield 80, 3) := by decide +kernel
theorem dX11_init_133 : decode cX11_init 133 = .ok (.aload_n 0, 1) := by decide +kernel
theorem dX11_init_134 : decode cX11_init 134 = .ok (.iconst 0, 1) := by decide +kernel
theorem dX11_init_135 : decode cX11_init 135 = .ok (.putfield 84, 3) := by decide +kernel
theorem dX11_init_138 : decode cX11_init 138 = .ok (.aload_n 0, 1) := by decide +kernel
theorem dX11_init_139 : decode cX11_init 139 = .ok (.iconst 0, 1) := by decide +kernel
theorem dX11_init_140 : decode cX11_init 140 = .ok (.putfield 87, 3) := by decide +kernel
theorem dX11_init_143 : decode cX11_init 143 = .ok (.aload_n 0, 1) := by decide +kernel
theorem dX11_init_144 : decode cX11_init 144 = .ok (.iconst 0, 1) := by decide +kernel
theorem dX11_init_145 : decode cX11_init 145 = .ok (.putfield 90, 3) := by decide +kernel
theorem dX11_init_148 : decode cX11_init 148 = .ok (.aload_n 0, 1) := by decide +kernel
theorem dX11_init_149 : decode cX11_init 149 = .ok (.iconst (-1), 1) := by decide +kernel
theorem dX11_init_150 : decode cX11_init 150 = .ok (.putfield 93, 3) := by decide +kernel
theorem dX11_init_153 : decode cX11_init 153 = .ok (.aload_n 0, 1) := by decide +kernel
theorem dX11_init_154 : decode cX11_init 154 = .ok (.iconst 0, 1) := by decide +kernel
theorem dX11_init_155 : decode cX11_init 155 = .ok (.putfield 96, 3) := by decide +kernel
theorem dX11_init_158 : decode cX11_init 158 = .ok (.return_, 1) := by decide +kernel
def k_X3_init (Q : cS → Prop) (dp : Nat) (mc ms : Nat) (x0 : Nat) (S : cS) : Prop :=
(0 + 1 ≤ mc ∧ 0 + 5 ≤ ms) ∧ (∀ q1 : Nat, q1 ∉ cL S → ∀ S2 : cS, S2 = cNew S q1 9 → (∃ mc3 ms4 : Nat, 0 + 1 + mc3 ≤ mc ∧ 0 + 5 + ms4 ≤ ms ∧ (k_X9_init (fun S_5 => 
cA S_5 x0 3 ∧ (∀ S6 : cS, S6 = cSr S_5 96 x0 ((some q1)) → (∃ n7 : Nat, (nI 20) = nI n7 ∧ n7 < 2 ^ 20 ∧ 0 + 1 + mc3 + 1 ≤ mc ∧ 0 + 5 + ms4 + n7 ≤ ms ∧ (∀ q8 : Nat, q8 ∉ cL S6 → ∀ S9 : cS, S9 = cNewA S6 q8 15 n7 → cA S9 x0 3 ∧ (∀ S10 : cS, S10 = cSr S9 97 x0 ((some q8)) → cA S10 x0 3 ∧ (∀ S11 : cS, S11 = cSi S10 98 x0 ((nI 0)) → (∃ n12 : Nat, (nI 10) = nI n12 ∧ n12 < 2 ^ 20 ∧ 0 + 1 + mc3 + 1 + 1 ≤ mc ∧ 0 + 5 + ms4 + n7 + n12 ≤ ms ∧ (∀ q13 : Nat, q13 ∉ cL S11 → ∀ S14 : cS, S14 = cNewA S11 q13 15 n12 → cA S14 x0 3 ∧ (∀ S15 : cS, S15 = cSr S14 99 x0 ((some q13)) → cA S15 x0 3 ∧ (∀ S16 : cS, S16 = cSi S15 100 x0 ((nI 0)) → (∃ n17 : Nat, (nI 10) = nI n17 ∧ n17 < 2 ^ 20 ∧ 0 + 1 + mc3 + 1 + 1 + 1 ≤ mc ∧ 0 + 5 + ms4 + n7 + n12 + n17 ≤ ms ∧ (∀ q18 : Nat, q18 ∉ cL S16 → ∀ S19 : cS, S19 = cNewA S16 q18 15 n17 → cA S19 x0 3 ∧ (∀ S20 : cS, S20 = cSr S19 101 x0 ((some q18)) → (∃ n21 : Nat, (nI 10) = nI n21 ∧ n21 < 2 ^ 20 ∧ 0 + 1 + mc3 + 1 + 1 + 1 + 1 ≤ mc ∧ 0 + 5 + ms4 + n7 + n12 + n17 + n21 ≤ ms ∧ (∀ q22 : Nat, q22 ∉ cL S20 → ∀ S23 : cS, S23 = cNewA S20 q22 15 n21 → cA S23 x0 3 ∧ (∀ S24 : cS, S24 = cSr S23 102 x0 ((some q22)) → cA S24 x0 3 ∧ (∀ S25 : cS, S25 = cSi S24 103 x0 ((nI 0)) → cA S25 x0 3 ∧ (∀ S26 : cS, S26 = cSi S25 104 x0 ((bI false)) → (0 + 1 + mc3 + 1 + 1 + 1 + 1 ≤ mc ∧ 0 + 5 + ms4 + n7 + n12 + n17 + n21 ≤ ms) ∧ (Q S26))))))))))))))))))) dp mc3 ms4 q1 S2)))
set_option maxHeartbeats 1000000 in
set_option maxRecDepth 20000 in
theorem t_X3_init (l : Launch) (mc ms : Nat) (x0 : Nat) (S : cS) (dp : Nat) {P : cS → Prop} (h : k_X3_init P dp mc ms x0 S) : cMet (cQv P) l yX3_init cX3_init 1 none 2 mc ms 52 [.ref x0] S dp := by
  intro D Y tp sz
  refine cg_bodyI (by decide +kernel) (Nat.le_of_ble_eq_true rfl) ?_
  intro p e s m args below meth c C hin
  generalize va_A (cWd Y S) sz = A at C ⊢
  have C : cC p s m args meth c cX3_init 1 none A D Y tp dp RX3 := C
  refine cg_lv (lv' := [(0, .ref x0)]) rfl ?_
  unfold k_X3_init at h
  refine cg_aload_n C (i := 0) rfl 0 rfl dX3_init_0 ?_
  refine cg_objInit C co_X3_3 co_i co_c (by decide) (Nat.le_of_ble_eq_true rfl) dX3_init_1 ?_
  refine cg_aload_n C (i := 0) rfl 0 rfl dX3_init_4 ?_
  obtain ⟨hc_5, h⟩ := h
  refine cg_new C (k := 9) (N := 5) (fs := [.null, .int 0, .null, .null, .int 0]) (by decide) rfl cWs_wsX90 tyX9_ok cn_X3_9 ci_X9 ct_X9 (fun j_ hj_ => by rcases (show j_ = 0 ∨ j_ = 1 ∨ j_ = 2 ∨ j_ = 3 ∨ j_ = 4 by omega) with rfl | rfl | rfl | rfl | rfl <;> rfl) rfl hc_5.1 hc_5.2 dX3_init_5 (fun q1 hf_q1 => ?_)
  have h := h q1 hf_q1
  refine cg_nm (fun S2 e_S2 => ?_)
  have h := h S2 e_S2
  refine cg_dup C rfl dX3_init_8 ?_
  obtain ⟨mc3, ms4, hm_1, hm_2, h⟩ := h
  refine cg_callIN C (t_X9_init l mc3 ms4 q1 S2 dp h) czn_X3_11 rfl ⟨by decide, by decide⟩ ⟨hm_1, hm_2⟩ rfl (Nat.le_of_ble_eq_true rfl) dX3_init_9 (fun S_5 h => ?_)
  obtain ⟨hc_12, h⟩ := h
  refine cg_putr C (k := 3) (j := 0) (x := (some q1)) (ty := tyX3) (fty := tyX3 0) hc_12.1 hc_12.2 (by decide) rfl (by decide) rfl (by decide) rfl cWs_wsX30 tyX3_ok nmX3 cl_X3_12 rfl rfl rfl rfl rfl dX3_init_12 ?_
  refine cg_nm (fun S6 e_S6 => ?_)
  have h := h S6 e_S6
  refine cg_aload_n C (i := 0) rfl 0 rfl dX3_init_15 ?_
  refine cg_bipush C (x := nI 20) rfl dX3_init_16 ?_
  obtain ⟨n7, hn_1, hn_2, hn_3, hn_4, h⟩ := h
  refine cg_cast (.int (nI n7)) (congrArg Value.int hn_1) ?_
  refine cg_newJ C n7 hn_2 ca_long hn_3 hn_4 dX3_init_18 (fun q8 hf_q8 => ?_)
  have h := h q8 hf_q8
  refine cg_nm (fun S9 e_S9 => ?_)
  have h := h S9 e_S9
  obtain ⟨hc_20, h⟩ := h
  refine cg_putrF C (k := 3) (j := 1) (x := (some q8)) (ty := tyX3) (fty := tyX3 1) hc_20.1 hc_20.2 (by decide) rfl (by decide) rfl (by decide) rfl cWs_wsX30 tyX3_ok nmX3 cl_X3_18 rfl rfl hin rfl rfl rfl rfl dX3_init_20 ?_
  refine cg_nm (fun S10 e_S10 => ?_)
  have h := h S10 e_S10
  refine cg_aload_n C (i := 0) rfl 0 rfl dX3_init_23 ?_
  refine cg_iconst C (x := nI 0) rfl dX3_init_24 ?_
  obtain ⟨hc_25, h⟩ := h
  refine cg_puti C (k := 3) (j := 2) (ty := tyX3) (fty := .int) hc_25.1 hc_25.2 (by decide) rfl (by decide) rfl (by decide) rfl cWs_wsX30 tyX3_ok nmX3 cl_X3_22 rfl rfl rfl rfl rfl dX3_init_25 ?_
  refine cg_nm (fun S11 e_S11 => ?_)
  have h := h S11 e_S11
  refine cg_aload_n C (i := 0) rfl 0 rfl dX3_init_28 ?_
  refine cg_bipush C (x := nI 10) rfl dX3_init_29 ?_
  obtain ⟨n12, hn_1, hn_2, hn_3, hn_4, h⟩ := h
  refine cg_cast (.int (nI n12)) (congrArg Value.int hn_1) ?_
  refine cg_newJ C n12 hn_2 ca_long hn_3 hn_4 dX3_init_31 (fun q13 hf_q13 => ?_)
  have h := h q13 hf_q13
  refine cg_nm (fun S14 e_S14 => ?_)
  have h := h S14 e_S14
  obtain ⟨hc_33, h⟩ := h
  refine cg_putrF C (k := 3) (j := 3) (x := (some q13)) (ty := tyX3) (fty := tyX3 3) hc_33.1 hc_33.2 (by decide) rfl (by decide) rfl (by decide) rfl cWs_wsX30 tyX3_ok nmX3 cl_X3_26 rfl rfl hin rfl rfl rfl rfl dX3_init_33 ?_
  refine cg_nm (fun S15 e_S15 => ?_)
  have h := h S15 e_S15
  refine cg_aload_n C (i := 0) rfl 0 rfl dX3_init_36 ?_
  refine cg_iconst C (x := nI 0) rfl dX3_init_37 ?_
  obtain ⟨hc_38, h⟩ := h
  refine cg_puti C (k := 3) (j := 4) (ty := tyX3) (fty := .int) hc_38.1 hc_38.2 (by decide) rfl (by decide) rfl (by decide) rfl cWs_wsX30 tyX3_ok nmX3 cl_X3_29 rfl rfl rfl rfl rfl dX3_init_38 ?_
  refine cg_nm (fun S16 e_S16 => ?_)
  have h := h S16 e_S16
  refine cg_aload_n C (i := 0) rfl 0 rfl dX3_init_41 ?_
  refine cg_bipush C (x := nI 10) rfl dX3_init_42 ?_
  obtain ⟨n17, hn_1, hn_2, hn_3, hn_4, h⟩ := h
  refine cg_cast (.int (nI n17)) (congrArg Value.int hn_1) ?_
  refine cg_newJ C n17 hn_2 ca_long hn_3 hn_4 dX3_init_44 (fun q18 hf_q18 => ?_)
  have h := h q18 hf_q18
  refine cg_nm (fun S19 e_S19 => ?_)
  have h := h S19 e_S19
  obtain ⟨hc_46, h⟩ := h
  refine cg_putrF C (k := 3) (j := 5) (x := (some q18)) (ty := tyX3) (fty := tyX3 5) hc_46.1 hc_46.2 (by decide) rfl (by decide) rfl (by decide) rfl cWs_wsX30 tyX3_ok nmX3 cl_X3_32 rfl rfl hin rfl rfl rfl rfl dX3_init_46 ?_
  refine cg_nm (fun S20 e_S20 => ?_)
  have h := h S20 e_S20
  refine cg_aload_n C (i := 0) rfl 0 rfl dX3_init_49 ?_
  refine cg_bipush C (x := nI 10) rfl dX3_init_50 ?_
  obtain ⟨n21, hn_1, hn_2, hn_3, hn_4, h⟩ := h
  refine cg_cast (.int (nI n21)) (congrArg Value.int hn_1) ?_
  refine cg_newJ C n21 hn_2 ca_long hn_3 hn_4 dX3_init_52 (fun q22 hf_q22 => ?_)
  have h := h q22 hf_q22
  refine cg_nm (fun S23 e_S23 => ?_)
  have h := h S23 e_S23
  obtain ⟨hc_54, h⟩ := h
  refine cg_putrF C (k := 3) (j := 6) (x := (some q22)) (ty := tyX3) (fty := tyX3 6) hc_54.1 hc_54.2 (by decide) rfl (by decide) rfl (by decide) rfl cWs_wsX30 tyX3_ok nmX3 cl_X3_35 rfl rfl hin rfl rfl rfl rfl dX3_init_54 ?_
  refine cg_nm (fun S24 e_S24 => ?_)
  have h := h S24 e_S24
  refine cg_aload_n C (i := 0) rfl 0 rfl dX3_init_57 ?_
  refine cg_iconst C (x := nI 0) rfl dX3_init_58 ?_
  obtain ⟨hc_59, h⟩ := h
  refine cg_puti C (k := 3) (j := 7) (ty := tyX3) (fty := .int) hc_59.1 hc_59.2 (by decide) rfl (by decide) rfl (by decide) rfl cWs_wsX30 tyX3_ok nmX3 cl_X3_38 rfl rfl rfl rfl rfl dX3_init_59 ?_
  refine cg_nm (fun S25 e_S25 => ?_)
  have h := h S25 e_S25
  refine cg_aload_n C (i := 0) rfl 0 rfl dX3_init_62 ?_
  refine cg_iconst C (x := nI 0) rfl dX3_init_63 ?_
  obtain ⟨hc_64, h⟩ := h
  refine cg_cast (.int (bI false)) rfl ?_
  refine cg_puti C (k := 3) (j := 8) (ty := tyX3) (fty := .boolean) hc_64.1 hc_64.2 (by decide) rfl (by decide) rfl (by decide) rfl cWs_wsX30 tyX3_ok nmX3 cl_X3_41 rfl rfl rfl (bI_nar _) (bI_fit _) dX3_init_64 ?_
  refine cg_nm (fun S26 e_S26 => ?_)
  have h := h S26 e_S26
  obtain ⟨hb_67, h⟩ := h
  exact cg_vret C h dX3_init_67 hb_67.1 hb_67.2
def k_X7_init (Q : cS → Prop) (dp : Nat) (mc ms : Nat) (x0 : Nat) (S : cS) : Prop :=
(∃ n1 : Nat, (nI 2) = nI n1 ∧ n1 < 2 ^ 20 ∧ 0 + 1 ≤ mc ∧ 0 + n1 ≤ ms ∧ (∀ q2 : Nat, q2 ∉ cL S → ∀ S3 : cS, S3 = cNewA S q2 14 n1 → cX S3 q2 14 ((nI 0)) ∧ (∀ S4 : cS, S4 = cSI S3 q2 ((nI 0)).toNatClampNeg ((nI 3)) → cX S4 q2 14 ((nI 1)) ∧ (∀ S5 : cS, S5 = cSI S4 q2 ((nI 1)).toNatClampNeg ((nI 1)) → cA S5 x0 7 ∧ (∀ S6 : cS, S6 = cSr S5 224 x0 ((some q2)) → (0 + 1 + (1 + 24) ≤ mc ∧ 0 + n1 + (24 + 24 * 100) ≤ ms) ∧ (∀ (q7 : Nat) (ro_q7 : Nat → Nat), q7 ∉ cL S6 → (∀ i, i < 24 → ro_q7 i ∉ cL S6) → (∀ i, i < 24 → ro_q7 i ≠ q7) → (∀ i j, i < 24 → j < 24 → ro_q7 i = ro_q7 j → i = j) → ∀ S8 : cS, S8 = cNewM S6 q7 24 100 ro_q7 → cA S8 x0 7 ∧ (∀ S9 : cS, S9 = cSr S8 225 x0 ((some q7)) → (0 + 1 + (1 + 24) + (1 + 24) ≤ mc ∧ 0 + n1 + (24 + 24 * 100) + (24 + 24 * 100) ≤ ms) ∧ (∀ (q10 : Nat) (ro_q10 : Nat → Nat), q10 ∉ cL S9 → (∀ i, i < 24 → ro_q10 i ∉ cL S9) → (∀ i, i < 24 → ro_q10 i ≠ q10) → (∀ i j, i < 24 → j < 24 → ro_q10 i = ro_q10 j → i = j) → ∀ S11 : cS, S11 = cNewM S9 q10 24 100 ro_q10 → cA S11 x0 7 ∧ (∀ S12 : cS, S12 = cSr S11 226 x0 ((some q10)) → (0 + 1 + (1 + 24) + (1 + 24) + (1 + 6) ≤ mc ∧ 0 + n1 + (24 + 24 * 100) + (24 + 24 * 100) + (6 + 6 * 100) ≤ ms) ∧ (∀ (q13 : Nat) (ro_q13 : Nat → Nat), q13 ∉ cL S12 → (∀ i, i < 6 → ro_q13 i ∉ cL S12) → (∀ i, i < 6 → ro_q13 i ≠ q13) → (∀ i j, i < 6 → j < 6 → ro_q13 i = ro_q13 j → i = j) → ∀ S14 : cS, S14 = cNewM S12 q13 6 100 ro_q13 → cA S14 x0 7 ∧ (∀ S15 : cS, S15 = cSr S14 227 x0 ((some q13)) → (∃ n16 : Nat, (nI 6) = nI n16 ∧ n16 < 2 ^ 20 ∧ 0 + 1 + (1 + 24) + (1 + 24) + (1 + 6) + 1 ≤ mc ∧ 0 + n1 + (24 + 24 * 100) + (24 + 24 * 100) + (6 + 6 * 100) + n16 ≤ ms ∧ (∀ q17 : Nat, q17 ∉ cL S15 → ∀ S18 : cS, S18 = cNewA S15 q17 14 n16 → cA S18 x0 7 ∧ (∀ S19 : cS, S19 = cSr S18 228 x0 ((some q17)) → (∃ n20 : Nat, (nI 24) = nI n20 ∧ n20 < 2 ^ 20 ∧ 0 + 1 + (1 + 24) + (1 + 24) + (1 + 6) + 1 + 1 ≤ mc ∧ 0 + n1 + (24 + 24 * 100) + (24 + 24 * 100) + (6 + 6 * 100) + n16 + n20 ≤ ms ∧ (∀ q21 : Nat, q21 ∉ cL S19 → ∀ S22 : cS, S22 = cNewA S19 q21 14 n20 → cA S22 x0 7 ∧ (∀ S23 : cS, S23 = cSr S22 229 x0 ((some q21)) → (∃ n24 : Nat, (nI 24) = nI n24 ∧ n24 < 2 ^ 20 ∧ 0 + 1 + (1 + 24) + (1 + 24) + (1 + 6) + 1 + 1 + 1 ≤ mc ∧ 0 + n1 + (24 + 24 * 100) + (24 + 24 * 100) + (6 + 6 * 100) + n16 + n20 + n24 ≤ ms ∧ (∀ q25 : Nat, q25 ∉ cL S23 → ∀ S26 : cS, S26 = cNewA S23 q25 14 n24 → cA S26 x0 7 ∧ (∀ S27 : cS, S27 = cSr S26 230 x0 ((some q25)) → (0 + 1 + (1 + 24) + (1 + 24) + (1 + 6) + 1 + 1 + 1 ≤ mc ∧ 0 + n1 + (24 + 24 * 100) + (24 + 24 * 100) + (6 + 6 * 100) + n16 + n20 + n24 ≤ ms) ∧ (Q S27)))))))))))))))))))))
set_option maxHeartbeats 1000000 in
set_option maxRecDepth 20000 in
theorem t_X7_init (l : Launch) (mc ms : Nat) (x0 : Nat) (S : cS) (dp : Nat) {P : cS → Prop} (h : k_X7_init P dp mc ms x0 S) : cMet (cQv P) l yX7_init cX7_init 1 none 1 mc ms 32 [.ref x0] S dp := by
  intro D Y tp sz
  refine cg_bodyI (by decide +kernel) (Nat.le_of_ble_eq_true rfl) ?_
  intro p e s m args below meth c C hin
  generalize va_A (cWd Y S) sz = A at C ⊢
  have C : cC p s m args meth c cX7_init 1 none A D Y tp dp RX7 := C
  refine cg_lv (lv' := [(0, .ref x0)]) rfl ?_
  unfold k_X7_init at h
  refine cg_aload_n C (i := 0) rfl 0 rfl dX7_init_0 ?_
  refine cg_objInit C co_X7_3 co_i co_c (by decide) (Nat.le_of_ble_eq_true rfl) dX7_init_1 ?_
  refine cg_aload_n C (i := 0) rfl 0 rfl dX7_init_4 ?_
  refine cg_iconst C (x := nI 2) rfl dX7_init_5 ?_
  obtain ⟨n1, hn_1, hn_2, hn_3, hn_4, h⟩ := h
  refine cg_cast (.int (nI n1)) (congrArg Value.int hn_1) ?_
  refine cg_newI C n1 hn_2 ca_int hn_3 hn_4 dX7_init_6 (fun q2 hf_q2 => ?_)
  have h := h q2 hf_q2
  refine cg_nm (fun S3 e_S3 => ?_)
  have h := h S3 e_S3
  refine cg_dup C rfl dX7_init_8 ?_
  refine cg_iconst C (x := nI 0) rfl dX7_init_9 ?_
  refine cg_iconst C (x := nI 3) rfl dX7_init_10 ?_
  obtain ⟨hc_11, h⟩ := h
  refine cg_iastoreR C hc_11 dX7_init_11 ?_
  refine cg_nm (fun S4 e_S4 => ?_)
  have h := h S4 e_S4
  refine cg_dup C rfl dX7_init_12 ?_
  refine cg_iconst C (x := nI 1) rfl dX7_init_13 ?_
  refine cg_iconst C (x := nI 1) rfl dX7_init_14 ?_
  obtain ⟨hc_15, h⟩ := h
  refine cg_iastoreR C hc_15 dX7_init_15 ?_
  refine cg_nm (fun S5 e_S5 => ?_)
  have h := h S5 e_S5
  obtain ⟨hc_16, h⟩ := h
  refine cg_putrF C (k := 7) (j := 0) (x := (some q2)) (ty := tyX7) (fty := tyX7 0) hc_16.1 hc_16.2 (by decide) rfl (by decide) rfl (by decide) rfl cWs_wsX70 tyX7_ok nmX7 cl_X7_9 rfl rfl hin rfl rfl rfl rfl dX7_init_16 ?_
  refine cg_nm (fun S6 e_S6 => ?_)
  have h := h S6 e_S6
  refine cg_aload_n C (i := 0) rfl 0 rfl dX7_init_19 ?_
  refine cg_bipush C (x := nI 24) rfl dX7_init_20 ?_
  refine cg_bipush C (x := nI 100) rfl dX7_init_22 ?_
  obtain ⟨hc_24, h⟩ := h
  refine cg_mna C 24 100 (by decide) (by decide) cx_X7_15 ca_int hc_24.1 hc_24.2 dX7_init_24 (fun q7 ro_q7 hf_ hr_ hq_ hj_ => ?_)
  have h := h q7 ro_q7 hf_ hr_ hq_ hj_
  refine cg_nm (fun S8 e_S8 => ?_)
  have h := h S8 e_S8
  obtain ⟨hc_28, h⟩ := h
  refine cg_putrF C (k := 7) (j := 1) (x := (some q7)) (ty := tyX7) (fty := tyX7 1) hc_28.1 hc_28.2 (by decide) rfl (by decide) rfl (by decide) rfl cWs_wsX70 tyX7_ok nmX7 cl_X7_17 rfl rfl hin rfl rfl rfl rfl dX7_init_28 ?_
  refine cg_nm (fun S9 e_S9 => ?_)
  have h := h S9 e_S9
  refine cg_aload_n C (i := 0) rfl 0 rfl dX7_init_31 ?_
  refine cg_bipush C (x := nI 24) rfl dX7_init_32 ?_
  refine cg_bipush C (x := nI 100) rfl dX7_init_34 ?_
  obtain ⟨hc_36, h⟩ := h
  refine cg_mna C 24 100 (by decide) (by decide) cx_X7_15 ca_int hc_36.1 hc_36.2 dX7_init_36 (fun q10 ro_q10 hf_ hr_ hq_ hj_ => ?_)
  have h := h q10 ro_q10 hf_ hr_ hq_ hj_
  refine cg_nm (fun S11 e_S11 => ?_)
  have h := h S11 e_S11
  obtain ⟨hc_40, h⟩ := h
  refine cg_putrF C (k := 7) (j := 2) (x := (some q10)) (ty := tyX7) (fty := tyX7 2) hc_40.1 hc_40.2 (by decide) rfl (by decide) rfl (by decide) rfl cWs_wsX70 tyX7_ok nmX7 cl_X7_20 rfl rfl hin rfl rfl rfl rfl dX7_init_40 ?_
  refine cg_nm (fun S12 e_S12 => ?_)
  have h := h S12 e_S12
  refine cg_aload_n C (i := 0) rfl 0 rfl dX7_init_43 ?_
  refine cg_bipush C (x := nI 6) rfl dX7_init_44 ?_
  refine cg_bipush C (x := nI 100) rfl dX7_init_46 ?_
  obtain ⟨hc_48, h⟩ := h
  refine cg_mna C 6 100 (by decide) (by decide) cx_X7_15 ca_int hc_48.1 hc_48.2 dX7_init_48 (fun q13 ro_q13 hf_ hr_ hq_ hj_ => ?_)
  have h := h q13 ro_q13 hf_ hr_ hq_ hj_
  refine cg_nm (fun S14 e_S14 => ?_)
  have h := h S14 e_S14
  obtain ⟨hc_52, h⟩ := h
  refine cg_putrF C (k := 7) (j := 3) (x := (some q13)) (ty := tyX7) (fty := tyX7 3) hc_52.1 hc_52.2 (by decide) rfl (by decide) rfl (by decide) rfl cWs_wsX70 tyX7_ok nmX7 cl_X7_23 rfl rfl hin rfl rfl rfl rfl dX7_init_52 ?_
  refine cg_nm (fun S15 e_S15 => ?_)
  have h := h S15 e_S15
  refine cg_aload_n C (i := 0) rfl 0 rfl dX7_init_55 ?_
  refine cg_bipush C (x := nI 6) rfl dX7_init_56 ?_
  obtain ⟨n16, hn_1, hn_2, hn_3, hn_4, h⟩ := h
  refine cg_cast (.int (nI n16)) (congrArg Value.int hn_1) ?_
  refine cg_newI C n16 hn_2 ca_int hn_3 hn_4 dX7_init_58 (fun q17 hf_q17 => ?_)
  have h := h q17 hf_q17
  refine cg_nm (fun S18 e_S18 => ?_)
  have h := h S18 e_S18
  obtain ⟨hc_60, h⟩ := h
  refine cg_putrF C (k := 7) (j := 4) (x := (some q17)) (ty := tyX7) (fty := tyX7 4) hc_60.1 hc_60.2 (by decide) rfl (by decide) rfl (by decide) rfl cWs_wsX70 tyX7_ok nmX7 cl_X7_26 rfl rfl hin rfl rfl rfl rfl dX7_init_60 ?_
  refine cg_nm (fun S19 e_S19 => ?_)
  have h := h S19 e_S19
  refine cg_aload_n C (i := 0) rfl 0 rfl dX7_init_63 ?_
  refine cg_bipush C (x := nI 24) rfl dX7_init_64 ?_
  obtain ⟨n20, hn_1, hn_2, hn_3, hn_4, h⟩ := h
  refine cg_cast (.int (nI n20)) (congrArg Value.int hn_1) ?_
  refine cg_newI C n20 hn_2 ca_int hn_3 hn_4 dX7_init_66 (fun q21 hf_q21 => ?_)
  have h := h q21 hf_q21
  refine cg_nm (fun S22 e_S22 => ?_)
  have h := h S22 e_S22
  obtain ⟨hc_68, h⟩ := h
  refine cg_putrF C (k := 7) (j := 5) (x := (some q21)) (ty := tyX7) (fty := tyX7 5) hc_68.1 hc_68.2 (by decide) rfl (by decide) rfl (by decide) rfl cWs_wsX70 tyX7_ok nmX7 cl_X7_29 rfl rfl hin rfl rfl rfl rfl dX7_init_68 ?_
  refine cg_nm (fun S23 e_S23 => ?_)
  have h := h S23 e_S23
  refine cg_aload_n C (i := 0) rfl 0 rfl dX7_init_71 ?_
  refine cg_bipush C (x := nI 24) rfl dX7_init_72 ?_
  obtain ⟨n24, hn_1, hn_2, hn_3, hn_4, h⟩ := h
  refine cg_cast (.int (nI n24)) (congrArg Value.int hn_1) ?_
  refine cg_newI C n24 hn_2 ca_int hn_3 hn_4 dX7_init_74 (fun q25 hf_q25 => ?_)
  have h := h q25 hf_q25
  refine cg_nm (fun S26 e_S26 => ?_)
  have h := h S26 e_S26
  obtain ⟨hc_76, h⟩ := h
  refine cg_putrF C (k := 7) (j := 6) (x := (some q25)) (ty := tyX7) (fty := tyX7 6) hc_76.1 hc_76.2 (by decide) rfl (by decide) rfl (by decide) rfl cWs_wsX70 tyX7_ok nmX7 cl_X7_32 rfl rfl hin rfl rfl rfl rfl dX7_init_76 ?_
  refine cg_nm (fun S27 e_S27 => ?_)
  have h := h S27 e_S27
  obtain ⟨hb_79, h⟩ := h
  exact cg_vret C h dX7_init_79 hb_79.1 hb_79.2
def k_X1_init (Q : cS → Prop) (dp : Nat) (mc ms : Nat) (x0 : Nat) (x1 : Nat) (S : cS) : Prop :=
cA S x0 1 ∧ (∀ S1 : cS, S1 = cSi S 33 x0 ((nI 0)) → (∃ n2 : Nat, (nI 20) = nI n2 ∧ n2 < 2 ^ 20 ∧ 0 + 1 ≤ mc ∧ 0 + n2 ≤ ms ∧ (∀ q3 : Nat, q3 ∉ cL S1 → ∀ S4 : cS, S4 = cNewA S1 q3 14 n2 → cA S4 x0 1 ∧ (∀ S5 : cS, S5 = cSr S4 34 x0 ((some q3)) → (∃ n6 : Nat, (nI 20) = nI n6 ∧ n6 < 2 ^ 20 ∧ 0 + 1 + 1 ≤ mc ∧ 0 + n2 + n6 ≤ ms ∧ (∀ q7 : Nat, q7 ∉ cL S5 → ∀ S8 : cS, S8 = cNewA S5 q7 14 n6 → cA S8 x0 1 ∧ (∀ S9 : cS, S9 = cSr S8 35 x0 ((some q7)) → cA S9 x0 1 ∧ (∀ S10 : cS, S10 = cSi S9 36 x0 ((nI 0)) → cA S10 x0 1 ∧ (∀ S11 : cS, S11 = cSi S10 37 x0 ((nI 0)) → cA S11 x0 1 ∧ (∀ S12 : cS, S12 = cSi S11 38 x0 ((nI 0)) → cA S12 x0 1 ∧ (∀ S13 : cS, S13 = cSi S12 39 x0 ((nI 0)) → (∃ n14 : Nat, (nI 8) = nI n14 ∧ n14 < 2 ^ 20 ∧ 0 + 1 + 1 + 1 ≤ mc ∧ 0 + n2 + n6 + n14 ≤ ms ∧ (∀ q15 : Nat, q15 ∉ cL S13 → ∀ S16 : cS, S16 = cNewA S13 q15 14 n14 → cA S16 x0 1 ∧ (∀ S17 : cS, S17 = cSr S16 40 x0 ((some q15)) → (∃ n18 : Nat, (nI 8) = nI n18 ∧ n18 < 2 ^ 20 ∧ 0 + 1 + 1 + 1 + 1 ≤ mc ∧ 0 + n2 + n6 + n14 + n18 ≤ ms ∧ (∀ q19 : Nat, q19 ∉ cL S17 → ∀ S20 : cS, S20 = cNewA S17 q19 14 n18 → cA S20 x0 1 ∧ (∀ S21 : cS, S21 = cSr S20 41 x0 ((some q19)) → (∃ n22 : Nat, (nI 8) = nI n22 ∧ n22 < 2 ^ 20 ∧ 0 + 1 + 1 + 1 + 1 + 1 ≤ mc ∧ 0 + n2 + n6 + n14 + n18 + n22 ≤ ms ∧ (∀ q23 : Nat, q23 ∉ cL S21 → ∀ S24 : cS, S24 = cNewA S21 q23 14 n22 → cA S24 x0 1 ∧ (∀ S25 : cS, S25 = cSr S24 42 x0 ((some q23)) → (0 + 1 + 1 + 1 + 1 + 1 + (1 + 8) ≤ mc ∧ 0 + n2 + n6 + n14 + n18 + n22 + (8 + 8 * 100) ≤ ms) ∧ (∀ (q26 : Nat) (ro_q26 : Nat → Nat), q26 ∉ cL S25 → (∀ i, i < 8 → ro_q26 i ∉ cL S25) → (∀ i, i < 8 → ro_q26 i ≠ q26) → (∀ i j, i < 8 → j < 8 → ro_q26 i = ro_q26 j → i = j) → ∀ S27 : cS, S27 = cNewM S25 q26 8 100 ro_q26 → cA S27 x0 1 ∧ (∀ S28 : cS, S28 = cSr S27 43 x0 ((some q26)) → (∃ n29 : Nat, (nI 4) = nI n29 ∧ n29 < 2 ^ 20 ∧ 0 + 1 + 1 + 1 + 1 + 1 + (1 + 8) + 1 ≤ mc ∧ 0 + n2 + n6 + n14 + n18 + n22 + (8 + 8 * 100) + n29 ≤ ms ∧ (∀ q30 : Nat, q30 ∉ cL S28 → ∀ S31 : cS, S31 = cNewA S28 q30 14 n29 → cA S31 x0 1 ∧ (∀ S32 : cS, S32 = cSr S31 44 x0 ((some q30)) → (∃ n33 : Nat, (nI 24) = nI n33 ∧ n33 < 2 ^ 20 ∧ 0 + 1 + 1 + 1 + 1 + 1 + (1 + 8) + 1 + 1 ≤ mc ∧ 0 + n2 + n6 + n14 + n18 + n22 + (8 + 8 * 100) + n29 + n33 ≤ ms ∧ (∀ q34 : Nat, q34 ∉ cL S32 → ∀ S35 : cS, S35 = cNewA S32 q34 14 n33 → cA S35 x0 1 ∧ (∀ S36 : cS, S36 = cSr S35 45 x0 ((some q34)) → cA S36 x0 1 ∧ (∀ S37 : cS, S37 = cSr S36 32 x0 ((some x1)) → (0 + 1 + 1 + 1 + 1 + 1 + (1 + 8) + 1 + 1 ≤ mc ∧ 0 + n2 + n6 + n14 + n18 + n22 + (8 + 8 * 100) + n29 + n33 ≤ ms) ∧ (Q S37))))))))))))))))))))))))))))))
set_option maxHeartbeats 1000000 in
set_option maxRecDepth 20000 in
theorem t_X1_init (l : Launch) (mc ms : Nat) (x0 : Nat) (x1 : Nat) (S : cS) (dp : Nat) {P : cS → Prop} (h : k_X1_init P dp mc ms x0 x1 S) : cMet (cQv P) l yX1_init cX1_init 2 none 1 mc ms 32 [.ref x0, .ref x1] S dp := by
  intro D Y tp sz
  refine cg_bodyI (by decide +kernel) (Nat.le_of_ble_eq_true rfl) ?_
  intro p e s m args below meth c C hin
  generalize va_A (cWd Y S) sz = A at C ⊢
  have C : cC p s m args meth c cX1_init 2 none A D Y tp dp RX1 := C
  refine cg_lv (lv' := [(0, .ref x0), (1, .ref x1)]) rfl ?_
  unfold k_X1_init at h
  refine cg_aload_n C (i := 0) rfl 0 rfl dX1_init_0 ?_
  refine cg_objInit C co_X1_3 co_i co_c (by decide) (Nat.le_of_ble_eq_true rfl) dX1_init_1 ?_
  refine cg_aload_n C (i := 0) rfl 0 rfl dX1_init_4 ?_
  refine cg_iconst C (x := nI 0) rfl dX1_init_5 ?_
  obtain ⟨hc_6, h⟩ := h
  refine cg_puti C (k := 1) (j := 1) (ty := tyX1) (fty := .int) hc_6.1 hc_6.2 (by decide) rfl (by decide) rfl (by decide) rfl cWs_wsX10 tyX1_ok nmX1 cl_X1_9 rfl rfl rfl rfl rfl dX1_init_6 ?_
  refine cg_nm (fun S1 e_S1 => ?_)
  have h := h S1 e_S1
  refine cg_aload_n C (i := 0) rfl 0 rfl dX1_init_9 ?_
  refine cg_bipush C (x := nI 20) rfl dX1_init_10 ?_
  obtain ⟨n2, hn_1, hn_2, hn_3, hn_4, h⟩ := h
  refine cg_cast (.int (nI n2)) (congrArg Value.int hn_1) ?_
  refine cg_newI C n2 hn_2 ca_int hn_3 hn_4 dX1_init_12 (fun q3 hf_q3 => ?_)
  have h := h q3 hf_q3
  refine cg_nm (fun S4 e_S4 => ?_)
  have h := h S4 e_S4
  obtain ⟨hc_14, h⟩ := h
  refine cg_putrF C (k := 1) (j := 2) (x := (some q3)) (ty := tyX1) (fty := tyX1 2) hc_14.1 hc_14.2 (by decide) rfl (by decide) rfl (by decide) rfl cWs_wsX10 tyX1_ok nmX1 cl_X1_15 rfl rfl hin rfl rfl rfl rfl dX1_init_14 ?_
  refine cg_nm (fun S5 e_S5 => ?_)
  have h := h S5 e_S5
  refine cg_aload_n C (i := 0) rfl 0 rfl dX1_init_17 ?_
  refine cg_bipush C (x := nI 20) rfl dX1_init_18 ?_
  obtain ⟨n6, hn_1, hn_2, hn_3, hn_4, h⟩ := h
  refine cg_cast (.int (nI n6)) (congrArg Value.int hn_1) ?_
  refine cg_newI C n6 hn_2 ca_int hn_3 hn_4 dX1_init_20 (fun q7 hf_q7 => ?_)
  have h := h q7 hf_q7
  refine cg_nm (fun S8 e_S8 => ?_)
  have h := h S8 e_S8
  obtain ⟨hc_22, h⟩ := h
  refine cg_putrF C (k := 1) (j := 3) (x := (some q7)) (ty := tyX1) (fty := tyX1 3) hc_22.1 hc_22.2 (by decide) rfl (by decide) rfl (by decide) rfl cWs_wsX10 tyX1_ok nmX1 cl_X1_19 rfl rfl hin rfl rfl rfl rfl dX1_init_22 ?_
  refine cg_nm (fun S9 e_S9 => ?_)
  have h := h S9 e_S9
  refine cg_aload_n C (i := 0) rfl 0 rfl dX1_init_25 ?_
  refine cg_iconst C (x := nI 0) rfl dX1_init_26 ?_
  obtain ⟨hc_27, h⟩ := h
  refine cg_puti C (k := 1) (j := 4) (ty := tyX1) (fty := .int) hc_27.1 hc_27.2 (by decide) rfl (by decide) rfl (by decide) rfl cWs_wsX10 tyX1_ok nmX1 cl_X1_22 rfl rfl rfl rfl rfl dX1_init_27 ?_
  refine cg_nm (fun S10 e_S10 => ?_)
  have h := h S10 e_S10
  refine cg_aload_n C (i := 0) rfl 0 rfl dX1_init_30 ?_
  refine cg_iconst C (x := nI 0) rfl dX1_init_31 ?_
  obtain ⟨hc_32, h⟩ := h
  refine cg_puti C (k := 1) (j := 5) (ty := tyX1) (fty := .int) hc_32.1 hc_32.2 (by decide) rfl (by decide) rfl (by decide) rfl cWs_wsX10 tyX1_ok nmX1 cl_X1_25 rfl rfl rfl rfl rfl dX1_init_32 ?_
  refine cg_nm (fun S11 e_S11 => ?_)
  have h := h S11 e_S11
  refine cg_aload_n C (i := 0) rfl 0 rfl dX1_init_35 ?_
  refine cg_iconst C (x := nI 0) rfl dX1_init_36 ?_
  obtain ⟨hc_37, h⟩ := h
  refine cg_puti C (k := 1) (j := 6) (ty := tyX1) (fty := .int) hc_37.1 hc_37.2 (by decide) rfl (by decide) rfl (by decide) rfl cWs_wsX10 tyX1_ok nmX1 cl_X1_28 rfl rfl rfl rfl rfl dX1_init_37 ?_
  refine cg_nm (fun S12 e_S12 => ?_)
  have h := h S12 e_S12
  refine cg_aload_n C (i := 0) rfl 0 rfl dX1_init_40 ?_
  refine cg_iconst C (x := nI 0) rfl dX1_init_41 ?_
  obtain ⟨hc_42, h⟩ := h
  refine cg_puti C (k := 1) (j := 7) (ty := tyX1) (fty := .int) hc_42.1 hc_42.2 (by decide) rfl (by decide) rfl (by decide) rfl cWs_wsX10 tyX1_ok nmX1 cl_X1_31 rfl rfl rfl rfl rfl dX1_init_42 ?_
  refine cg_nm (fun S13 e_S13 => ?_)
  have h := h S13 e_S13
  refine cg_aload_n C (i := 0) rfl 0 rfl dX1_init_45 ?_
  refine cg_bipush C (x := nI 8) rfl dX1_init_46 ?_
  obtain ⟨n14, hn_1, hn_2, hn_3, hn_4, h⟩ := h
  refine cg_cast (.int (nI n14)) (congrArg Value.int hn_1) ?_
  refine cg_newI C n14 hn_2 ca_int hn_3 hn_4 dX1_init_48 (fun q15 hf_q15 => ?_)
  have h := h q15 hf_q15
  refine cg_nm (fun S16 e_S16 => ?_)
  have h := h S16 e_S16
  obtain ⟨hc_50, h⟩ := h
  refine cg_putrF C (k := 1) (j := 8) (x := (some q15)) (ty := tyX1) (fty := tyX1 8) hc_50.1 hc_50.2 (by decide) rfl (by decide) rfl (by decide) rfl cWs_wsX10 tyX1_ok nmX1 cl_X1_34 rfl rfl hin rfl rfl rfl rfl dX1_init_50 ?_
  refine cg_nm (fun S17 e_S17 => ?_)
  have h := h S17 e_S17
  refine cg_aload_n C (i := 0) rfl 0 rfl dX1_init_53 ?_
  refine cg_bipush C (x := nI 8) rfl dX1_init_54 ?_
  obtain ⟨n18, hn_1, hn_2, hn_3, hn_4, h⟩ := h
  refine cg_cast (.int (nI n18)) (congrArg Value.int hn_1) ?_
  refine cg_newI C n18 hn_2 ca_int hn_3 hn_4 dX1_init_56 (fun q19 hf_q19 => ?_)
  have h := h q19 hf_q19
  refine cg_nm (fun S20 e_S20 => ?_)
  have h := h S20 e_S20
  obtain ⟨hc_58, h⟩ := h
  refine cg_putrF C (k := 1) (j := 9) (x := (some q19)) (ty := tyX1) (fty := tyX1 9) hc_58.1 hc_58.2 (by decide) rfl (by decide) rfl (by decide) rfl cWs_wsX10 tyX1_ok nmX1 cl_X1_37 rfl rfl hin rfl rfl rfl rfl dX1_init_58 ?_
  refine cg_nm (fun S21 e_S21 => ?_)
  have h := h S21 e_S21
  refine cg_aload_n C (i := 0) rfl 0 rfl dX1_init_61 ?_
  refine cg_bipush C (x := nI 8) rfl dX1_init_62 ?_
  obtain ⟨n22, hn_1, hn_2, hn_3, hn_4, h⟩ := h
  refine cg_cast (.int (nI n22)) (congrArg Value.int hn_1) ?_
  refine cg_newI C n22 hn_2 ca_int hn_3 hn_4 dX1_init_64 (fun q23 hf_q23 => ?_)
  have h := h q23 hf_q23
  refine cg_nm (fun S24 e_S24 => ?_)
  have h := h S24 e_S24
  obtain ⟨hc_66, h⟩ := h
  refine cg_putrF C (k := 1) (j := 10) (x := (some q23)) (ty := tyX1) (fty := tyX1 10) hc_66.1 hc_66.2 (by decide) rfl (by decide) rfl (by decide) rfl cWs_wsX10 tyX1_ok nmX1 cl_X1_40 rfl rfl hin rfl rfl rfl rfl dX1_init_66 ?_
  refine cg_nm (fun S25 e_S25 => ?_)
  have h := h S25 e_S25
  refine cg_aload_n C (i := 0) rfl 0 rfl dX1_init_69 ?_
  refine cg_bipush C (x := nI 8) rfl dX1_init_70 ?_
  refine cg_bipush C (x := nI 100) rfl dX1_init_72 ?_
  obtain ⟨hc_74, h⟩ := h
  refine cg_mna C 8 100 (by decide) (by decide) cx_X1_43 ca_int hc_74.1 hc_74.2 dX1_init_74 (fun q26 ro_q26 hf_ hr_ hq_ hj_ => ?_)
  have h := h q26 ro_q26 hf_ hr_ hq_ hj_
  refine cg_nm (fun S27 e_S27 => ?_)
  have h := h S27 e_S27
  obtain ⟨hc_78, h⟩ := h
  refine cg_putrF C (k := 1) (j := 11) (x := (some q26)) (ty := tyX1) (fty := tyX1 11) hc_78.1 hc_78.2 (by decide) rfl (by decide) rfl (by decide) rfl cWs_wsX10 tyX1_ok nmX1 cl_X1_45 rfl rfl hin rfl rfl rfl rfl dX1_init_78 ?_
  refine cg_nm (fun S28 e_S28 => ?_)
  have h := h S28 e_S28
  refine cg_aload_n C (i := 0) rfl 0 rfl dX1_init_81 ?_
  refine cg_iconst C (x := nI 4) rfl dX1_init_82 ?_
  obtain ⟨n29, hn_1, hn_2, hn_3, hn_4, h⟩ := h
  refine cg_cast (.int (nI n29)) (congrArg Value.int hn_1) ?_
  refine cg_newI C n29 hn_2 ca_int hn_3 hn_4 dX1_init_83 (fun q30 hf_q30 => ?_)
  have h := h q30 hf_q30
  refine cg_nm (fun S31 e_S31 => ?_)
  have h := h S31 e_S31
  obtain ⟨hc_85, h⟩ := h
  refine cg_putrF C (k := 1) (j := 12) (x := (some q30)) (ty := tyX1) (fty := tyX1 12) hc_85.1 hc_85.2 (by decide) rfl (by decide) rfl (by decide) rfl cWs_wsX10 tyX1_ok nmX1 cl_X1_48 rfl rfl hin rfl rfl rfl rfl dX1_init_85 ?_
  refine cg_nm (fun S32 e_S32 => ?_)
  have h := h S32 e_S32
  refine cg_aload_n C (i := 0) rfl 0 rfl dX1_init_88 ?_
  refine cg_bipush C (x := nI 24) rfl dX1_init_89 ?_
  obtain ⟨n33, hn_1, hn_2, hn_3, hn_4, h⟩ := h
  refine cg_cast (.int (nI n33)) (congrArg Value.int hn_1) ?_
  refine cg_newI C n33 hn_2 ca_int hn_3 hn_4 dX1_init_91 (fun q34 hf_q34 => ?_)
  have h := h q34 hf_q34
  refine cg_nm (fun S35 e_S35 => ?_)
  have h := h S35 e_S35
  obtain ⟨hc_93, h⟩ := h
  refine cg_putrF C (k := 1) (j := 13) (x := (some q34)) (ty := tyX1) (fty := tyX1 13) hc_93.1 hc_93.2 (by decide) rfl (by decide) rfl (by decide) rfl cWs_wsX10 tyX1_ok nmX1 cl_X1_51 rfl rfl hin rfl rfl rfl rfl dX1_init_93 ?_
  refine cg_nm (fun S36 e_S36 => ?_)
  have h := h S36 e_S36
  refine cg_aload_n C (i := 0) rfl 0 rfl dX1_init_96 ?_
  refine cg_aload_n C (i := 1) rfl 1 rfl dX1_init_97 ?_
  obtain ⟨hc_98, h⟩ := h
  refine cg_putrF C (k := 1) (j := 0) (x := (some x1)) (ty := tyX1) (fty := tyX1 0) hc_98.1 hc_98.2 (by decide) rfl (by decide) rfl (by decide) rfl cWs_wsX10 tyX1_ok nmX1 cl_X1_54 rfl rfl hin rfl rfl rfl rfl dX1_init_98 ?_
  refine cg_nm (fun S37 e_S37 => ?_)
  have h := h S37 e_S37
  obtain ⟨hb_101, h⟩ := h
  exact cg_vret C h dX1_init_101 hb_101.1 hb_101.2
def k_X11_init (Q : cS → Prop) (dp : Nat) (mc ms : Nat) (x0 : Nat) (S : cS) : Prop :=
(0 + 1 ≤ mc ∧ 0 + 9 ≤ ms) ∧ (∀ q1 : Nat, q1 ∉ cL S → ∀ S2 : cS, S2 = cNew S q1 3 → (∃ mc3 ms4 : Nat, 0 + 1 + mc3 ≤ mc ∧ 0 + 9 + ms4 ≤ ms ∧ (k_X3_init (fun S_5 => 
cA S_5 x0 11 ∧ (∀ S6 : cS, S6 = cSr S_5 352 x0 ((some q1)) → (0 + 1 + mc3 + 1 ≤ mc ∧ 0 + 9 + ms4 + 5 ≤ ms) ∧ (∀ q7 : Nat, q7 ∉ cL S6 → ∀ S8 : cS, S8 = cNew S6 q7 0 → (∃ mc9 ms10 : Nat, 0 + 1 + mc3 + 1 + mc9 ≤ mc ∧ 0 + 9 + ms4 + 5 + ms10 ≤ ms ∧ (k_X0_init (fun S_11 => 
cA S_11 x0 11 ∧ (∀ S12 : cS, S12 = cSr S_11 353 x0 ((some q7)) → (0 + 1 + mc3 + 1 + mc9 + 1 ≤ mc ∧ 0 + 9 + ms4 + 5 + ms10 + 3 ≤ ms) ∧ (∀ q13 : Nat, q13 ∉ cL S12 → ∀ S14 : cS, S14 = cNew S12 q13 12 → (0 + 1 + mc3 + 1 + mc9 + 1 ≤ mc ∧ 0 + 9 + ms4 + 5 + ms10 + 3 ≤ ms) ∧ (k_Jx4a65c_init_da8c8 (fun S_15 => 
cA S_15 x0 11 ∧ (∀ S16 : cS, S16 = cSr S_15 354 x0 ((some q13)) → (0 + 1 + mc3 + 1 + mc9 + 1 + 1 ≤ mc ∧ 0 + 9 + ms4 + 5 + ms10 + 3 + 2 ≤ ms) ∧ (∀ q17 : Nat, q17 ∉ cL S16 → ∀ S18 : cS, S18 = cNew S16 q17 10 → (∃ mc19 ms20 : Nat, 0 + 1 + mc3 + 1 + mc9 + 1 + 1 + mc19 ≤ mc ∧ 0 + 9 + ms4 + 5 + ms10 + 3 + 2 + ms20 ≤ ms ∧ (k_X10_init (fun S_21 => 
cA S_21 x0 11 ∧ (∀ S22 : cS, S22 = cSr S_21 355 x0 ((some q17)) → cA S22 x0 11 ∧ (∀ S23 : cS, S23 = cSr S22 356 x0 none → cA S23 x0 11 ∧ (∀ S24 : cS, S24 = cSi S23 357 x0 ((nI 0)) → cA S24 x0 11 ∧ (∀ S25 : cS, S25 = cSr S24 358 x0 none → cA S25 x0 11 ∧ (∀ S26 : cS, S26 = cSr S25 359 x0 none → (0 + 1 + mc3 + 1 + mc9 + 1 + 1 + mc19 + 1 ≤ mc ∧ 0 + 9 + ms4 + 5 + ms10 + 3 + 2 + ms20 + 3 ≤ ms) ∧ (∀ q27 : Nat, q27 ∉ cL S26 → ∀ S28 : cS, S28 = cNew S26 q27 12 → (0 + 1 + mc3 + 1 + mc9 + 1 + 1 + mc19 + 1 ≤ mc ∧ 0 + 9 + ms4 + 5 + ms10 + 3 + 2 + ms20 + 3 ≤ ms) ∧ (k_Jx4a65c_init_da8c8 (fun S_29 => 
cA S_29 x0 11 ∧ (∀ S30 : cS, S30 = cSr S_29 360 x0 ((some q27)) → cA S30 x0 11 ∧ (∀ S31 : cS, S31 = cSi S30 361 x0 ((nI 0)) → (0 + 1 + mc3 + 1 + mc9 + 1 + 1 + mc19 + 1 + 1 ≤ mc ∧ 0 + 9 + ms4 + 5 + ms10 + 3 + 2 + ms20 + 3 + 5 ≤ ms) ∧ (∀ q32 : Nat, q32 ∉ cL S31 → ∀ S33 : cS, S33 = cNew S31 q32 6 → (∃ mc34 ms35 : Nat, 0 + 1 + mc3 + 1 + mc9 + 1 + 1 + mc19 + 1 + 1 + mc34 ≤ mc ∧ 0 + 9 + ms4 + 5 + ms10 + 3 + 2 + ms20 + 3 + 5 + ms35 ≤ ms ∧ (k_X6_init (fun S_36 => 
cA S_36 x0 11 ∧ (∀ S37 : cS, S37 = cSr S_36 362 x0 ((some q32)) → (0 + 1 + mc3 + 1 + mc9 + 1 + 1 + mc19 + 1 + 1 + mc34 + 1 ≤ mc ∧ 0 + 9 + ms4 + 5 + ms10 + 3 + 2 + ms20 + 3 + 5 + ms35 + 3 ≤ ms) ∧ (∀ q38 : Nat, q38 ∉ cL S37 → ∀ S39 : cS, S39 = cNew S37 q38 12 → (0 + 1 + mc3 + 1 + mc9 + 1 + 1 + mc19 + 1 + 1 + mc34 + 1 ≤ mc ∧ 0 + 9 + ms4 + 5 + ms10 + 3 + 2 + ms20 + 3 + 5 + ms35 + 3 ≤ ms) ∧ (k_Jx4a65c_init_da8c8 (fun S_40 => 
cA S_40 x0 11 ∧ (∀ S41 : cS, S41 = cSr S_40 363 x0 ((some q38)) → (0 + 1 + mc3 + 1 + mc9 + 1 + 1 + mc19 + 1 + 1 + mc34 + 1 + 1 ≤ mc ∧ 0 + 9 + ms4 + 5 + ms10 + 3 + 2 + ms20 + 3 + 5 + ms35 + 3 + 7 ≤ ms) ∧ (∀ q42 : Nat, q42 ∉ cL S41 → ∀ S43 : cS, S43 = cNew S41 q42 7 → (∃ mc44 ms45 : Nat, 0 + 1 + mc3 + 1 + mc9 + 1 + 1 + mc19 + 1 + 1 + mc34 + 1 + 1 + mc44 ≤ mc ∧ 0 + 9 + ms4 + 5 + ms10 + 3 + 2 + ms20 + 3 + 5 + ms35 + 3 + 7 + ms45 ≤ ms ∧ (k_X7_init (fun S_46 => 
cA S_46 x0 11 ∧ (∀ S47 : cS, S47 = cSr S_46 364 x0 ((some q42)) → (0 + 1 + mc3 + 1 + mc9 + 1 + 1 + mc19 + 1 + 1 + mc34 + 1 + 1 + mc44 + 1 ≤ mc ∧ 0 + 9 + ms4 + 5 + ms10 + 3 + 2 + ms20 + 3 + 5 + ms35 + 3 + 7 + ms45 + 14 ≤ ms) ∧ (∀ q48 : Nat, q48 ∉ cL S47 → ∀ S49 : cS, S49 = cNew S47 q48 1 → cA S49 x0 11 ∧ ((∃ b50 : Nat, cr S49 364 x0 = some b50 ∧ ((∃ mc51 ms52 : Nat, 0 + 1 + mc3 + 1 + mc9 + 1 + 1 + mc19 + 1 + 1 + mc34 + 1 + 1 + mc44 + 1 + mc51 ≤ mc ∧ 0 + 9 + ms4 + 5 + ms10 + 3 + 2 + ms20 + 3 + 5 + ms35 + 3 + 7 + ms45 + 14 + ms52 ≤ ms ∧ (k_X1_init (fun S_53 => 
cA S_53 x0 11 ∧ (∀ S54 : cS, S54 = cSr S_53 365 x0 ((some q48)) → cA S54 x0 11 ∧ (∀ S55 : cS, S55 = cSi S54 366 x0 ((nI 0)) → cA S55 x0 11 ∧ (∀ S56 : cS, S56 = cSi S55 367 x0 ((nI 0)) → cA S56 x0 11 ∧ (∀ S57 : cS, S57 = cSi S56 368 x0 ((nI 0)) → cA S57 x0 11 ∧ (∀ S58 : cS, S58 = cSi S57 369 x0 (((-1))) → cA S58 x0 11 ∧ (∀ S59 : cS, S59 = cSi S58 370 x0 ((bI false)) → (0 + 1 + mc3 + 1 + mc9 + 1 + 1 + mc19 + 1 + 1 + mc34 + 1 + 1 + mc44 + 1 + mc51 ≤ mc ∧ 0 + 9 + ms4 + 5 + ms10 + 3 + 2 + ms20 + 3 + 5 + ms35 + 3 + 7 + ms45 + 14 + ms52 ≤ ms) ∧ (Q S59)))))))) dp mc51 ms52 q48 b50 S49)))))))) dp mc44 ms45 q42 S43))))) dp q38 S39)))) dp mc34 ms35 q32 S33)))))) dp q27 S28)))))))) dp mc19 ms20 q17 (((-1))) S18))))) dp q13 S14)))) dp mc9 ms10 q7 S8))))) dp mc3 ms4 q1 S2)))
set_option maxHeartbeats 1000000 in
set_option maxRecDepth 20000 in
theorem t_X11_init (l : Launch) (mc ms : Nat) (x0 : Nat) (S : cS) (dp : Nat) {P : cS → Prop} (h : k_X11_init P dp mc ms x0 S) : cMet (cQv P) l yX11_init cX11_init 1 none 5 mc ms 113 [.ref x0] S dp := by
  intro D Y tp sz
  refine cg_bodyI (by decide +kernel) (Nat.le_of_ble_eq_true rfl) ?_
  intro p e s m args below meth c C hin
  generalize va_A (cWd Y S) sz = A at C ⊢
  have C : cC p s m args meth c cX11_init 1 none A D Y tp dp RX11 := C
  refine cg_lv (lv' := [(0, .ref x0)]) rfl ?_
  unfold k_X11_init at h
  refine cg_aload_n C (i := 0) rfl 0 rfl dX11_init_0 ?_
  refine cg_objInit C co_X11_1 co_i co_c (by decide) (Nat.le_of_ble_eq_true rfl) dX11_init_1 ?_
  refine cg_aload_n C (i := 0) rfl 0 rfl dX11_init_4 ?_
  obtain ⟨hc_5, h⟩ := h
  refine cg_new C (k := 3) (N := 9) (fs := [.null, .null, .int 0, .null, .int 0, .null, .null, .int 0, .int 0]) (by decide) rfl cWs_wsX30 tyX3_ok cn_X11_7 ci_X3 ct_X3 (fun j_ hj_ => by rcases (show j_ = 0 ∨ j_ = 1 ∨ j_ = 2 ∨ j_ = 3 ∨ j_ = 4 ∨ j_ = 5 ∨ j_ = 6 ∨ j_ = 7 ∨ j_ = 8 by omega) with rfl | rfl | rfl | rfl | rfl | rfl | rfl | rfl | rfl <;> rfl) rfl hc_5.1 hc_5.2 dX11_init_5 (fun q1 hf_q1 => ?_)
  have h := h q1 hf_q1
  refine cg_nm (fun S2 e_S2 => ?_)
  have h := h S2 e_S2
  refine cg_dup C rfl dX11_init_8 ?_
  obtain ⟨mc3, ms4, hm_1, hm_2, h⟩ := h
  refine cg_callIN C (t_X3_init l mc3 ms4 q1 S2 dp h) czn_X11_9 rfl ⟨by decide, by decide⟩ ⟨hm_1, hm_2⟩ rfl (Nat.le_of_ble_eq_true rfl) dX11_init_9 (fun S_5 h => ?_)
  obtain ⟨hc_12, h⟩ := h
  refine cg_putrF C (k := 11) (j := 0) (x := (some q1)) (ty := tyX11) (fty := tyX11 0) hc_12.1 hc_12.2 (by decide) rfl (by decide) rfl (by decide) rfl cWs_wsX110 tyX11_ok nmX11 cl_X11_10 rfl rfl hin rfl rfl rfl rfl dX11_init_12 ?_
  refine cg_nm (fun S6 e_S6 => ?_)
  have h := h S6 e_S6
  refine cg_aload_n C (i := 0) rfl 0 rfl dX11_init_15 ?_
  obtain ⟨hc_16, h⟩ := h
  refine cg_new C (k := 0) (N := 5) (fs := [.int 0, .int 0, .int 0, .null, .null]) (by decide) rfl cWs_wsX00 tyX0_ok cn_X11_16 ci_X0 ct_X0 (fun j_ hj_ => by rcases (show j_ = 0 ∨ j_ = 1 ∨ j_ = 2 ∨ j_ = 3 ∨ j_ = 4 by omega) with rfl | rfl | rfl | rfl | rfl <;> rfl) rfl hc_16.1 hc_16.2 dX11_init_16 (fun q7 hf_q7 => ?_)
  have h := h q7 hf_q7
  refine cg_nm (fun S8 e_S8 => ?_)
  have h := h S8 e_S8
  refine cg_dup C rfl dX11_init_19 ?_
  obtain ⟨mc9, ms10, hm_1, hm_2, h⟩ := h
  refine cg_callIN C (t_X0_init l mc9 ms10 q7 S8 dp h) czn_X11_18 rfl ⟨by decide, by decide⟩ ⟨hm_1, hm_2⟩ rfl (Nat.le_of_ble_eq_true rfl) dX11_init_20 (fun S_11 h => ?_)
  obtain ⟨hc_23, h⟩ := h
  refine cg_putr C (k := 11) (j := 1) (x := (some q7)) (ty := tyX11) (fty := tyX11 1) hc_23.1 hc_23.2 (by decide) rfl (by decide) rfl (by decide) rfl cWs_wsX110 tyX11_ok nmX11 cl_X11_19 rfl rfl rfl rfl rfl dX11_init_23 ?_
  refine cg_nm (fun S12 e_S12 => ?_)
  have h := h S12 e_S12
  refine cg_aload_n C (i := 0) rfl 0 rfl dX11_init_26 ?_
  obtain ⟨hc_27, h⟩ := h
  refine cg_new C (k := 12) (N := 3) (fs := [.int 0, .null, .int 0]) (by decide) rfl cWs_wsJx4a65c0 tyJx4a65c_ok cn_X11_23 ci_Jx4a65c ct_Jx4a65c (fun j_ hj_ => by rcases (show j_ = 0 ∨ j_ = 1 ∨ j_ = 2 by omega) with rfl | rfl | rfl <;> rfl) rfl hc_27.1 hc_27.2 dX11_init_27 (fun q13 hf_q13 => ?_)
  have h := h q13 hf_q13
  refine cg_nm (fun S14 e_S14 => ?_)
  have h := h S14 e_S14
  refine cg_dup C rfl dX11_init_30 ?_
  obtain ⟨hb_31, h⟩ := h
  refine cg_callI C (t_Jx4a65c_init_da8c8 l q13 S14 dp h) cz_X11_25 rfl ⟨by decide, by decide⟩ hb_31 rfl (Nat.le_of_ble_eq_true rfl) dX11_init_31 (fun S_15 h => ?_)
  simp only [Nat.add_zero]
  obtain ⟨hc_34, h⟩ := h
  refine cg_putrF C (k := 11) (j := 2) (x := (some q13)) (ty := tyX11) (fty := tyX11 2) hc_34.1 hc_34.2 (by decide) rfl (by decide) rfl (by decide) rfl cWs_wsX110 tyX11_ok nmX11 cl_X11_26 rfl rfl hin rfl rfl rfl rfl dX11_init_34 ?_
  refine cg_nm (fun S16 e_S16 => ?_)
  have h := h S16 e_S16
  refine cg_aload_n C (i := 0) rfl 0 rfl dX11_init_37 ?_
  obtain ⟨hc_38, h⟩ := h
  refine cg_new C (k := 10) (N := 2) (fs := [.int 0, .null]) (by decide) rfl cWs_wsX100 tyX10_ok cn_X11_30 ci_X10 ct_X10 (fun j_ hj_ => by rcases (show j_ = 0 ∨ j_ = 1 by omega) with rfl | rfl <;> rfl) rfl hc_38.1 hc_38.2 dX11_init_38 (fun q17 hf_q17 => ?_)
  have h := h q17 hf_q17
  refine cg_nm (fun S18 e_S18 => ?_)
  have h := h S18 e_S18
  refine cg_dup C rfl dX11_init_41 ?_
  refine cg_iconst C (x := (-1)) rfl dX11_init_42 ?_
  obtain ⟨mc19, ms20, hm_1, hm_2, h⟩ := h
  refine cg_callI C (t_X10_init l mc19 ms20 q17 (((-1))) S18 dp h) cz_X11_32 rfl ⟨by decide, by decide⟩ ⟨hm_1, hm_2⟩ rfl (Nat.le_of_ble_eq_true rfl) dX11_init_43 (fun S_21 h => ?_)
  obtain ⟨hc_46, h⟩ := h
  refine cg_putr C (k := 11) (j := 3) (x := (some q17)) (ty := tyX11) (fty := tyX11 3) hc_46.1 hc_46.2 (by decide) rfl (by decide) rfl (by decide) rfl cWs_wsX110 tyX11_ok nmX11 cl_X11_35 rfl rfl rfl rfl rfl dX11_init_46 ?_
  refine cg_nm (fun S22 e_S22 => ?_)
  have h := h S22 e_S22
  refine cg_aload_n C (i := 0) rfl 0 rfl dX11_init_49 ?_
  refine cg_null C dX11_init_50 ?_
  obtain ⟨hc_51, h⟩ := h
  refine cg_putr C (k := 11) (j := 4) (x := none) (ty := tyX11) (fty := tyX11 4) hc_51.1 hc_51.2 (by decide) rfl (by decide) rfl (by decide) rfl cWs_wsX110 tyX11_ok nmX11 cl_X11_39 rfl rfl rfl rfl rfl dX11_init_51 ?_
  refine cg_nm (fun S23 e_S23 => ?_)
  have h := h S23 e_S23
  refine cg_aload_n C (i := 0) rfl 0 rfl dX11_init_54 ?_
  refine cg_iconst C (x := nI 0) rfl dX11_init_55 ?_
  obtain ⟨hc_56, h⟩ := h
  refine cg_puti C (k := 11) (j := 5) (ty := tyX11) (fty := .int) hc_56.1 hc_56.2 (by decide) rfl (by decide) rfl (by decide) rfl cWs_wsX110 tyX11_ok nmX11 cl_X11_42 rfl rfl rfl rfl rfl dX11_init_56 ?_
  refine cg_nm (fun S24 e_S24 => ?_)
  have h := h S24 e_S24
  refine cg_aload_n C (i := 0) rfl 0 rfl dX11_init_59 ?_
  refine cg_null C dX11_init_60 ?_
  obtain ⟨hc_61, h⟩ := h
  refine cg_putr C (k := 11) (j := 6) (x := none) (ty := tyX11) (fty := tyX11 6) hc_61.1 hc_61.2 (by decide) rfl (by decide) rfl (by decide) rfl cWs_wsX110 tyX11_ok nmX11 cl_X11_46 rfl rfl rfl rfl rfl dX11_init_61 ?_
  refine cg_nm (fun S25 e_S25 => ?_)
  have h := h S25 e_S25
  refine cg_aload_n C (i := 0) rfl 0 rfl dX11_init_64 ?_
  refine cg_null C dX11_init_65 ?_
  obtain ⟨hc_66, h⟩ := h
  refine cg_putr C (k := 11) (j := 7) (x := none) (ty := tyX11) (fty := tyX11 7) hc_66.1 hc_66.2 (by decide) rfl (by decide) rfl (by decide) rfl cWs_wsX110 tyX11_ok nmX11 cl_X11_49 rfl rfl rfl rfl rfl dX11_init_66 ?_
  refine cg_nm (fun S26 e_S26 => ?_)
  have h := h S26 e_S26
  refine cg_aload_n C (i := 0) rfl 0 rfl dX11_init_69 ?_
  obtain ⟨hc_70, h⟩ := h
  refine cg_new C (k := 12) (N := 3) (fs := [.int 0, .null, .int 0]) (by decide) rfl cWs_wsJx4a65c0 tyJx4a65c_ok cn_X11_23 ci_Jx4a65c ct_Jx4a65c (fun j_ hj_ => by rcases (show j_ = 0 ∨ j_ = 1 ∨ j_ = 2 by omega) with rfl | rfl | rfl <;> rfl) rfl hc_70.1 hc_70.2 dX11_init_70 (fun q27 hf_q27 => ?_)
  have h := h q27 hf_q27
  refine cg_nm (fun S28 e_S28 => ?_)
  have h := h S28 e_S28
  refine cg_dup C rfl dX11_init_73 ?_
  obtain ⟨hb_74, h⟩ := h
  refine cg_callI C (t_Jx4a65c_init_da8c8 l q27 S28 dp h) cz_X11_25 rfl ⟨by decide, by decide⟩ hb_74 rfl (Nat.le_of_ble_eq_true rfl) dX11_init_74 (fun S_29 h => ?_)
  simp only [Nat.add_zero]
  obtain ⟨hc_77, h⟩ := h
  refine cg_putrF C (k := 11) (j := 8) (x := (some q27)) (ty := tyX11) (fty := tyX11 8) hc_77.1 hc_77.2 (by decide) rfl (by decide) rfl (by decide) rfl cWs_wsX110 tyX11_ok nmX11 cl_X11_52 rfl rfl hin rfl rfl rfl rfl dX11_init_77 ?_
  refine cg_nm (fun S30 e_S30 => ?_)
  have h := h S30 e_S30
  refine cg_aload_n C (i := 0) rfl 0 rfl dX11_init_80 ?_
  refine cg_iconst C (x := nI 0) rfl dX11_init_81 ?_
  obtain ⟨hc_82, h⟩ := h
  refine cg_puti C (k := 11) (j := 9) (ty := tyX11) (fty := .int) hc_82.1 hc_82.2 (by decide) rfl (by decide) rfl (by decide) rfl cWs_wsX110 tyX11_ok nmX11 cl_X11_55 rfl rfl rfl rfl rfl dX11_init_82 ?_
  refine cg_nm (fun S31 e_S31 => ?_)
  have h := h S31 e_S31
  refine cg_aload_n C (i := 0) rfl 0 rfl dX11_init_85 ?_
  obtain ⟨hc_86, h⟩ := h
  refine cg_new C (k := 6) (N := 5) (fs := [.null, .null, .null, .int 0, .null]) (by decide) rfl cWs_wsX60 tyX6_ok cn_X11_58 ci_X6 ct_X6 (fun j_ hj_ => by rcases (show j_ = 0 ∨ j_ = 1 ∨ j_ = 2 ∨ j_ = 3 ∨ j_ = 4 by omega) with rfl | rfl | rfl | rfl | rfl <;> rfl) rfl hc_86.1 hc_86.2 dX11_init_86 (fun q32 hf_q32 => ?_)
  have h := h q32 hf_q32
  refine cg_nm (fun S33 e_S33 => ?_)
  have h := h S33 e_S33
  refine cg_dup C rfl dX11_init_89 ?_
  obtain ⟨mc34, ms35, hm_1, hm_2, h⟩ := h
  refine cg_callIN C (t_X6_init l mc34 ms35 q32 S33 dp h) czn_X11_60 rfl ⟨by decide, by decide⟩ ⟨hm_1, hm_2⟩ rfl (Nat.le_of_ble_eq_true rfl) dX11_init_90 (fun S_36 h => ?_)
  obtain ⟨hc_93, h⟩ := h
  refine cg_putr C (k := 11) (j := 10) (x := (some q32)) (ty := tyX11) (fty := tyX11 10) hc_93.1 hc_93.2 (by decide) rfl (by decide) rfl (by decide) rfl cWs_wsX110 tyX11_ok nmX11 cl_X11_61 rfl rfl rfl rfl rfl dX11_init_93 ?_
  refine cg_nm (fun S37 e_S37 => ?_)
  have h := h S37 e_S37
  refine cg_aload_n C (i := 0) rfl 0 rfl dX11_init_96 ?_
  obtain ⟨hc_97, h⟩ := h
  refine cg_new C (k := 12) (N := 3) (fs := [.int 0, .null, .int 0]) (by decide) rfl cWs_wsJx4a65c0 tyJx4a65c_ok cn_X11_23 ci_Jx4a65c ct_Jx4a65c (fun j_ hj_ => by rcases (show j_ = 0 ∨ j_ = 1 ∨ j_ = 2 by omega) with rfl | rfl | rfl <;> rfl) rfl hc_97.1 hc_97.2 dX11_init_97 (fun q38 hf_q38 => ?_)
  have h := h q38 hf_q38
  refine cg_nm (fun S39 e_S39 => ?_)
  have h := h S39 e_S39
  refine cg_dup C rfl dX11_init_100 ?_
  obtain ⟨hb_101, h⟩ := h
  refine cg_callI C (t_Jx4a65c_init_da8c8 l q38 S39 dp h) cz_X11_25 rfl ⟨by decide, by decide⟩ hb_101 rfl (Nat.le_of_ble_eq_true rfl) dX11_init_101 (fun S_40 h => ?_)
  simp only [Nat.add_zero]
  obtain ⟨hc_104, h⟩ := h
  refine cg_putrF C (k := 11) (j := 11) (x := (some q38)) (ty := tyX11) (fty := tyX11 11) hc_104.1 hc_104.2 (by decide) rfl (by decide) rfl (by decide) rfl cWs_wsX110 tyX11_ok nmX11 cl_X11_65 rfl rfl hin rfl rfl rfl rfl dX11_init_104 ?_
  refine cg_nm (fun S41 e_S41 => ?_)
  have h := h S41 e_S41
  refine cg_aload_n C (i := 0) rfl 0 rfl dX11_init_107 ?_
  obtain ⟨hc_108, h⟩ := h
  refine cg_new C (k := 7) (N := 7) (fs := [.null, .null, .null, .null, .null, .null, .null]) (by decide) rfl cWs_wsX70 tyX7_ok cn_X11_68 ci_X7 ct_X7 (fun j_ hj_ => by rcases (show j_ = 0 ∨ j_ = 1 ∨ j_ = 2 ∨ j_ = 3 ∨ j_ = 4 ∨ j_ = 5 ∨ j_ = 6 by omega) with rfl | rfl | rfl | rfl | rfl | rfl | rfl <;> rfl) rfl hc_108.1 hc_108.2 dX11_init_108 (fun q42 hf_q42 => ?_)
  have h := h q42 hf_q42
  refine cg_nm (fun S43 e_S43 => ?_)
  have h := h S43 e_S43
  refine cg_dup C rfl dX11_init_111 ?_
  obtain ⟨mc44, ms45, hm_1, hm_2, h⟩ := h
  refine cg_callIN C (t_X7_init l mc44 ms45 q42 S43 dp h) czn_X11_70 rfl ⟨by decide, by decide⟩ ⟨hm_1, hm_2⟩ rfl (Nat.le_of_ble_eq_true rfl) dX11_init_112 (fun S_46 h => ?_)
  obtain ⟨hc_115, h⟩ := h
  refine cg_putrF C (k := 11) (j := 12) (x := (some q42)) (ty := tyX11) (fty := tyX11 12) hc_115.1 hc_115.2 (by decide) rfl (by decide) rfl (by decide) rfl cWs_wsX110 tyX11_ok nmX11 cl_X11_71 rfl rfl hin rfl rfl rfl rfl dX11_init_115 ?_
  refine cg_nm (fun S47 e_S47 => ?_)
  have h := h S47 e_S47
  refine cg_aload_n C (i := 0) rfl 0 rfl dX11_init_118 ?_
  obtain ⟨hc_119, h⟩ := h
  refine cg_new C (k := 1) (N := 14) (fs := [.null, .int 0, .null, .null, .int 0, .int 0, .int 0, .int 0, .null, .null, .null, .null, .null, .null]) (by decide) rfl cWs_wsX10 tyX1_ok cn_X11_75 ci_X1 ct_X1 (fun j_ hj_ => by rcases (show j_ = 0 ∨ j_ = 1 ∨ j_ = 2 ∨ j_ = 3 ∨ j_ = 4 ∨ j_ = 5 ∨ j_ = 6 ∨ j_ = 7 ∨ j_ = 8 ∨ j_ = 9 ∨ j_ = 10 ∨ j_ = 11 ∨ j_ = 12 ∨ j_ = 13 by omega) with rfl | rfl | rfl | rfl | rfl | rfl | rfl | rfl | rfl | rfl | rfl | rfl | rfl | rfl <;> rfl) rfl hc_119.1 hc_119.2 dX11_init_119 (fun q48 hf_q48 => ?_)
  have h := h q48 hf_q48
  refine cg_nm (fun S49 e_S49 => ?_)
  have h := h S49 e_S49
  refine cg_dup C rfl dX11_init_122 ?_
  refine cg_aload_n C (i := 0) rfl 0 rfl dX11_init_123 ?_
  obtain ⟨hc_124, h⟩ := h
  obtain ⟨b50, hb_b50, h⟩ := h
  refine cg_get C (k := 11) (j := 12) (.ref b50) hc_124.1 hc_124.2 (by decide) rfl (by decide) rfl (show cV _ 11 12 x0 = _ from congrArg va_rf hb_b50) cWs_wsX110 cl_X11_71 rfl dX11_init_124 ?_
  obtain ⟨mc51, ms52, hm_1, hm_2, h⟩ := h
  refine cg_callI C (t_X1_init l mc51 ms52 q48 b50 S49 dp h) cz_X11_77 rfl ⟨by decide, by decide⟩ ⟨hm_1, hm_2⟩ rfl (Nat.le_of_ble_eq_true rfl) dX11_init_127 (fun S_53 h => ?_)
  obtain ⟨hc_130, h⟩ := h
  refine cg_putrF C (k := 11) (j := 13) (x := (some q48)) (ty := tyX11) (fty := tyX11 13) hc_130.1 hc_130.2 (by decide) rfl (by decide) rfl (by decide) rfl cWs_wsX110 tyX11_ok nmX11 cl_X11_80 rfl rfl hin rfl rfl rfl rfl dX11_init_130 ?_
  refine cg_nm (fun S54 e_S54 => ?_)
  have h := h S54 e_S54
  refine cg_aload_n C (i := 0) rfl 0 rfl dX11_init_133 ?_
  refine cg_iconst C (x := nI 0) rfl dX11_init_134 ?_
  obtain ⟨hc_135, h⟩ := h
  refine cg_puti C (k := 11) (j := 14) (ty := tyX11) (fty := .int) hc_135.1 hc_135.2 (by decide) rfl (by decide) rfl (by decide) rfl cWs_wsX110 tyX11_ok nmX11 cl_X11_84 rfl rfl rfl rfl rfl dX11_init_135 ?_
  refine cg_nm (fun S55 e_S55 => ?_)
  have h := h S55 e_S55
  refine cg_aload_n C (i := 0) rfl 0 rfl dX11_init_138 ?_
  refine cg_iconst C (x := nI 0) rfl dX11_init_139 ?_
  obtain ⟨hc_140, h⟩ := h
  refine cg_puti C (k := 11) (j := 15) (ty := tyX11) (fty := .int) hc_140.1 hc_140.2 (by decide) rfl (by decide) rfl (by decide) rfl cWs_wsX110 tyX11_ok nmX11 cl_X11_87 rfl rfl rfl rfl rfl dX11_init_140 ?_
  refine cg_nm (fun S56 e_S56 => ?_)
  have h := h S56 e_S56
  refine cg_aload_n C (i := 0) rfl 0 rfl dX11_init_143 ?_
  refine cg_iconst C (x := nI 0) rfl dX11_init_144 ?_
  obtain ⟨hc_145, h⟩ := h
  refine cg_puti C (k := 11) (j := 16) (ty := tyX11) (fty := .int) hc_145.1 hc_145.2 (by decide) rfl (by decide) rfl (by decide) rfl cWs_wsX110 tyX11_ok nmX11 cl_X11_90 rfl rfl rfl rfl rfl dX11_init_145 ?_
  refine cg_nm (fun S57 e_S57 => ?_)
  have h := h S57 e_S57
  refine cg_aload_n C (i := 0) rfl 0 rfl dX11_init_148 ?_
  refine cg_iconst C (x := (-1)) rfl dX11_init_149 ?_
  obtain ⟨hc_150, h⟩ := h
  refine cg_puti C (k := 11) (j := 17) (ty := tyX11) (fty := .int) hc_150.1 hc_150.2 (by decide) rfl (by decide) rfl (by decide) rfl cWs_wsX110 tyX11_ok nmX11 cl_X11_93 rfl rfl rfl rfl rfl dX11_init_150 ?_
  refine cg_nm (fun S58 e_S58 => ?_)
  have h := h S58 e_S58
  refine cg_aload_n C (i := 0) rfl 0 rfl dX11_init_153 ?_
  refine cg_iconst C (x := nI 0) rfl dX11_init_154 ?_
  obtain ⟨hc_155, h⟩ := h
  refine cg_cast (.int (bI false)) rfl ?_
  refine cg_puti C (k := 11) (j := 18) (ty := tyX11) (fty := .boolean) hc_155.1 hc_155.2 (by decide) rfl (by decide) rfl (by decide) rfl cWs_wsX110 tyX11_ok nmX11 cl_X11_96 rfl rfl rfl (bI_nar _) (bI_fit _) dX11_init_155 ?_
  refine cg_nm (fun S59 e_S59 => ?_)
  have h := h S59 e_S59
  obtain ⟨hb_158, h⟩ := h
  exact cg_vret C h dX11_init_158 hb_158.1 hb_158.2
