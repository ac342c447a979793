/-! 16: each method passes the check -/
set_option maxRecDepth 100000 in
theorem ok_0 : gj_okM gj_mt mt_0 := gj_ckM_s (oi := 0) rfl (by decide +kernel)
set_option maxRecDepth 100000 in
theorem ok_1 : gj_okM gj_mt mt_1 := gj_ckM_s (oi := 0) rfl (by decide +kernel)
set_option maxRecDepth 100000 in
theorem ok_2 : gj_okM gj_mt mt_2 := gj_ckM_s (oi := 0) rfl (by decide +kernel)
set_option maxRecDepth 100000 in
theorem ok_3 : gj_okM gj_mt mt_3 := gj_ckM_s (oi := 0) rfl (by decide +kernel)
set_option maxRecDepth 100000 in
theorem ok_4 : gj_okM gj_mt mt_4 := gj_ckM_s (oi := 0) rfl (by decide +kernel)
set_option maxRecDepth 100000 in
theorem ok_5 : gj_okM gj_mt mt_5 := gj_ckM_s (oi := 0) rfl (by decide +kernel)
set_option maxRecDepth 100000 in
theorem ok_6 : gj_okM gj_mt mt_6 := gj_ckM_s (oi := 0) rfl (by decide +kernel)
set_option maxRecDepth 100000 in
theorem ok_7 : gj_okM gj_mt mt_7 := gj_ckM_s (oi := 0) rfl (by decide +kernel)
set_option maxRecDepth 100000 in
theorem ok_8 : gj_okM gj_mt mt_8 := gj_ckM_s (oi := 0) rfl (by decide +kernel)
set_option maxRecDepth 100000 in
theorem ok_9 : gj_okM gj_mt mt_9 := gj_ckM_s (oi := 0) rfl (by decide +kernel)
set_option maxRecDepth 100000 in
theorem ok_10 : gj_okM gj_mt mt_10 := gj_ckM_s (oi := 0) rfl (by decide +kernel)
set_option maxRecDepth 100000 in
theorem ok_11 : gj_okM gj_mt mt_11 := gj_ckM_s (oi := 0) rfl (by decide +kernel)
set_option maxRecDepth 100000 in
theorem ok_12 : gj_okM gj_mt mt_12 := gj_ckM_s (oi := 0) rfl (by decide +kernel)
set_option maxRecDepth 100000 in
theorem ok_13 : gj_okM gj_mt mt_13 := gj_ckM_s (oi := 0) rfl (by decide +kernel)
set_option maxRecDepth 100000 in
theorem ok_14 : gj_okM gj_mt mt_14 := gj_ckM_s (oi := 1) rfl (by decide +kernel)
set_option maxRecDepth 100000 in
theorem ok_15 : gj_okM gj_mt mt_15 := gj_ckM_s (oi := 1) rfl (by decide +kernel)
set_option maxRecDepth 100000 in
theorem ok_16 : gj_okM gj_mt mt_16 := gj_ckM_s (oi := 2) rfl (by decide +kernel)
set_option maxRecDepth 100000 in
theorem ok_17 : gj_okM gj_mt mt_17 := gj_ckM_s (oi := 2) rfl (by decide +kernel)
set_option maxRecDepth 100000 in
theorem ok_18 : gj_okM gj_mt mt_18 := gj_ckM_s (oi := 2) rfl (by decide +kernel)
set_option maxRecDepth 100000 in
theorem ok_19 : gj_okM gj_mt mt_19 := gj_ckM_s (oi := 2) rfl (by decide +kernel)
set_option maxRecDepth 100000 in
theorem ok_20 : gj_okM gj_mt mt_20 := gj_ckM_s (oi := 2) rfl (by decide +kernel)
set_option maxRecDepth 100000 in
theorem ok_21 : gj_okM gj_mt mt_21 := gj_ckM_s (oi := 2) rfl (by decide +kernel)
set_option maxRecDepth 100000 in
theorem ok_22 : gj_okM gj_mt mt_22 := gj_ckM_s (oi := 2) rfl (by decide +kernel)
set_option maxRecDepth 100000 in
theorem ok_23 : gj_okM gj_mt mt_23 := gj_ckM_s (oi := 3) rfl (by decide +kernel)
set_option maxRecDepth 100000 in
theorem ok_24 : gj_okM gj_mt mt_24 := gj_ckM_s (oi := 3) rfl (by decide +kernel)
set_option maxRecDepth 100000 in
theorem ok_25 : gj_okM gj_mt mt_25 := gj_ckM_s (oi := 3) rfl (by decide +kernel)
set_option maxRecDepth 100000 in
theorem ok_26 : gj_okM gj_mt mt_26 := gj_ckM_s (oi := 3) rfl (by decide +kernel)
set_option maxRecDepth 100000 in
theorem ok_27 : gj_okM gj_mt mt_27 := gj_ckM_s (oi := 4) rfl (by decide +kernel)
set_option maxRecDepth 100000 in
theorem ok_28 : gj_okM gj_mt mt_28 := gj_ckM_s (oi := 4) rfl (by decide +kernel)
set_option maxRecDepth 100000 in
theorem ok_29 : gj_okM gj_mt mt_29 := gj_ckM_s (oi := 4) rfl (by decide +kernel)
set_option maxRecDepth 100000 in
theorem ok_30 : gj_okM gj_mt mt_30 := gj_ckM_s (oi := 4) rfl (by decide +kernel)
set_option maxRecDepth 100000 in
theorem ok_31 : gj_okM gj_mt mt_31 := gj_ckM_s (oi := 4) rfl (by decide +kernel)
set_option maxRecDepth 100000 in
theorem ok_32 : gj_okM gj_mt mt_32 := gj_ckM_s (oi := 4) rfl (by decide +kernel)
set_option maxRecDepth 100000 in
theorem ok_33 : gj_okM gj_mt mt_33 := gj_ckM_s (oi := 4) rfl (by decide +kernel)
set_option maxRecDepth 100000 in
theorem ok_34 : gj_okM gj_mt mt_34 := gj_ckM_s (oi := 4) rfl (by decide +kernel)
set_option maxRecDepth 100000 in
theorem ok_35 : gj_okM gj_mt mt_35 := gj_ckM_s (oi := 4) rfl (by decide +kernel)
set_option maxRecDepth 100000 in
theorem ok_36 : gj_okM gj_mt mt_36 := gj_ckM_s (oi := 4) rfl (by decide +kernel)
set_option maxRecDepth 100000 in
theorem ok_37 : gj_okM gj_mt mt_37 := gj_ckM_s (oi := 4) rfl (by decide +kernel)
set_option maxRecDepth 100000 in
theorem ok_38 : gj_okM gj_mt mt_38 := gj_ckM_s (oi := 4) rfl (by decide +kernel)
set_option maxRecDepth 100000 in
theorem ok_39 : gj_okM gj_mt mt_39 := gj_ckM_s (oi := 4) rfl (by decide +kernel)
set_option maxRecDepth 100000 in
theorem ok_40 : gj_okM gj_mt mt_40 := gj_ckM_s (oi := 4) rfl (by decide +kernel)
set_option maxRecDepth 100000 in
theorem ok_41 : gj_okM gj_mt mt_41 := gj_ckM_s (oi := 4) rfl (by decide +kernel)
set_option maxRecDepth 100000 in
theorem ok_42 : gj_okM gj_mt mt_42 := gj_ckM_s (oi := 4) rfl (by decide +kernel)
set_option maxRecDepth 100000 in
theorem ok_43 : gj_okM gj_mt mt_43 := gj_ckM_s (oi := 4) rfl (by decide +kernel)
set_option maxRecDepth 100000 in
theorem ok_44 : gj_okM gj_mt mt_44 := gj_ckM_s (oi := 5) rfl (by decide +kernel)
set_option maxRecDepth 100000 in
theorem ok_45 : gj_okM gj_mt mt_45 := gj_ckM_s (oi := 5) rfl (by decide +kernel)
set_option maxRecDepth 100000 in
theorem ok_46 : gj_okM gj_mt mt_46 := gj_ckM_s (oi := 5) rfl (by decide +kernel)
set_option maxRecDepth 100000 in
theorem ok_47 : gj_okM gj_mt mt_47 := gj_ckM_s (oi := 5) rfl (by decide +kernel)
set_option maxRecDepth 100000 in
theorem ok_48 : gj_okM gj_mt mt_48 := gj_ckM_s (oi := 5) rfl (by decide +kernel)
set_option maxRecDepth 100000 in
theorem ok_49 : gj_okM gj_mt mt_49 := gj_ckM_s (oi := 5) rfl (by decide +kernel)
set_option maxRecDepth 100000 in
theorem ok_50 : gj_okM gj_mt mt_50 := gj_ckM_s (oi := 5) rfl (by decide +kernel)
set_option maxRecDepth 100000 in
theorem ok_51 : gj_okM gj_mt mt_51 := gj_ckM_s (oi := 5) rfl (by decide +kernel)
set_option maxRecDepth 100000 in
theorem ok_52 : gj_okM gj_mt mt_52 := gj_ckM_s (oi := 5) rfl (by decide +kernel)
set_option maxRecDepth 100000 in
theorem ok_53 : gj_okM gj_mt mt_53 := gj_ckM_s (oi := 6) rfl (by decide +kernel)
set_option maxRecDepth 100000 in
theorem ok_54 : gj_okM gj_mt mt_54 := gj_ckM_s (oi := 6) rfl (by decide +kernel)
set_option maxRecDepth 100000 in
theorem ok_55 : gj_okM gj_mt mt_55 := gj_ckM_s (oi := 6) rfl (by decide +kernel)
set_option maxRecDepth 100000 in
theorem ok_56 : gj_okM gj_mt mt_56 := gj_ckM_s (oi := 6) rfl (by decide +kernel)
set_option maxRecDepth 100000 in
theorem ok_57 : gj_okM gj_mt mt_57 := gj_ckM_s (oi := 6) rfl (by decide +kernel)
set_option maxRecDepth 100000 in
theorem ok_58 : gj_okM gj_mt mt_58 := gj_ckM_s (oi := 6) rfl (by decide +kernel)
set_option maxRecDepth 100000 in
theorem ok_59 : gj_okM gj_mt mt_59 := gj_ckM_s (oi := 6) rfl (by decide +kernel)
set_option maxRecDepth 100000 in
theorem ok_60 : gj_okM gj_mt mt_60 := gj_ckM_s (oi := 7) rfl (by decide +kernel)
set_option maxRecDepth 100000 in
theorem ok_61 : gj_okM gj_mt mt_61 := gj_ckM_s (oi := 7) rfl (by decide +kernel)
set_option maxRecDepth 100000 in
theorem ok_62 : gj_okM gj_mt mt_62 := gj_ckM_s (oi := 7) rfl (by decide +kernel)
set_option maxRecDepth 100000 in
theorem ok_63 : gj_okM gj_mt mt_63 := gj_ckM_s (oi := 7) rfl (by decide +kernel)
set_option maxRecDepth 100000 in
theorem ok_64 : gj_okM gj_mt mt_64 := gj_ckM_s (oi := 7) rfl (by decide +kernel)
set_option maxRecDepth 100000 in
theorem ok_65 : gj_okM gj_mt mt_65 := gj_ckM_s (oi := 7) rfl (by decide +kernel)
set_option maxRecDepth 100000 in
theorem ok_66 : gj_okM gj_mt mt_66 := gj_ckM_s (oi := 7) rfl (by decide +kernel)
set_option maxRecDepth 100000 in
theorem ok_67 : gj_okM gj_mt mt_67 := gj_ckM_s (oi := 7) rfl (by decide +kernel)
set_option maxRecDepth 100000 in
theorem ok_68 : gj_okM gj_mt mt_68 := gj_ckM_s (oi := 8) rfl (by decide +kernel)
set_option maxRecDepth 100000 in
theorem ok_69 : gj_okM gj_mt mt_69 := gj_ckM_s (oi := 8) rfl (by decide +kernel)
set_option maxRecDepth 100000 in
theorem ok_70 : gj_okM gj_mt mt_70 := gj_ckM_s (oi := 8) rfl (by decide +kernel)
set_option maxRecDepth 100000 in
theorem ok_71 : gj_okM gj_mt mt_71 := gj_ckM_s (oi := 8) rfl (by decide +kernel)
set_option maxRecDepth 100000 in
theorem ok_72 : gj_okM gj_mt mt_72 := gj_ckM_s (oi := 8) rfl (by decide +kernel)
set_option maxRecDepth 100000 in
theorem ok_73 : gj_okM gj_mt mt_73 := gj_ckM_s (oi := 8) rfl (by decide +kernel)
set_option maxRecDepth 100000 in
theorem ok_74 : gj_okM gj_mt mt_74 := gj_ckM_s (oi := 8) rfl (by decide +kernel)
set_option maxRecDepth 100000 in
theorem ok_75 : gj_okM gj_mt mt_75 := gj_ckM_s (oi := 8) rfl (by decide +kernel)
set_option maxRecDepth 100000 in
theorem ok_76 : gj_okM gj_mt mt_76 := gj_ckM_s (oi := 8) rfl (by decide +kernel)
set_option maxRecDepth 100000 in
theorem ok_77 : gj_okM gj_mt mt_77 := gj_ckM_s (oi := 8) rfl (by decide +kernel)
set_option maxRecDepth 100000 in
theorem ok_78 : gj_okM gj_mt mt_78 := gj_ckM_s (oi := 8) rfl (by decide +kernel)
set_option maxRecDepth 100000 in
theorem ok_79 : gj_okM gj_mt mt_79 := gj_ckM_s (oi := 8) rfl (by decide +kernel)
set_option maxRecDepth 100000 in
theorem ok_80 : gj_okM gj_mt mt_80 := gj_ckM_s (oi := 9) rfl (by decide +kernel)
set_option maxRecDepth 100000 in
theorem ok_81 : gj_okM gj_mt mt_81 := gj_ckM_s (oi := 9) rfl (by decide +kernel)
set_option maxRecDepth 100000 in
theorem ok_82 : gj_okM gj_mt mt_82 := gj_ckM_s (oi := 9) rfl (by decide +kernel)
set_option maxRecDepth 100000 in
theorem ok_83 : gj_okM gj_mt mt_83 := gj_ckM_s (oi := 9) rfl (by decide +kernel)
set_option maxRecDepth 100000 in
theorem ok_84 : gj_okM gj_mt mt_84 := gj_ckM_s (oi := 9) rfl (by decide +kernel)
set_option maxRecDepth 100000 in
theorem ok_85 : gj_okM gj_mt mt_85 := gj_ckM_s (oi := 9) rfl (by decide +kernel)
set_option maxRecDepth 100000 in
theorem ok_86 : gj_okM gj_mt mt_86 := gj_ckM_s (oi := 9) rfl (by decide +kernel)
set_option maxRecDepth 100000 in
theorem ok_87 : gj_okM gj_mt mt_87 := gj_ckM_s (oi := 9) rfl (by decide +kernel)
set_option maxRecDepth 100000 in
theorem ok_88 : gj_okM gj_mt mt_88 := gj_ckM_s (oi := 9) rfl (by decide +kernel)
set_option maxRecDepth 100000 in
theorem ok_89 : gj_okM gj_mt mt_89 := gj_ckM_s (oi := 9) rfl (by decide +kernel)
set_option maxRecDepth 100000 in
theorem ok_90 : gj_okM gj_mt mt_90 := gj_ckM_s (oi := 9) rfl (by decide +kernel)
set_option maxRecDepth 100000 in
theorem ok_91 : gj_okM gj_mt mt_91 := gj_ckM_s (oi := 10) rfl (by decide +kernel)
set_option maxRecDepth 100000 in
theorem ok_92 : gj_okM gj_mt mt_92 := gj_ckM_s (oi := 10) rfl (by decide +kernel)
set_option maxRecDepth 100000 in
theorem ok_93 : gj_okM gj_mt mt_93 := gj_ckM_s (oi := 10) rfl (by decide +kernel)
set_option maxRecDepth 100000 in
theorem ok_94 : gj_okM gj_mt mt_94 := gj_ckM_s (oi := 10) rfl (by decide +kernel)
set_option maxRecDepth 100000 in
theorem ok_95 : gj_okM gj_mt mt_95 := gj_ckM_s (oi := 10) rfl (by decide +kernel)
set_option maxRecDepth 100000 in
theorem ok_96 : gj_okM gj_mt mt_96 := gj_ckM_s (oi := 10) rfl (by decide +kernel)
set_option maxRecDepth 100000 in
theorem ok_97 : gj_okM gj_mt mt_97 := gj_ckM_s (oi := 10) rfl (by decide +kernel)
set_option maxRecDepth 100000 in
theorem ok_98 : gj_okM gj_mt mt_98 := gj_ckM_s (oi := 10) rfl (by decide +kernel)
set_option maxRecDepth 100000 in
theorem ok_99 : gj_okM gj_mt mt_99 := gj_ckM_s (oi := 10) rfl (by decide +kernel)
set_option maxRecDepth 100000 in
theorem ok_100 : gj_okM gj_mt mt_100 := gj_ckM_s (oi := 10) rfl (by decide +kernel)
set_option maxRecDepth 100000 in
theorem ok_101 : gj_okM gj_mt mt_101 := gj_ckM_s (oi := 10) rfl (by decide +kernel)
set_option maxRecDepth 100000 in
theorem ok_102 : gj_okM gj_mt mt_102 := gj_ckM_s (oi := 10) rfl (by decide +kernel)
set_option maxRecDepth 100000 in
theorem ok_103 : gj_okM gj_mt mt_103 := gj_ckM_s (oi := 10) rfl (by decide +kernel)
set_option maxRecDepth 100000 in
theorem ok_104 : gj_okM gj_mt mt_104 := gj_ckM_s (oi := 10) rfl (by decide +kernel)
set_option maxRecDepth 100000 in
theorem ok_105 : gj_okM gj_mt mt_105 := gj_ckM_s (oi := 10) rfl (by decide +kernel)
set_option maxRecDepth 100000 in
theorem ok_106 : gj_okM gj_mt mt_106 := gj_ckM_s (oi := 10) rfl (by decide +kernel)
set_option maxRecDepth 100000 in
theorem ok_107 : gj_okM gj_mt mt_107 := gj_ckM_s (oi := 10) rfl (by decide +kernel)
set_option maxRecDepth 100000 in
theorem ok_108 : gj_okM gj_mt mt_108 := gj_ckM_s (oi := 10) rfl (by decide +kernel)
set_option maxRecDepth 100000 in
theorem ok_109 : gj_okM gj_mt mt_109 := gj_ckM_s (oi := 10) rfl (by decide +kernel)
set_option maxRecDepth 100000 in
theorem ok_110 : gj_okM gj_mt mt_110 := gj_ckM_s (oi := 10) rfl (by decide +kernel)
set_option maxRecDepth 100000 in
theorem ok_111 : gj_okM gj_mt mt_111 := gj_ckM_s (oi := 10) rfl (by decide +kernel)
set_option maxRecDepth 100000 in
theorem ok_112 : gj_okM gj_mt mt_112 := gj_ckM_s (oi := 10) rfl (by decide +kernel)
set_option maxRecDepth 100000 in
theorem ok_113 : gj_okM gj_mt mt_113 := gj_ckM_s (oi := 10) rfl (by decide +kernel)
set_option maxRecDepth 100000 in
theorem ok_114 : gj_okM gj_mt mt_114 := gj_ckM_s (oi := 10) rfl (by decide +kernel)
set_option maxRecDepth 100000 in
theorem ok_115 : gj_okM gj_mt mt_115 := gj_ckM_s (oi := 10) rfl (by decide +kernel)
set_option maxRecDepth 100000 in
theorem ok_116 : gj_okM gj_mt mt_116 := gj_ckM_s (oi := 10) rfl (by decide +kernel)
set_option maxRecDepth 100000 in
theorem ok_117 : gj_okM gj_mt mt_117 := gj_ckM_s (oi := 10) rfl (by decide +kernel)
set_option maxRecDepth 100000 in
theorem ok_118 : gj_okM gj_mt mt_118 := gj_ckM_s (oi := 10) rfl (by decide +kernel)
set_option maxRecDepth 100000 in
theorem ok_119 : gj_okM gj_mt mt_119 := gj_ckM_s (oi := 10) rfl (by decide +kernel)
set_option maxRecDepth 100000 in
theorem ok_120 : gj_okM gj_mt mt_120 := gj_ckM_s (oi := 10) rfl (by decide +kernel)
set_option maxRecDepth 100000 in
theorem ok_121 : gj_okM gj_mt mt_121 := gj_ckM_s (oi := 10) rfl (by decide +kernel)
set_option maxRecDepth 100000 in
theorem ok_122 : gj_okM gj_mt mt_122 := gj_ckM_s (oi := 10) rfl (by decide +kernel)
set_option maxRecDepth 100000 in
theorem ok_123 : gj_okM gj_mt mt_123 := gj_ckM_s (oi := 10) rfl (by decide +kernel)
set_option maxRecDepth 100000 in
theorem ok_124 : gj_okM gj_mt mt_124 := gj_ckM_s (oi := 10) rfl (by decide +kernel)
set_option maxRecDepth 100000 in
theorem ok_125 : gj_okM gj_mt mt_125 := gj_ckM_s (oi := 10) rfl (by decide +kernel)
set_option maxRecDepth 100000 in
theorem ok_126 : gj_okM gj_mt mt_126 := gj_ckM_s (oi := 10) rfl (by decide +kernel)
set_option maxRecDepth 100000 in
theorem ok_127 : gj_okM gj_mt mt_127 := gj_ckM_s (oi := 10) rfl (by decide +kernel)
set_option maxRecDepth 100000 in
theorem ok_128 : gj_okM gj_mt mt_128 := gj_ckM_s (oi := 10) rfl (by decide +kernel)
set_option maxRecDepth 100000 in
theorem ok_129 : gj_okM gj_mt mt_129 := gj_ckM_s (oi := 10) rfl (by decide +kernel)
set_option maxRecDepth 100000 in
theorem ok_130 : gj_okM gj_mt mt_130 := gj_ckM_s (oi := 10) rfl (by decide +kernel)
set_option maxRecDepth 100000 in
theorem ok_131 : gj_okM gj_mt mt_131 := gj_ckM_s (oi := 10) rfl (by decide +kernel)
set_option maxRecDepth 100000 in
theorem ok_132 : gj_okM gj_mt mt_132 := gj_ckM_s (oi := 10) rfl (by decide +kernel)
set_option maxRecDepth 100000 in
theorem ok_133 : gj_okM gj_mt mt_133 := gj_ckM_s (oi := 10) rfl (by decide +kernel)
set_option maxRecDepth 100000 in
theorem ok_134 : gj_okM gj_mt mt_134 := gj_ckM_s (oi := 10) rfl (by decide +kernel)
set_option maxRecDepth 100000 in
theorem ok_135 : gj_okM gj_mt mt_135 := gj_ckM_s (oi := 10) rfl (by decide +kernel)
set_option maxRecDepth 100000 in
theorem ok_136 : gj_okM gj_mt mt_136 := gj_ckM_s (oi := 10) rfl (by decide +kernel)
set_option maxRecDepth 100000 in
theorem ok_137 : gj_okM gj_mt mt_137 := gj_ckM_s (oi := 10) rfl (by decide +kernel)
set_option maxRecDepth 100000 in
theorem ok_138 : gj_okM gj_mt mt_138 := gj_ckM_s (oi := 10) rfl (by decide +kernel)
set_option maxRecDepth 100000 in
theorem ok_139 : gj_okM gj_mt mt_139 := gj_ckM_s (oi := 10) rfl (by decide +kernel)
set_option maxRecDepth 100000 in
theorem ok_140 : gj_okM gj_mt mt_140 := gj_ckM_s (oi := 10) rfl (by decide +kernel)
set_option maxRecDepth 100000 in
theorem ok_141 : gj_okM gj_mt mt_141 := gj_ckM_s (oi := 10) rfl (by decide +kernel)
set_option maxRecDepth 100000 in
theorem ok_142 : gj_okM gj_mt mt_142 := gj_ckM_s (oi := 10) rfl (by decide +kernel)
set_option maxRecDepth 100000 in
theorem ok_143 : gj_okM gj_mt mt_143 := gj_ckM_s (oi := 10) rfl (by decide +kernel)
set_option maxRecDepth 100000 in
theorem ok_144 : gj_okM gj_mt mt_144 := gj_ckM_s (oi := 10) rfl (by decide +kernel)
set_option maxRecDepth 100000 in
theorem ok_145 : gj_okM gj_mt mt_145 := gj_ckM_s (oi := 10) rfl (by decide +kernel)
set_option maxRecDepth 100000 in
theorem ok_146 : gj_okM gj_mt mt_146 := gj_ckM_s (oi := 10) rfl (by decide +kernel)
set_option maxRecDepth 100000 in
theorem ok_147 : gj_okM gj_mt mt_147 := gj_ckM_s (oi := 10) rfl (by decide +kernel)
set_option maxRecDepth 100000 in
theorem ok_148 : gj_okM gj_mt mt_148 := gj_ckM_s (oi := 10) rfl (by decide +kernel)
set_option maxRecDepth 100000 in
theorem ok_149 : gj_okM gj_mt mt_149 := gj_ckM_s (oi := 10) rfl (by decide +kernel)
set_option maxRecDepth 100000 in
theorem ok_150 : gj_okM gj_mt mt_150 := gj_ckM_s (oi := 10) rfl (by decide +kernel)
set_option maxRecDepth 100000 in
theorem ok_151 : gj_okM gj_mt mt_151 := gj_ckM_s (oi := 10) rfl (by decide +kernel)
set_option maxRecDepth 100000 in
theorem ok_152 : gj_okM gj_mt mt_152 := gj_ckM_s (oi := 10) rfl (by decide +kernel)
set_option maxRecDepth 100000 in
theorem ok_153 : gj_okM gj_mt mt_153 := gj_ckM_s (oi := 10) rfl (by decide +kernel)
set_option maxRecDepth 100000 in
theorem ok_154 : gj_okM gj_mt mt_154 := gj_ckM_s (oi := 10) rfl (by decide +kernel)
set_option maxRecDepth 100000 in
theorem ok_155 : gj_okM gj_mt mt_155 := gj_ckM_s (oi := 11) rfl (by decide +kernel)
set_option maxRecDepth 100000 in
theorem ok_156 : gj_okM gj_mt mt_156 := gj_ckM_s (oi := 11) rfl (by decide +kernel)
set_option maxRecDepth 100000 in
theorem ok_157 : gj_okM gj_mt mt_157 := gj_ckM_s (oi := 11) rfl (by decide +kernel)
set_option maxRecDepth 100000 in
theorem ok_158 : gj_okM gj_mt mt_158 := gj_ckM_s (oi := 11) rfl (by decide +kernel)
set_option maxRecDepth 100000 in
theorem ok_159 : gj_okM gj_mt mt_159 := gj_ckM_s (oi := 11) rfl (by decide +kernel)
set_option maxRecDepth 100000 in
theorem ok_160 : gj_okM gj_mt mt_160 := gj_ckM_s (oi := 11) rfl (by decide +kernel)
set_option maxRecDepth 100000 in
theorem ok_161 : gj_okM gj_mt mt_161 := gj_ckM_s (oi := 11) rfl (by decide +kernel)
set_option maxRecDepth 100000 in
theorem ok_162 : gj_okM gj_mt mt_162 := gj_ckM_s (oi := 11) rfl (by decide +kernel)
set_option maxRecDepth 100000 in
theorem ok_163 : gj_okM gj_mt mt_163 := gj_ckM_s (oi := 11) rfl (by decide +kernel)
set_option maxRecDepth 100000 in
theorem ok_164 : gj_okM gj_mt mt_164 := gj_ckM_s (oi := 11) rfl (by decide +kernel)
set_option maxRecDepth 100000 in
theorem ok_165 : gj_okM gj_mt mt_165 := gj_ckM_s (oi := 11) rfl (by decide +kernel)
set_option maxRecDepth 100000 in
theorem ok_166 : gj_okM gj_mt mt_166 := gj_ckM_s (oi := 11) rfl (by decide +kernel)
set_option maxRecDepth 100000 in
theorem ok_167 : gj_okM gj_mt mt_167 := gj_ckM_s (oi := 11) rfl (by decide +kernel)
set_option maxRecDepth 100000 in
theorem ok_168 : gj_okM gj_mt mt_168 := gj_ckM_s (oi := 11) rfl (by decide +kernel)
set_option maxRecDepth 100000 in
theorem ok_169 : gj_okM gj_mt mt_169 := gj_ckM_s (oi := 11) rfl (by decide +kernel)
set_option maxRecDepth 100000 in
theorem ok_170 : gj_okM gj_mt mt_170 := gj_ckM_s (oi := 11) rfl (by decide +kernel)
set_option maxRecDepth 100000 in
theorem ok_171 : gj_okM gj_mt mt_171 := gj_ckM_s (oi := 11) rfl (by decide +kernel)
set_option maxRecDepth 100000 in
theorem ok_172 : gj_okM gj_mt mt_172 := gj_ckM_s (oi := 11) rfl (by decide +kernel)
set_option maxRecDepth 100000 in
theorem ok_173 : gj_okM gj_mt mt_173 := gj_ckM_s (oi := 11) rfl (by decide +kernel)
set_option maxRecDepth 100000 in
theorem ok_174 : gj_okM gj_mt mt_174 := gj_ckM_s (oi := 11) rfl (by decide +kernel)
set_option maxRecDepth 100000 in
theorem ok_175 : gj_okM gj_mt mt_175 := gj_ckM_s (oi := 11) rfl (by decide +kernel)
set_option maxRecDepth 100000 in
theorem ok_176 : gj_okM gj_mt mt_176 := gj_ckM_s (oi := 11) rfl (by decide +kernel)
set_option maxRecDepth 100000 in
theorem ok_177 : gj_okM gj_mt mt_177 := gj_ckM_s (oi := 11) rfl (by decide +kernel)
set_option maxRecDepth 100000 in
theorem ok_178 : gj_okM gj_mt mt_178 := gj_ckM_s (oi := 11) rfl (by decide +kernel)
set_option maxRecDepth 100000 in
theorem ok_179 : gj_okM gj_mt mt_179 := gj_ckM_s (oi := 11) rfl (by decide +kernel)
set_option maxRecDepth 100000 in
theorem ok_180 : gj_okM gj_mt mt_180 := gj_ckM_s (oi := 11) rfl (by decide +kernel)
set_option maxRecDepth 100000 in
theorem ok_181 : gj_okM gj_mt mt_181 := gj_ckM_s (oi := 11) rfl (by decide +kernel)
set_option maxRecDepth 100000 in
theorem ok_182 : gj_okM gj_mt mt_182 := gj_ckM_s (oi := 11) rfl (by decide +kernel)
set_option maxRecDepth 100000 in
theorem ok_183 : gj_okM gj_mt mt_183 := gj_ckM_s (oi := 11) rfl (by decide +kernel)
set_option maxRecDepth 100000 in
theorem ok_184 : gj_okM gj_mt mt_184 := gj_ckM_s (oi := 11) rfl (by decide +kernel)
set_option maxRecDepth 100000 in
theorem ok_185 : gj_okM gj_mt mt_185 := gj_ckM_s (oi := 11) rfl (by decide +kernel)
set_option maxRecDepth 100000 in
theorem ok_186 : gj_okM gj_mt mt_186 := gj_ckM_s (oi := 11) rfl (by decide +kernel)
set_option maxRecDepth 100000 in
theorem ok_187 : gj_okM gj_mt mt_187 := gj_ckM_s (oi := 11) rfl (by decide +kernel)
set_option maxRecDepth 100000 in
theorem ok_188 : gj_okM gj_mt mt_188 := gj_ckM_s (oi := 11) rfl (by decide +kernel)
set_option maxRecDepth 100000 in
theorem ok_189 : gj_okM gj_mt mt_189 := gj_ckM_s (oi := 11) rfl (by decide +kernel)
set_option maxRecDepth 100000 in
theorem ok_190 : gj_okM gj_mt mt_190 := gj_ckM_s (oi := 11) rfl (by decide +kernel)
set_option maxRecDepth 100000 in
theorem ok_191 : gj_okM gj_mt mt_191 := gj_ckM_s (oi := 11) rfl (by decide +kernel)
set_option maxRecDepth 100000 in
theorem ok_192 : gj_okM gj_mt mt_192 := gj_ckM_s (oi := 11) rfl (by decide +kernel)
set_option maxRecDepth 100000 in
theorem ok_193 : gj_okM gj_mt mt_193 := gj_ckM_s (oi := 11) rfl (by decide +kernel)
set_option maxRecDepth 100000 in
theorem ok_194 : gj_okM gj_mt mt_194 := gj_ckM_s (oi := 11) rfl (by decide +kernel)
set_option maxRecDepth 100000 in
theorem ok_195 : gj_okM gj_mt mt_195 := gj_ckM_s (oi := 11) rfl (by decide +kernel)
set_option maxRecDepth 100000 in
theorem ok_196 : gj_okM gj_mt mt_196 := gj_ckM_s (oi := 11) rfl (by decide +kernel)
set_option maxRecDepth 100000 in
theorem ok_197 : gj_okM gj_mt mt_197 := gj_ckM_s (oi := 11) rfl (by decide +kernel)
set_option maxRecDepth 100000 in
theorem ok_198 : gj_okM gj_mt mt_198 := gj_ckM_s (oi := 11) rfl (by decide +kernel)
set_option maxRecDepth 100000 in
theorem ok_199 : gj_okM gj_mt mt_199 := gj_ckM_s (oi := 11) rfl (by decide +kernel)
set_option maxRecDepth 100000 in
theorem ok_200 : gj_okM gj_mt mt_200 := gj_ckM_s (oi := 11) rfl (by decide +kernel)
set_option maxRecDepth 100000 in
theorem ok_201 : gj_okM gj_mt mt_201 := gj_ckM_s (oi := 11) rfl (by decide +kernel)
set_option maxRecDepth 100000 in
theorem ok_202 : gj_okM gj_mt mt_202 := gj_ckM_s (oi := 11) rfl (by decide +kernel)
set_option maxRecDepth 100000 in
theorem ok_203 : gj_okM gj_mt mt_203 := gj_ckM_s (oi := 11) rfl (by decide +kernel)
set_option maxRecDepth 100000 in
theorem ok_204 : gj_okM gj_mt mt_204 := gj_ckM_s (oi := 11) rfl (by decide +kernel)
set_option maxRecDepth 100000 in
theorem ok_205 : gj_okM gj_mt mt_205 := gj_ckM_s (oi := 11) rfl (by decide +kernel)
set_option maxRecDepth 100000 in
theorem ok_206 : gj_okM gj_mt mt_206 := gj_ckM_s (oi := 11) rfl (by decide +kernel)
set_option maxRecDepth 100000 in
theorem ok_207 : gj_okM gj_mt mt_207 := gj_ckM_s (oi := 11) rfl (by decide +kernel)
set_option maxRecDepth 100000 in
theorem ok_208 : gj_okM gj_mt mt_208 := gj_ckM_s (oi := 11) rfl (by decide +kernel)
set_option maxRecDepth 100000 in
theorem ok_209 : gj_okM gj_mt mt_209 := gj_ckM_s (oi := 11) rfl (by decide +kernel)
set_option maxRecDepth 100000 in
theorem ok_210 : gj_okM gj_mt mt_210 := gj_ckM_s (oi := 11) rfl (by decide +kernel)
set_option maxRecDepth 100000 in
theorem ok_211 : gj_okM gj_mt mt_211 := gj_ckM_s (oi := 11) rfl (by decide +kernel)
set_option maxRecDepth 100000 in
theorem ok_212 : gj_okM gj_mt mt_212 := gj_ckM_s (oi := 11) rfl (by decide +kernel)
set_option maxRecDepth 100000 in
theorem ok_213 : gj_okM gj_mt mt_213 := gj_ckM_s (oi := 11) rfl (by decide +kernel)
set_option maxRecDepth 100000 in
theorem ok_214 : gj_okM gj_mt mt_214 := gj_ckM_s (oi := 11) rfl (by decide +kernel)
set_option maxRecDepth 100000 in
theorem ok_215 : gj_okM gj_mt mt_215 := gj_ckM_s (oi := 11) rfl (by decide +kernel)
set_option maxRecDepth 100000 in
theorem ok_216 : gj_okM gj_mt mt_216 := gj_ckM_s (oi := 11) rfl (by decide +kernel)
set_option maxRecDepth 100000 in
theorem ok_217 : gj_okM gj_mt mt_217 := gj_ckM_s (oi := 11) rfl (by decide +kernel)
set_option maxRecDepth 100000 in
theorem ok_218 : gj_okM gj_mt mt_218 := gj_ckM_s (oi := 11) rfl (by decide +kernel)
set_option maxRecDepth 100000 in
theorem ok_219 : gj_okM gj_mt mt_219 := gj_ckM_s (oi := 11) rfl (by decide +kernel)
set_option maxRecDepth 100000 in
theorem ok_220 : gj_okM gj_mt mt_220 := gj_ckM_s (oi := 11) rfl (by decide +kernel)
set_option maxRecDepth 100000 in
theorem ok_221 : gj_okM gj_mt mt_221 := gj_ckM_s (oi := 11) rfl (by decide +kernel)
set_option maxRecDepth 100000 in
theorem ok_222 : gj_okM gj_mt mt_222 := gj_ckM_s (oi := 11) rfl (by decide +kernel)
set_option maxRecDepth 100000 in
theorem ok_223 : gj_okM gj_mt mt_223 := gj_ckM_s (oi := 11) rfl (by decide +kernel)
set_option maxRecDepth 100000 in
theorem ok_224 : gj_okM gj_mt mt_224 := gj_ckM_s (oi := 11) rfl (by decide +kernel)
set_option maxRecDepth 100000 in
theorem ok_225 : gj_okM gj_mt mt_225 := gj_ckM_s (oi := 11) rfl (by decide +kernel)
set_option maxRecDepth 100000 in
theorem ok_226 : gj_okM gj_mt mt_226 := gj_ckM_s (oi := 11) rfl (by decide +kernel)
set_option maxRecDepth 100000 in
theorem ok_227 : gj_okM gj_mt mt_227 := gj_ckM_s (oi := 11) rfl (by decide +kernel)
set_option maxRecDepth 100000 in
theorem ok_228 : gj_okM gj_mt mt_228 := gj_ckM_s (oi := 11) rfl (by decide +kernel)
set_option maxRecDepth 100000 in
theorem ok_229 : gj_okM gj_mt mt_229 := gj_ckM_s (oi := 11) rfl (by decide +kernel)
set_option maxRecDepth 100000 in
theorem ok_230 : gj_okM gj_mt mt_230 := gj_ckM_s (oi := 11) rfl (by decide +kernel)
set_option maxRecDepth 100000 in
theorem ok_231 : gj_okM gj_mt mt_231 := gj_ckM_s (oi := 11) rfl (by decide +kernel)
set_option maxRecDepth 100000 in
theorem ok_232 : gj_okM gj_mt mt_232 := gj_ckM_s (oi := 11) rfl (by decide +kernel)
set_option maxRecDepth 100000 in
theorem ok_233 : gj_okM gj_mt mt_233 := gj_ckM_s (oi := 11) rfl (by decide +kernel)
set_option maxRecDepth 100000 in
theorem ok_234 : gj_okM gj_mt mt_234 := gj_ckM_s (oi := 11) rfl (by decide +kernel)
set_option maxRecDepth 100000 in
theorem ok_235 : gj_okM gj_mt mt_235 := gj_ckM_s (oi := 11) rfl (by decide +kernel)
set_option maxRecDepth 100000 in
theorem ok_236 : gj_okM gj_mt mt_236 := gj_ckM_s (oi := 11) rfl (by decide +kernel)
set_option maxRecDepth 100000 in
theorem ok_237 : gj_okM gj_mt mt_237 := gj_ckM_s (oi := 11) rfl (by decide +kernel)
set_option maxRecDepth 100000 in
theorem ok_238 : gj_okM gj_mt mt_238 := gj_ckM_s (oi := 11) rfl (by decide +kernel)
set_option maxRecDepth 100000 in
theorem ok_239 : gj_okM gj_mt mt_239 := gj_ckM_s (oi := 11) rfl (by decide +kernel)
set_option maxRecDepth 100000 in
theorem ok_240 : gj_okM gj_mt mt_240 := gj_ckM_s (oi := 11) rfl (by decide +kernel)
set_option maxRecDepth 100000 in
theorem ok_241 : gj_okM gj_mt mt_241 := gj_ckM_s (oi := 11) rfl (by decide +kernel)
set_option maxRecDepth 100000 in
theorem ok_242 : gj_okM gj_mt mt_242 := gj_ckM_s (oi := 11) rfl (by decide +kernel)
set_option maxRecDepth 100000 in
theorem ok_243 : gj_okM gj_mt mt_243 := gj_ckM_s (oi := 11) rfl (by decide +kernel)
set_option maxRecDepth 100000 in
theorem ok_244 : gj_okM gj_mt mt_244 := gj_ckM_s (oi := 11) rfl (by decide +kernel)
set_option maxRecDepth 100000 in
theorem ok_245 : gj_okM gj_mt mt_245 := gj_ckM_s (oi := 11) rfl (by decide +kernel)
set_option maxRecDepth 100000 in
theorem ok_246 : gj_okM gj_mt mt_246 := gj_ckM_s (oi := 11) rfl (by decide +kernel)
set_option maxRecDepth 100000 in
theorem ok_247 : gj_okM gj_mt mt_247 := gj_ckM_s (oi := 11) rfl (by decide +kernel)
set_option maxRecDepth 100000 in
theorem ok_248 : gj_okM gj_mt mt_248 := gj_ckM_s (oi := 11) rfl (by decide +kernel)
set_option maxRecDepth 100000 in
theorem ok_249 : gj_okM gj_mt mt_249 := gj_ckM_s (oi := 11) rfl (by decide +kernel)
set_option maxRecDepth 100000 in
theorem ok_250 : gj_okM gj_mt mt_250 := gj_ckM_s (oi := 11) rfl (by decide +kernel)
set_option maxRecDepth 100000 in
theorem ok_251 : gj_okM gj_mt mt_251 := gj_ckM_s (oi := 11) rfl (by decide +kernel)
set_option maxRecDepth 100000 in
theorem ok_252 : gj_okM gj_mt mt_252 := gj_ckM_s (oi := 11) rfl (by decide +kernel)
set_option maxRecDepth 100000 in
theorem ok_253 : gj_okM gj_mt mt_253 := gj_ckM_s (oi := 11) rfl (by decide +kernel)
set_option maxRecDepth 100000 in
theorem ok_254 : gj_okM gj_mt mt_254 := gj_ckM_s (oi := 11) rfl (by decide +kernel)
set_option maxRecDepth 100000 in
theorem ok_255 : gj_okM gj_mt mt_255 := gj_ckM_s (oi := 11) rfl (by decide +kernel)
set_option maxRecDepth 100000 in
theorem ok_256 : gj_okM gj_mt mt_256 := gj_ckM_s (oi := 11) rfl (by decide +kernel)
set_option maxRecDepth 100000 in
theorem ok_257 : gj_okM gj_mt mt_257 := gj_ckM_s (oi := 11) rfl (by decide +kernel)
set_option maxRecDepth 100000 in
theorem ok_258 : gj_okM gj_mt mt_258 := gj_ckM_s (oi := 11) rfl (by decide +kernel)
set_option maxRecDepth 100000 in
theorem ok_259 : gj_okM gj_mt mt_259 := gj_ckM_s (oi := 11) rfl (by decide +kernel)
set_option maxRecDepth 100000 in
theorem ok_260 : gj_okM gj_mt mt_260 := gj_ckM_s (oi := 11) rfl (by decide +kernel)
set_option maxRecDepth 100000 in
theorem ok_261 : gj_okM gj_mt mt_261 := gj_ckM_s (oi := 11) rfl (by decide +kernel)
set_option maxRecDepth 100000 in
theorem ok_262 : gj_okM gj_mt mt_262 := gj_ckM_s (oi := 11) rfl (by decide +kernel)
set_option maxRecDepth 100000 in
theorem ok_263 : gj_okM gj_mt mt_263 := gj_ckM_s (oi := 11) rfl (by decide +kernel)
set_option maxRecDepth 100000 in
theorem ok_264 : gj_okM gj_mt mt_264 := gj_ckM_s (oi := 11) rfl (by decide +kernel)
set_option maxRecDepth 100000 in
theorem ok_265 : gj_okM gj_mt mt_265 := gj_ckM_s (oi := 11) rfl (by decide +kernel)
set_option maxRecDepth 100000 in
theorem ok_266 : gj_okM gj_mt mt_266 := gj_ckM_s (oi := 11) rfl (by decide +kernel)
set_option maxRecDepth 100000 in
theorem ok_267 : gj_okM gj_mt mt_267 := gj_ckM_s (oi := 11) rfl (by decide +kernel)
set_option maxRecDepth 100000 in
theorem ok_268 : gj_okM gj_mt mt_268 := gj_ckM_s (oi := 11) rfl (by decide +kernel)
set_option maxRecDepth 100000 in
theorem ok_269 : gj_okM gj_mt mt_269 := gj_ckM_s (oi := 11) rfl (by decide +kernel)
set_option maxRecDepth 100000 in
theorem ok_270 : gj_okM gj_mt mt_270 := gj_ckM_s (oi := 11) rfl (by decide +kernel)
set_option maxRecDepth 100000 in
theorem ok_271 : gj_okM gj_mt mt_271 := gj_ckM_s (oi := 11) rfl (by decide +kernel)
set_option maxRecDepth 100000 in
theorem ok_272 : gj_okM gj_mt mt_272 := gj_ckM_s (oi := 11) rfl (by decide +kernel)
set_option maxRecDepth 100000 in
theorem ok_273 : gj_okM gj_mt mt_273 := gj_ckM_s (oi := 11) rfl (by decide +kernel)
set_option maxRecDepth 100000 in
theorem ok_274 : gj_okM gj_mt mt_274 := gj_ckM_s (oi := 11) rfl (by decide +kernel)
set_option maxRecDepth 100000 in
theorem ok_275 : gj_okM gj_mt mt_275 := gj_ckM_s (oi := 11) rfl (by decide +kernel)
set_option maxRecDepth 100000 in
theorem ok_276 : gj_okM gj_mt mt_276 := gj_ckM_s (oi := 11) rfl (by decide +kernel)
set_option maxRecDepth 100000 in
theorem ok_277 : gj_okM gj_mt mt_277 := gj_ckM_s (oi := 11) rfl (by decide +kernel)
set_option maxRecDepth 100000 in
theorem ok_278 : gj_okM gj_mt mt_278 := gj_ckM_s (oi := 11) rfl (by decide +kernel)
set_option maxRecDepth 100000 in
theorem ok_279 : gj_okM gj_mt mt_279 := gj_ckM_s (oi := 11) rfl (by decide +kernel)
set_option maxRecDepth 100000 in
theorem ok_280 : gj_okM gj_mt mt_280 := gj_ckM_s (oi := 11) rfl (by decide +kernel)
set_option maxRecDepth 100000 in
theorem ok_281 : gj_okM gj_mt mt_281 := gj_ckM_s (oi := 11) rfl (by decide +kernel)
set_option maxRecDepth 100000 in
theorem ok_282 : gj_okM gj_mt mt_282 := gj_ckM_s (oi := 11) rfl (by decide +kernel)
set_option maxRecDepth 100000 in
theorem ok_283 : gj_okM gj_mt mt_283 := gj_ckM_s (oi := 11) rfl (by decide +kernel)
set_option maxRecDepth 100000 in
theorem ok_284 : gj_okM gj_mt mt_284 := gj_ckM_s (oi := 13) rfl (by decide +kernel)
set_option maxRecDepth 100000 in
theorem ok_285 : gj_okM gj_mt mt_285 := gj_ckM_s (oi := 13) rfl (by decide +kernel)
set_option maxRecDepth 100000 in
theorem ok_286 : gj_okM gj_mt mt_286 := gj_ckM_s (oi := 14) rfl (by decide +kernel)
set_option maxRecDepth 100000 in
theorem ok_287 : gj_okM gj_mt mt_287 := gj_ckM_s (oi := 14) rfl (by decide +kernel)
set_option maxRecDepth 100000 in
theorem ok_288 : gj_okM gj_mt mt_288 := gj_ckM_s (oi := 15) rfl (by decide +kernel)
set_option maxRecDepth 100000 in
theorem ok_289 : gj_okM gj_mt mt_289 := gj_ckM_s (oi := 15) rfl (by decide +kernel)
set_option maxRecDepth 100000 in
theorem ok_290 : gj_okM gj_mt mt_290 := gj_ckM_s (oi := 15) rfl (by decide +kernel)
set_option maxRecDepth 100000 in
theorem ok_291 : gj_okM gj_mt mt_291 := gj_ckM_s (oi := 15) rfl (by decide +kernel)
set_option maxRecDepth 100000 in
theorem ok_292 : gj_okM gj_mt mt_292 := gj_ckM_s (oi := 15) rfl (by decide +kernel)
set_option maxRecDepth 100000 in
theorem ok_293 : gj_okM gj_mt mt_293 := gj_ckM_s (oi := 16) rfl (by decide +kernel)
set_option maxRecDepth 100000 in
theorem ok_294 : gj_okM gj_mt mt_294 := gj_ckM_s (oi := 17) rfl (by decide +kernel)
set_option maxRecDepth 100000 in
theorem ok_295 : gj_okM gj_mt mt_295 := gj_ckM_s (oi := 12) rfl (by decide +kernel)
