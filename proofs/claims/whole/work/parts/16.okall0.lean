/-! 16: each method passes the check -/
set_option maxRecDepth 100000 in
theorem ok_0 : gj_okM gj_mt mt_0 := gj_ckM_s (oi := 0) rfl (by decide +kernel)
set_option maxRecDepth 100000 in
theorem ok_1 : gj_okM gj_mt mt_1 := gj_ckM_s (oi := 0) rfl (by decide +kernel)
set_option maxRecDepth 100000 in
theorem ok_2 : gj_okM gj_mt mt_2 := gj_ckM_s (oi := 0) rfl (by decide +kernel)
set_option maxRecDepth 100000 in
theorem ok_3 : gj_okM gj_mt mt_3 := gj_ckM_s (oi := 0) rfl (by decide +kernel)
set_option maxRecDepth 100000 in
theorem ok_4 : gj_okM gj_mt mt_4 := gj_ckM_s (oi := 0) rfl (by decide +kernel)
set_option maxRecDepth 100000 in
theorem ok_5 : gj_okM gj_mt mt_5 := gj_ckM_s (oi := 0) rfl (by decide +kernel)
set_option maxRecDepth 100000 in
theorem ok_6 : gj_okM gj_mt mt_6 := gj_ckM_s (oi := 0) rfl (by decide +kernel)
set_option maxRecDepth 100000 in
theorem ok_7 : gj_okM gj_mt mt_7 := gj_ckM_s (oi := 0) rfl (by decide +kernel)
set_option maxRecDepth 100000 in
theorem ok_8 : gj_okM gj_mt mt_8 := gj_ckM_s (oi := 0) rfl (by decide +kernel)
set_option maxRecDepth 100000 in
theorem ok_9 : gj_okM gj_mt mt_9 := gj_ckM_s (oi := 0) rfl (by decide +kernel)
set_option maxRecDepth 100000 in
theorem ok_10 : gj_okM gj_mt mt_10 := gj_ckM_s (oi := 0) rfl (by decide +kernel)
set_option maxRecDepth 100000 in
theorem ok_11 : gj_okM gj_mt mt_11 := gj_ckM_s (oi := 0) rfl (by decide +kernel)
set_option maxRecDepth 100000 in
theorem ok_12 : gj_okM gj_mt mt_12 := gj_ckM_s (oi := 0) rfl (by decide +kernel)
set_option maxRecDepth 100000 in
theorem ok_13 : gj_okM gj_mt mt_13 := gj_ckM_s (oi := 0) rfl (by decide +kernel)
set_option maxRecDepth 100000 in
theorem ok_14 : gj_okM gj_mt mt_14 := gj_ckM_s (oi := 1) rfl (by decide +kernel)
set_option maxRecDepth 100000 in
theorem ok_15 : gj_okM gj_mt mt_15 := gj_ckM_s (oi := 1) rfl (by decide +kernel)
set_option maxRecDepth 100000 in
theorem ok_16 : gj_okM gj_mt mt_16 := gj_ckM_s (oi := 2) rfl (by decide +kernel)
set_option maxRecDepth 100000 in
theorem ok_17 : gj_okM gj_mt mt_17 := gj_ckM_s (oi := 2) rfl (by decide +kernel)
set_option maxRecDepth 100000 in
theorem ok_18 : gj_okM gj_mt mt_18 := gj_ckM_s (oi := 2) rfl (by decide +kernel)
set_option maxRecDepth 100000 in
theorem ok_19 : gj_okM gj_mt mt_19 := gj_ckM_s (oi := 2) rfl (by decide +kernel)
set_option maxRecDepth 100000 in
theorem ok_20 : gj_okM gj_mt mt_20 := gj_ckM_s (oi := 2) rfl (by decide +kernel)
set_option maxRecDepth 100000 in
theorem ok_21 : gj_okM gj_mt mt_21 := gj_ckM_s (oi := 2) rfl (by decide +kernel)
set_option maxRecDepth 100000 in
theorem ok_22 : gj_okM gj_mt mt_22 := gj_ckM_s (oi := 2) rfl (by decide +kernel)
set_option maxRecDepth 100000 in
theorem ok_23 : gj_okM gj_mt mt_23 := gj_ckM_s (oi := 3) rfl (by decide +kernel)
set_option maxRecDepth 100000 in
theorem ok_24 : gj_okM gj_mt mt_24 := gj_ckM_s (oi := 3) rfl (by decide +kernel)
set_option maxRecDepth 100000 in
theorem ok_25 : gj_okM gj_mt mt_25 := gj_ckM_s (oi := 3) rfl (by decide +kernel)
set_option maxRecDepth 100000 in
theorem ok_26 : gj_okM gj_mt mt_26 := gj_ckM_s (oi := 3) rfl (by decide +kernel)
set_option maxRecDepth 100000 in
theorem ok_27 : gj_okM gj_mt mt_27 := gj_ckM_s (oi := 4) rfl (by decide +kernel)
set_option maxRecDepth 100000 in
theorem ok_28 : gj_okM gj_mt mt_28 := gj_ckM_s (oi := 4) rfl (by decide +kernel)
set_option maxRecDepth 100000 in
theorem ok_29 : gj_okM gj_mt mt_29 := gj_ckM_s (oi := 4) rfl (by decide +kernel)
set_option maxRecDepth 100000 in
theorem ok_30 : gj_okM gj_mt mt_30 := gj_ckM_s (oi := 4) rfl (by decide +kernel)
set_option maxRecDepth 100000 in
theorem ok_31 : gj_okM gj_mt mt_31 := gj_ckM_s (oi := 4) rfl (by decide +kernel)
set_option maxRecDepth 100000 in
theorem ok_32 : gj_okM gj_mt mt_32 := gj_ckM_s (oi := 4) rfl (by decide +kernel)
set_option maxRecDepth 100000 in
theorem ok_33 : gj_okM gj_mt mt_33 := gj_ckM_s (oi := 4) rfl (by decide +kernel)
set_option maxRecDepth 100000 in
theorem ok_34 : gj_okM gj_mt mt_34 := gj_ckM_s (oi := 4) rfl (by decide +kernel)
set_option maxRecDepth 100000 in
theorem ok_35 : gj_okM gj_mt mt_35 := gj_ckM_s (oi := 4) rfl (by decide +kernel)
set_option maxRecDepth 100000 in
theorem ok_36 : gj_okM gj_mt mt_36 := gj_ckM_s (oi := 4) rfl (by decide +kernel)
set_option maxRecDepth 100000 in
theorem ok_37 : gj_okM gj_mt mt_37 := gj_ckM_s (oi := 4) rfl (by decide +kernel)
set_option maxRecDepth 100000 in
theorem ok_38 : gj_okM gj_mt mt_38 := gj_ckM_s (oi := 4) rfl (by decide +kernel)
set_option maxRecDepth 100000 in
theorem ok_39 : gj_okM gj_mt mt_39 := gj_ckM_s (oi := 4) rfl (by decide +kernel)
set_option maxRecDepth 100000 in
theorem ok_40 : gj_okM gj_mt mt_40 := gj_ckM_s (oi := 4) rfl (by decide +kernel)
set_option maxRecDepth 100000 in
theorem ok_41 : gj_okM gj_mt mt_41 := gj_ckM_s (oi := 4) rfl (by decide +kernel)
set_option maxRecDepth 100000 in
theorem ok_42 : gj_okM gj_mt mt_42 := gj_ckM_s (oi := 4) rfl (by decide +kernel)
set_option maxRecDepth 100000 in
theorem ok_43 : gj_okM gj_mt mt_43 := gj_ckM_s (oi := 4) rfl (by decide +kernel)
set_option maxRecDepth 100000 in
theorem ok_44 : gj_okM gj_mt mt_44 := gj_ckM_s (oi := 5) rfl (by decide +kernel)
set_option maxRecDepth 100000 in
theorem ok_45 : gj_okM gj_mt mt_45 := gj_ckM_s (oi := 5) rfl (by decide +kernel)
set_option maxRecDepth 100000 in
theorem ok_46 : gj_okM gj_mt mt_46 := gj_ckM_s (oi := 5) rfl (by decide +kernel)
set_option maxRecDepth 100000 in
theorem ok_47 : gj_okM gj_mt mt_47 := gj_ckM_s (oi := 5) rfl (by decide +kernel)
set_option maxRecDepth 100000 in
theorem ok_48 : gj_okM gj_mt mt_48 := gj_ckM_s (oi := 5) rfl (by decide +kernel)
set_option maxRecDepth 100000 in
theorem ok_49 : gj_okM gj_mt mt_49 := gj_ckM_s (oi := 5) rfl (by decide +kernel)
set_option maxRecDepth 100000 in
theorem ok_50 : gj_okM gj_mt mt_50 := gj_ckM_s (oi := 5) rfl (by decide +kernel)
set_option maxRecDepth 100000 in
theorem ok_51 : gj_okM gj_mt mt_51 := gj_ckM_s (oi := 5) rfl (by decide +kernel)
set_option maxRecDepth 100000 in
theorem ok_52 : gj_okM gj_mt mt_52 := gj_ckM_s (oi := 5) rfl (by decide +kernel)
set_option maxRecDepth 100000 in
theorem ok_53 : gj_okM gj_mt mt_53 := gj_ckM_s (oi := 6) rfl (by decide +kernel)
set_option maxRecDepth 100000 in
theorem ok_54 : gj_okM gj_mt mt_54 := gj_ckM_s (oi := 6) rfl (by decide +kernel)
set_option maxRecDepth 100000 in
theorem ok_55 : gj_okM gj_mt mt_55 := gj_ckM_s (oi := 6) rfl (by decide +kernel)
set_option maxRecDepth 100000 in
theorem ok_56 : gj_okM gj_mt mt_56 := gj_ckM_s (oi := 6) rfl (by decide +kernel)
set_option maxRecDepth 100000 in
theorem ok_57 : gj_okM gj_mt mt_57 := gj_ckM_s (oi := 6) rfl (by decide +kernel)
set_option maxRecDepth 100000 in
theorem ok_58 : gj_okM gj_mt mt_58 := gj_ckM_s (oi := 6) rfl (by decide +kernel)
set_option maxRecDepth 100000 in
theorem ok_59 : gj_okM gj_mt mt_59 := gj_ckM_s (oi := 6) rfl (by decide +kernel)
set_option maxRecDepth 100000 in
theorem ok_60 : gj_okM gj_mt mt_60 := gj_ckM_s (oi := 7) rfl (by decide +kernel)
set_option maxRecDepth 100000 in
theorem ok_61 : gj_okM gj_mt mt_61 := gj_ckM_s (oi := 7) rfl (by decide +kernel)
set_option maxRecDepth 100000 in
theorem ok_62 : gj_okM gj_mt mt_62 := gj_ckM_s (oi := 7) rfl (by decide +kernel)
set_option maxRecDepth 100000 in
theorem ok_63 : gj_okM gj_mt mt_63 := gj_ckM_s (oi := 7) rfl (by decide +kernel)
set_option maxRecDepth 100000 in
theorem ok_64 : gj_okM gj_mt mt_64 := gj_ckM_s (oi := 7) rfl (by decide +kernel)
set_option maxRecDepth 100000 in
theorem ok_65 : gj_okM gj_mt mt_65 := gj_ckM_s (oi := 7) rfl (by decide +kernel)
set_option maxRecDepth 100000 in
theorem ok_66 : gj_okM gj_mt mt_66 := gj_ckM_s (oi := 7) rfl (by decide +kernel)
set_option maxRecDepth 100000 in
theorem ok_67 : gj_okM gj_mt mt_67 := gj_ckM_s (oi := 7) rfl (by decide +kernel)
set_option maxRecDepth 100000 in
theorem ok_68 : gj_okM gj_mt mt_68 := gj_ckM_s (oi := 8) rfl (by decide +kernel)
set_option maxRecDepth 100000 in
theorem ok_69 : gj_okM gj_mt mt_69 := gj_ckM_s (oi := 8) rfl (by decide +kernel)
set_option maxRecDepth 100000 in
theorem ok_70 : gj_okM gj_mt mt_70 := gj_ckM_s (oi := 8) rfl (by decide +kernel)
set_option maxRecDepth 100000 in
theorem ok_71 : gj_okM gj_mt mt_71 := gj_ckM_s (oi := 8) rfl (by decide +kernel)
set_option maxRecDepth 100000 in
theorem ok_72 : gj_okM gj_mt mt_72 := gj_ckM_s (oi := 8) rfl (by decide +kernel)
set_option maxRecDepth 100000 in
theorem ok_73 : gj_okM gj_mt mt_73 := gj_ckM_s (oi := 8) rfl (by decide +kernel)
set_option maxRecDepth 100000 in
theorem ok_74 : gj_okM gj_mt mt_74 := gj_ckM_s (oi := 8) rfl (by decide +kernel)
set_option maxRecDepth 100000 in
theorem ok_75 : gj_okM gj_mt mt_75 := gj_ckM_s (oi := 8) rfl (by decide +kernel)
set_option maxRecDepth 100000 in
theorem ok_76 : gj_okM gj_mt mt_76 := gj_ckM_s (oi := 8) rfl (by decide +kernel)
set_option maxRecDepth 100000 in
theorem ok_77 : gj_okM gj_mt mt_77 := gj_ckM_s (oi := 8) rfl (by decide +kernel)
set_option maxRecDepth 100000 in
theorem ok_78 : gj_okM gj_mt mt_78 := gj_ckM_s (oi := 8) rfl (by decide +kernel)
set_option maxRecDepth 100000 in
theorem ok_79 : gj_okM gj_mt mt_79 := gj_ckM_s (oi := 8) rfl (by decide +kernel)
set_option maxRecDepth 100000 in
theorem ok_80 : gj_okM gj_mt mt_80 := gj_ckM_s (oi := 9) rfl (by decide +kernel)
set_option maxRecDepth 100000 in
theorem ok_81 : gj_okM gj_mt mt_81 := gj_ckM_s (oi := 9) rfl (by decide +kernel)
set_option maxRecDepth 100000 in
theorem ok_82 : gj_okM gj_mt mt_82 := gj_ckM_s (oi := 9) rfl (by decide +kernel)
set_option maxRecDepth 100000 in
theorem ok_83 : gj_okM gj_mt mt_83 := gj_ckM_s (oi := 9) rfl (by decide +kernel)
set_option maxRecDepth 100000 in
theorem ok_84 : gj_okM gj_mt mt_84 := gj_ckM_s (oi := 9) rfl (by decide +kernel)
set_option maxRecDepth 100000 in
theorem ok_85 : gj_okM gj_mt mt_85 := gj_ckM_s (oi := 9) rfl (by decide +kernel)
set_option maxRecDepth 100000 in
theorem ok_86 : gj_okM gj_mt mt_86 := gj_ckM_s (oi := 9) rfl (by decide +kernel)
set_option maxRecDepth 100000 in
theorem ok_87 : gj_okM gj_mt mt_87 := gj_ckM_s (oi := 9) rfl (by decide +kernel)
set_option maxRecDepth 100000 in
theorem ok_88 : gj_okM gj_mt mt_88 := gj_ckM_s (oi := 9) rfl (by decide +kernel)
set_option maxRecDepth 100000 in
theorem ok_89 : gj_okM gj_mt mt_89 := gj_ckM_s (oi := 9) rfl (by decide +kernel)
set_option maxRecDepth 100000 in
theorem ok_90 : gj_okM gj_mt mt_90 := gj_ckM_s (oi := 9) rfl (by decide +kernel)
set_option maxRecDepth 100000 in
theorem ok_91 : gj_okM gj_mt mt_91 := gj_ckM_s (oi := 10) rfl (by decide +kernel)
set_option maxRecDepth 100000 in
theorem ok_92 : gj_okM gj_mt mt_92 := gj_ckM_s (oi := 10) rfl (by decide +kernel)
set_option maxRecDepth 100000 in
theorem ok_93 : gj_okM gj_mt mt_93 := gj_ckM_s (oi := 10) rfl (by decide +kernel)
set_option maxRecDepth 100000 in
theorem ok_94 : gj_okM gj_mt mt_94 := gj_ckM_s (oi := 10) rfl (by decide +kernel)
set_option maxRecDepth 100000 in
theorem ok_95 : gj_okM gj_mt mt_95 := gj_ckM_s (oi := 10) rfl (by decide +kernel)
set_option maxRecDepth 100000 in
theorem ok_96 : gj_okM gj_mt mt_96 := gj_ckM_s (oi := 10) rfl (by decide +kernel)
set_option maxRecDepth 100000 in
theorem ok_97 : gj_okM gj_mt mt_97 := gj_ckM_s (oi := 10) rfl (by decide +kernel)
set_option maxRecDepth 100000 in
theorem ok_98 : gj_okM gj_mt mt_98 := gj_ckM_s (oi := 10) rfl (by decide +kernel)
set_option maxRecDepth 100000 in
theorem ok_99 : gj_okM gj_mt mt_99 := gj_ckM_s (oi := 10) rfl (by decide +kernel)
