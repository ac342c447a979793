/-! an: what the machine asks of the law, from pc 16 and from its loop: printed by a program, checked by the kernel -/
set_option maxHeartbeats 20000000 in
set_option maxRecDepth 100000 in
theorem lp_295_16 {E : gj_E} {Q : Int32 → gj_I → gj_J → Prop} (SI : gj_I) (SJ : gj_J) (h : GoI E mt_295 18 [some (.ref 140), some (.ref 0), some (.ref 81), some (.int (i3 0))] SI SJ Q) : GoI E mt_295 16 [some (.ref 140), some (.ref 0), some (.ref 81), none] SI SJ Q := by
  refine gj_goq gj_clT ok_295 [18, 229, 258, 272, 281, 295, 304, 323, 337, 351, 360, 379, 393, 412, 426, 435, 439, 458, 472, 486, 495, 509, 518, 533, 542, 561, 575, 594, 608, 628, 642, 661, 675, 694, 708, 727, 741, 756, 765, 785, 799, 824, 843, 872, 896, 931, 960, 975, 984, 999, 1008, 1023, 1032, 1046, 1055, 1070, 1079, 1099, 1113, 1127, 1136, 1155, 1169, 1193, 1212, 1227, 1236, 1255, 1269, 1283, 1292, 1301, 1305, 1314, 1318, 1332, 1341] ?_
  show gj_Goes E om0 mt_295 18 [some (.ref 140), some (.ref 0), some (.ref 81), some (.int (i3 0))] [] SI SJ (QI Q)
  exact h
set_option maxHeartbeats 20000000 in
set_option maxRecDepth 100000 in
theorem lp_295_18 {E : gj_E} {Q : Int32 → gj_I → gj_J → Prop} (x3 : Int32) (SI : gj_I) (SJ : gj_J) (h : (((Int32.ofNat (gj_L E)) - (i3 6)) < x3 → Q (i3 1) SI SJ) ∧ (¬ ((Int32.ofNat (gj_L E)) - (i3 6)) < x3 → vp_in x3 (gj_L E) ∧ ((((gj_stf E 12 (gj_n x3)) &&& (i3 63)) = (i3 0) → vp_in (x3 + (i3 1)) (gj_L E) ∧ (vp_in (x3 + (i3 2)) (gj_L E) ∧ (vp_in (x3 + (i3 3)) (gj_L E) ∧ (vp_in (x3 + (i3 4)) (gj_L E) ∧ (vp_in (x3 + (i3 5)) (gj_L E) ∧ (DoI E 91 [(.ref 0), (.int (gj_stf E 12 (gj_n (x3 + (i3 1))))), (.int (gj_stf E 12 (gj_n (x3 + (i3 2))))), (.int (gj_stf E 12 (gj_n (x3 + (i3 3))))), (.int (gj_stf E 12 (gj_n (x3 + (i3 4))))), (.int (gj_stf E 12 (gj_n (x3 + (i3 5)))))] SI SJ (fun r1 SI2 SJ2 => DoI E 206 [(.ref 81), (.int (gj_stf E 12 (gj_n (x3 + (i3 1))))), (.int (gj_stf E 12 (gj_n (x3 + (i3 2))))), (.int (gj_stf E 12 (gj_n (x3 + (i3 3))))), (.int (gj_stf E 12 (gj_n (x3 + (i3 4))))), (.int (gj_stf E 12 (gj_n (x3 + (i3 5)))))] SI2 SJ2 (fun r3 SI4 SJ4 => (r1 = r3 → GoI E mt_295 18 [some (.ref 140), some (.ref 0), some (.ref 81), some (.int (x3 + (i3 6)))] SI4 SJ4 Q) ∧ (¬ r1 = r3 → Q (i3 0) SI4 SJ4))))))))) ∧ (((gj_stf E 12 (gj_n x3)) &&& (i3 63)) = (i3 1) → vp_in (x3 + (i3 1)) (gj_L E) ∧ (DoI E 92 [(.ref 0), (.int (gj_stf E 12 (gj_n (x3 + (i3 1)))))] SI SJ (fun r5 SI6 SJ6 => DoI E 215 [(.ref 81), (.int (gj_stf E 12 (gj_n (x3 + (i3 1)))))] SI6 SJ6 (fun r7 SI8 SJ8 => (r5 = r7 → GoI E mt_295 18 [some (.ref 140), some (.ref 0), some (.ref 81), some (.int (x3 + (i3 6)))] SI8 SJ8 Q) ∧ (¬ r5 = r7 → Q (i3 0) SI8 SJ8))))) ∧ (((gj_stf E 12 (gj_n x3)) &&& (i3 63)) = (i3 2) → vp_in (x3 + (i3 1)) (gj_L E) ∧ (DoI E 93 [(.ref 0), (.int (gj_stf E 12 (gj_n (x3 + (i3 1)))))] SI SJ (fun r9 SI10 SJ10 => DoI E 218 [(.ref 81), (.int (gj_stf E 12 (gj_n (x3 + (i3 1)))))] SI10 SJ10 (fun r11 SI12 SJ12 => (r9 = r11 → GoI E mt_295 18 [some (.ref 140), some (.ref 0), some (.ref 81), some (.int (x3 + (i3 6)))] SI12 SJ12 Q) ∧ (¬ r9 = r11 → Q (i3 0) SI12 SJ12))))) ∧ (((gj_stf E 12 (gj_n x3)) &&& (i3 63)) = (i3 3) → vp_in (x3 + (i3 1)) (gj_L E) ∧ (vp_in (x3 + (i3 2)) (gj_L E) ∧ (DoI E 100 [(.ref 0), (.int (gj_stf E 12 (gj_n (x3 + (i3 1))))), (.int (gj_stf E 12 (gj_n (x3 + (i3 2)))))] SI SJ (fun r13 SI14 SJ14 => DoI E 198 [(.ref 81), (.int (gj_stf E 12 (gj_n (x3 + (i3 1))))), (.int (gj_stf E 12 (gj_n (x3 + (i3 2)))))] SI14 SJ14 (fun r15 SI16 SJ16 => (r13 = r15 → GoI E mt_295 18 [some (.ref 140), some (.ref 0), some (.ref 81), some (.int (x3 + (i3 6)))] SI16 SJ16 Q) ∧ (¬ r13 = r15 → Q (i3 0) SI16 SJ16)))))) ∧ (((gj_stf E 12 (gj_n x3)) &&& (i3 63)) = (i3 4) → vp_in (x3 + (i3 1)) (gj_L E) ∧ (DoI E 102 [(.ref 0), (.int (gj_stf E 12 (gj_n (x3 + (i3 1)))))] SI SJ (fun r17 SI18 SJ18 => DoI E 200 [(.ref 81), (.int (gj_stf E 12 (gj_n (x3 + (i3 1)))))] SI18 SJ18 (fun r19 SI20 SJ20 => (r17 = r19 → GoI E mt_295 18 [some (.ref 140), some (.ref 0), some (.ref 81), some (.int (x3 + (i3 6)))] SI20 SJ20 Q) ∧ (¬ r17 = r19 → Q (i3 0) SI20 SJ20))))) ∧ (((gj_stf E 12 (gj_n x3)) &&& (i3 63)) = (i3 5) → vp_in (x3 + (i3 1)) (gj_L E) ∧ (vp_in (x3 + (i3 2)) (gj_L E) ∧ (DoI E 104 [(.ref 0), (.int (gj_stf E 12 (gj_n (x3 + (i3 1))))), (.int (gj_stf E 12 (gj_n (x3 + (i3 2)))))] SI SJ (fun r21 SI22 SJ22 => DoI E 201 [(.ref 81), (.int (gj_stf E 12 (gj_n (x3 + (i3 1))))), (.int (gj_stf E 12 (gj_n (x3 + (i3 2)))))] SI22 SJ22 (fun r23 SI24 SJ24 => (r21 = r23 → GoI E mt_295 18 [some (.ref 140), some (.ref 0), some (.ref 81), some (.int (x3 + (i3 6)))] SI24 SJ24 Q) ∧ (¬ r21 = r23 → Q (i3 0) SI24 SJ24)))))) ∧ (((gj_stf E 12 (gj_n x3)) &&& (i3 63)) = (i3 6) → vp_in (x3 + (i3 1)) (gj_L E) ∧ (vp_in (x3 + (i3 2)) (gj_L E) ∧ (DoI E 106 [(.ref 0), (.int (gj_stf E 12 (gj_n (x3 + (i3 1))))), (.int (gj_stf E 12 (gj_n (x3 + (i3 2)))))] SI SJ (fun r25 SI26 SJ26 => DoI E 202 [(.ref 81), (.int (gj_stf E 12 (gj_n (x3 + (i3 1))))), (.int (gj_stf E 12 (gj_n (x3 + (i3 2)))))] SI26 SJ26 (fun r27 SI28 SJ28 => (r25 = r27 → GoI E mt_295 18 [some (.ref 140), some (.ref 0), some (.ref 81), some (.int (x3 + (i3 6)))] SI28 SJ28 Q) ∧ (¬ r25 = r27 → Q (i3 0) SI28 SJ28)))))) ∧ (((gj_stf E 12 (gj_n x3)) &&& (i3 63)) = (i3 7) → DoI E 108 [(.ref 0)] SI SJ (fun r29 SI30 SJ30 => DoI E 204 [(.ref 81)] SI30 SJ30 (fun r31 SI32 SJ32 => (r29 = r31 → GoI E mt_295 18 [some (.ref 140), some (.ref 0), some (.ref 81), some (.int (x3 + (i3 6)))] SI32 SJ32 Q) ∧ (¬ r29 = r31 → Q (i3 0) SI32 SJ32)))) ∧ (((gj_stf E 12 (gj_n x3)) &&& (i3 63)) = (i3 8) → vp_in (x3 + (i3 1)) (gj_L E) ∧ (vp_in (x3 + (i3 2)) (gj_L E) ∧ (DoI E 109 [(.ref 0), (.int (gj_stf E 12 (gj_n (x3 + (i3 1))))), (.int (gj_stf E 12 (gj_n (x3 + (i3 2)))))] SI SJ (fun r33 SI34 SJ34 => DoI E 197 [(.ref 81), (.int (gj_stf E 12 (gj_n (x3 + (i3 1))))), (.int (gj_stf E 12 (gj_n (x3 + (i3 2)))))] SI34 SJ34 (fun r35 SI36 SJ36 => (r33 = r35 → GoI E mt_295 18 [some (.ref 140), some (.ref 0), some (.ref 81), some (.int (x3 + (i3 6)))] SI36 SJ36 Q) ∧ (¬ r33 = r35 → Q (i3 0) SI36 SJ36)))))) ∧ (((gj_stf E 12 (gj_n x3)) &&& (i3 63)) = (i3 9) → vp_in (x3 + (i3 1)) (gj_L E) ∧ (DoI E 95 [(.ref 0), (.int (gj_stf E 12 (gj_n (x3 + (i3 1)))))] SI SJ (fun r37 SI38 SJ38 => DoI E 220 [(.ref 81), (.int (gj_stf E 12 (gj_n (x3 + (i3 1)))))] SI38 SJ38 (fun r39 SI40 SJ40 => (r37 = r39 → GoI E mt_295 18 [some (.ref 140), some (.ref 0), some (.ref 81), some (.int (x3 + (i3 6)))] SI40 SJ40 Q) ∧ (¬ r37 = r39 → Q (i3 0) SI40 SJ40))))) ∧ (((gj_stf E 12 (gj_n x3)) &&& (i3 63)) = (i3 10) → vp_in (x3 + (i3 1)) (gj_L E) ∧ (DoL E 142 [(.ref 0), (.int (gj_stf E 12 (gj_n (x3 + (i3 1)))))] SI SJ (fun r41 SI42 SJ42 => DoL E 239 [(.ref 81), (.int (gj_stf E 12 (gj_n (x3 + (i3 1)))))] SI42 SJ42 (fun r43 SI44 SJ44 => (r41 = r43 → GoI E mt_295 18 [some (.ref 140), some (.ref 0), some (.ref 81), some (.int (x3 + (i3 6)))] SI44 SJ44 Q) ∧ (¬ r41 = r43 → Q (i3 0) SI44 SJ44))))) ∧ (((gj_stf E 12 (gj_n x3)) &&& (i3 63)) = (i3 11) → vp_in (x3 + (i3 1)) (gj_L E) ∧ (DoI E 115 [(.ref 0), (.int (gj_stf E 12 (gj_n (x3 + (i3 1)))))] SI SJ (fun r45 SI46 SJ46 => DoI E 274 [(.ref 81), (.int (gj_stf E 12 (gj_n (x3 + (i3 1)))))] SI46 SJ46 (fun r47 SI48 SJ48 => (r45 = r47 → GoI E mt_295 18 [some (.ref 140), some (.ref 0), some (.ref 81), some (.int (x3 + (i3 6)))] SI48 SJ48 Q) ∧ (¬ r45 = r47 → Q (i3 0) SI48 SJ48))))) ∧ (((gj_stf E 12 (gj_n x3)) &&& (i3 63)) = (i3 12) → vp_in (x3 + (i3 1)) (gj_L E) ∧ (vp_in (x3 + (i3 2)) (gj_L E) ∧ (DoI E 116 [(.ref 0), (.int (gj_stf E 12 (gj_n (x3 + (i3 1))))), (.int (gj_stf E 12 (gj_n (x3 + (i3 2)))))] SI SJ (fun r49 SI50 SJ50 => DoI E 275 [(.ref 81), (.int (gj_stf E 12 (gj_n (x3 + (i3 1))))), (.int (gj_stf E 12 (gj_n (x3 + (i3 2)))))] SI50 SJ50 (fun r51 SI52 SJ52 => (r49 = r51 → GoI E mt_295 18 [some (.ref 140), some (.ref 0), some (.ref 81), some (.int (x3 + (i3 6)))] SI52 SJ52 Q) ∧ (¬ r49 = r51 → Q (i3 0) SI52 SJ52)))))) ∧ (((gj_stf E 12 (gj_n x3)) &&& (i3 63)) = (i3 13) → vp_in (x3 + (i3 1)) (gj_L E) ∧ (vp_in (x3 + (i3 2)) (gj_L E) ∧ (DoL E 117 [(.ref 0), (.int (gj_stf E 12 (gj_n (x3 + (i3 1))))), (.int (gj_stf E 12 (gj_n (x3 + (i3 2)))))] SI SJ (fun r53 SI54 SJ54 => DoL E 276 [(.ref 81), (.int (gj_stf E 12 (gj_n (x3 + (i3 1))))), (.int (gj_stf E 12 (gj_n (x3 + (i3 2)))))] SI54 SJ54 (fun r55 SI56 SJ56 => (r53 = r55 → GoI E mt_295 18 [some (.ref 140), some (.ref 0), some (.ref 81), some (.int (x3 + (i3 6)))] SI56 SJ56 Q) ∧ (¬ r53 = r55 → Q (i3 0) SI56 SJ56)))))) ∧ (((gj_stf E 12 (gj_n x3)) &&& (i3 63)) = (i3 14) → vp_in (x3 + (i3 1)) (gj_L E) ∧ (vp_in (x3 + (i3 2)) (gj_L E) ∧ (DoI E 118 [(.ref 0), (.int (gj_stf E 12 (gj_n (x3 + (i3 1))))), (.int (gj_stf E 12 (gj_n (x3 + (i3 2)))))] SI SJ (fun r57 SI58 SJ58 => DoI E 277 [(.ref 81), (.int (gj_stf E 12 (gj_n (x3 + (i3 1))))), (.int (gj_stf E 12 (gj_n (x3 + (i3 2)))))] SI58 SJ58 (fun r59 SI60 SJ60 => (r57 = r59 → GoI E mt_295 18 [some (.ref 140), some (.ref 0), some (.ref 81), some (.int (x3 + (i3 6)))] SI60 SJ60 Q) ∧ (¬ r57 = r59 → Q (i3 0) SI60 SJ60)))))) ∧ (((gj_stf E 12 (gj_n x3)) &&& (i3 63)) = (i3 15) → vp_in (x3 + (i3 1)) (gj_L E) ∧ (vp_in (x3 + (i3 2)) (gj_L E) ∧ (DoI E 119 [(.ref 0), (.int (gj_stf E 12 (gj_n (x3 + (i3 1))))), (.int (gj_stf E 12 (gj_n (x3 + (i3 2)))))] SI SJ (fun r61 SI62 SJ62 => DoI E 278 [(.ref 81), (.int (gj_stf E 12 (gj_n (x3 + (i3 1))))), (.int (gj_stf E 12 (gj_n (x3 + (i3 2)))))] SI62 SJ62 (fun r63 SI64 SJ64 => (r61 = r63 → GoI E mt_295 18 [some (.ref 140), some (.ref 0), some (.ref 81), some (.int (x3 + (i3 6)))] SI64 SJ64 Q) ∧ (¬ r61 = r63 → Q (i3 0) SI64 SJ64)))))) ∧ (((gj_stf E 12 (gj_n x3)) &&& (i3 63)) = (i3 16) → vp_in (x3 + (i3 1)) (gj_L E) ∧ (vp_in (x3 + (i3 2)) (gj_L E) ∧ (DoI E 124 [(.ref 0), (.int (gj_stf E 12 (gj_n (x3 + (i3 1))))), (.int (gj_stf E 12 (gj_n (x3 + (i3 2)))))] SI SJ (fun r65 SI66 SJ66 => DoI E 279 [(.ref 81), (.int (gj_stf E 12 (gj_n (x3 + (i3 1))))), (.int (gj_stf E 12 (gj_n (x3 + (i3 2)))))] SI66 SJ66 (fun r67 SI68 SJ68 => (r65 = r67 → GoI E mt_295 18 [some (.ref 140), some (.ref 0), some (.ref 81), some (.int (x3 + (i3 6)))] SI68 SJ68 Q) ∧ (¬ r65 = r67 → Q (i3 0) SI68 SJ68)))))) ∧ (((gj_stf E 12 (gj_n x3)) &&& (i3 63)) = (i3 17) → vp_in (x3 + (i3 1)) (gj_L E) ∧ (vp_in (x3 + (i3 2)) (gj_L E) ∧ (DoL E 125 [(.ref 0), (.int (gj_stf E 12 (gj_n (x3 + (i3 1))))), (.int (gj_stf E 12 (gj_n (x3 + (i3 2)))))] SI SJ (fun r69 SI70 SJ70 => DoL E 280 [(.ref 81), (.int (gj_stf E 12 (gj_n (x3 + (i3 1))))), (.int (gj_stf E 12 (gj_n (x3 + (i3 2)))))] SI70 SJ70 (fun r71 SI72 SJ72 => (r69 = r71 → GoI E mt_295 18 [some (.ref 140), some (.ref 0), some (.ref 81), some (.int (x3 + (i3 6)))] SI72 SJ72 Q) ∧ (¬ r69 = r71 → Q (i3 0) SI72 SJ72)))))) ∧ (((gj_stf E 12 (gj_n x3)) &&& (i3 63)) = (i3 18) → vp_in (x3 + (i3 1)) (gj_L E) ∧ (DoL E 135 [(.ref 0), (.int (gj_stf E 12 (gj_n (x3 + (i3 1)))))] SI SJ (fun r73 SI74 SJ74 => DoL E 245 [(.ref 81), (.int (gj_stf E 12 (gj_n (x3 + (i3 1)))))] SI74 SJ74 (fun r75 SI76 SJ76 => (r73 = r75 → GoI E mt_295 18 [some (.ref 140), some (.ref 0), some (.ref 81), some (.int (x3 + (i3 6)))] SI76 SJ76 Q) ∧ (¬ r73 = r75 → Q (i3 0) SI76 SJ76))))) ∧ (((gj_stf E 12 (gj_n x3)) &&& (i3 63)) = (i3 19) → vp_in (x3 + (i3 1)) (gj_L E) ∧ (vp_in (x3 + (i3 2)) (gj_L E) ∧ (DoL E 136 [(.ref 0), (.int (gj_stf E 12 (gj_n (x3 + (i3 1))))), (.int (gj_stf E 12 (gj_n (x3 + (i3 2)))))] SI SJ (fun r77 SI78 SJ78 => DoL E 248 [(.ref 81), (.int (gj_stf E 12 (gj_n (x3 + (i3 1))))), (.int (gj_stf E 12 (gj_n (x3 + (i3 2)))))] SI78 SJ78 (fun r79 SI80 SJ80 => (r77 = r79 → GoI E mt_295 18 [some (.ref 140), some (.ref 0), some (.ref 81), some (.int (x3 + (i3 6)))] SI80 SJ80 Q) ∧ (¬ r77 = r79 → Q (i3 0) SI80 SJ80)))))) ∧ (((gj_stf E 12 (gj_n x3)) &&& (i3 63)) = (i3 20) → vp_in (x3 + (i3 1)) (gj_L E) ∧ (vp_in (x3 + (i3 2)) (gj_L E) ∧ (vp_in (x3 + (i3 3)) (gj_L E) ∧ (DoI E 139 [(.ref 0), (.int (gj_stf E 12 (gj_n (x3 + (i3 1))))), (.int (gj_stf E 12 (gj_n (x3 + (i3 2))))), (.int (gj_stf E 12 (gj_n (x3 + (i3 3)))))] SI SJ (fun r81 SI82 SJ82 => DoI E 229 [(.ref 81), (.int (gj_stf E 12 (gj_n (x3 + (i3 1))))), (.int (gj_stf E 12 (gj_n (x3 + (i3 2))))), (.int (gj_stf E 12 (gj_n (x3 + (i3 3)))))] SI82 SJ82 (fun r83 SI84 SJ84 => (r81 = r83 → GoI E mt_295 18 [some (.ref 140), some (.ref 0), some (.ref 81), some (.int (x3 + (i3 6)))] SI84 SJ84 Q) ∧ (¬ r81 = r83 → Q (i3 0) SI84 SJ84))))))) ∧ (((gj_stf E 12 (gj_n x3)) &&& (i3 63)) = (i3 21) → vp_in (x3 + (i3 1)) (gj_L E) ∧ (vp_in (x3 + (i3 2)) (gj_L E) ∧ (vp_in (x3 + (i3 3)) (gj_L E) ∧ (vp_in (x3 + (i3 4)) (gj_L E) ∧ (DoL E 140 [(.ref 0), (.int (gj_stf E 12 (gj_n (x3 + (i3 1))))), (.int (gj_stf E 12 (gj_n (x3 + (i3 2))))), (.int (gj_stf E 12 (gj_n (x3 + (i3 3))))), (.int (gj_stf E 12 (gj_n (x3 + (i3 4)))))] SI SJ (fun r85 SI86 SJ86 => DoL E 230 [(.ref 81), (.int (gj_stf E 12 (gj_n (x3 + (i3 1))))), (.int (gj_stf E 12 (gj_n (x3 + (i3 2))))), (.int (gj_stf E 12 (gj_n (x3 + (i3 3))))), (.int (gj_stf E 12 (gj_n (x3 + (i3 4)))))] SI86 SJ86 (fun r87 SI88 SJ88 => (r85 = r87 → GoI E mt_295 18 [some (.ref 140), some (.ref 0), some (.ref 81), some (.int (x3 + (i3 6)))] SI88 SJ88 Q) ∧ (¬ r85 = r87 → Q (i3 0) SI88 SJ88)))))))) ∧ (((gj_stf E 12 (gj_n x3)) &&& (i3 63)) = (i3 22) → vp_in (x3 + (i3 1)) (gj_L E) ∧ (vp_in (x3 + (i3 2)) (gj_L E) ∧ (vp_in (x3 + (i3 3)) (gj_L E) ∧ (vp_in (x3 + (i3 4)) (gj_L E) ∧ (vp_in (x3 + (i3 5)) (gj_L E) ∧ (DoL E 141 [(.ref 0), (.int (gj_stf E 12 (gj_n (x3 + (i3 1))))), (.int (gj_stf E 12 (gj_n (x3 + (i3 2))))), (.int (gj_stf E 12 (gj_n (x3 + (i3 3))))), (.int (gj_stf E 12 (gj_n (x3 + (i3 4))))), (.int (gj_stf E 12 (gj_n (x3 + (i3 5)))))] SI SJ (fun r89 SI90 SJ90 => DoL E 231 [(.ref 81), (.int (gj_stf E 12 (gj_n (x3 + (i3 1))))), (.int (gj_stf E 12 (gj_n (x3 + (i3 2))))), (.int (gj_stf E 12 (gj_n (x3 + (i3 3))))), (.int (gj_stf E 12 (gj_n (x3 + (i3 4))))), (.int (gj_stf E 12 (gj_n (x3 + (i3 5)))))] SI90 SJ90 (fun r91 SI92 SJ92 => (r89 = r91 → GoI E mt_295 18 [some (.ref 140), some (.ref 0), some (.ref 81), some (.int (x3 + (i3 6)))] SI92 SJ92 Q) ∧ (¬ r89 = r91 → Q (i3 0) SI92 SJ92))))))))) ∧ (((gj_stf E 12 (gj_n x3)) &&& (i3 63)) = (i3 23) → vp_in (x3 + (i3 1)) (gj_L E) ∧ (DoL E 137 [(.ref 0), (.int (gj_stf E 12 (gj_n (x3 + (i3 1)))))] SI SJ (fun r93 SI94 SJ94 => DoL E 254 [(.ref 81), (.int (gj_stf E 12 (gj_n (x3 + (i3 1)))))] SI94 SJ94 (fun r95 SI96 SJ96 => (r93 = r95 → GoI E mt_295 18 [some (.ref 140), some (.ref 0), some (.ref 81), some (.int (x3 + (i3 6)))] SI96 SJ96 Q) ∧ (¬ r93 = r95 → Q (i3 0) SI96 SJ96))))) ∧ (((gj_stf E 12 (gj_n x3)) &&& (i3 63)) = (i3 24) → vp_in (x3 + (i3 1)) (gj_L E) ∧ (DoL E 138 [(.ref 0), (.int (gj_stf E 12 (gj_n (x3 + (i3 1)))))] SI SJ (fun r97 SI98 SJ98 => DoL E 258 [(.ref 81), (.int (gj_stf E 12 (gj_n (x3 + (i3 1)))))] SI98 SJ98 (fun r99 SI100 SJ100 => (r97 = r99 → GoI E mt_295 18 [some (.ref 140), some (.ref 0), some (.ref 81), some (.int (x3 + (i3 6)))] SI100 SJ100 Q) ∧ (¬ r97 = r99 → Q (i3 0) SI100 SJ100))))) ∧ (((gj_stf E 12 (gj_n x3)) &&& (i3 63)) = (i3 25) → vp_in (x3 + (i3 1)) (gj_L E) ∧ (DoI E 130 [(.ref 0), (.int (gj_stf E 12 (gj_n (x3 + (i3 1)))))] SI SJ (fun r101 SI102 SJ102 => DoI E 262 [(.ref 81), (.int (gj_stf E 12 (gj_n (x3 + (i3 1)))))] SI102 SJ102 (fun r103 SI104 SJ104 => (r101 = r103 → GoI E mt_295 18 [some (.ref 140), some (.ref 0), some (.ref 81), some (.int (x3 + (i3 6)))] SI104 SJ104 Q) ∧ (¬ r101 = r103 → Q (i3 0) SI104 SJ104))))) ∧ (((gj_stf E 12 (gj_n x3)) &&& (i3 63)) = (i3 26) → vp_in (x3 + (i3 1)) (gj_L E) ∧ (DoL E 133 [(.ref 0), (.int (gj_stf E 12 (gj_n (x3 + (i3 1)))))] SI SJ (fun r105 SI106 SJ106 => DoL E 263 [(.ref 81), (.int (gj_stf E 12 (gj_n (x3 + (i3 1)))))] SI106 SJ106 (fun r107 SI108 SJ108 => (r105 = r107 → GoI E mt_295 18 [some (.ref 140), some (.ref 0), some (.ref 81), some (.int (x3 + (i3 6)))] SI108 SJ108 Q) ∧ (¬ r105 = r107 → Q (i3 0) SI108 SJ108))))) ∧ (((gj_stf E 12 (gj_n x3)) &&& (i3 63)) = (i3 27) → vp_in (x3 + (i3 1)) (gj_L E) ∧ (DoL E 134 [(.ref 0), (.int (gj_stf E 12 (gj_n (x3 + (i3 1)))))] SI SJ (fun r109 SI110 SJ110 => DoL E 264 [(.ref 81), (.int (gj_stf E 12 (gj_n (x3 + (i3 1)))))] SI110 SJ110 (fun r111 SI112 SJ112 => (r109 = r111 → GoI E mt_295 18 [some (.ref 140), some (.ref 0), some (.ref 81), some (.int (x3 + (i3 6)))] SI112 SJ112 Q) ∧ (¬ r109 = r111 → Q (i3 0) SI112 SJ112))))) ∧ (((gj_stf E 12 (gj_n x3)) &&& (i3 63)) = (i3 28) → vp_in (x3 + (i3 1)) (gj_L E) ∧ (vp_in (x3 + (i3 2)) (gj_L E) ∧ (DoI E 131 [(.ref 0), (.int (gj_stf E 12 (gj_n (x3 + (i3 1))))), (.int (gj_stf E 12 (gj_n (x3 + (i3 2)))))] SI SJ (fun r113 SI114 SJ114 => DoI E 266 [(.ref 81), (.int (gj_stf E 12 (gj_n (x3 + (i3 1))))), (.int (gj_stf E 12 (gj_n (x3 + (i3 2)))))] SI114 SJ114 (fun r115 SI116 SJ116 => (r113 = r115 → GoI E mt_295 18 [some (.ref 140), some (.ref 0), some (.ref 81), some (.int (x3 + (i3 6)))] SI116 SJ116 Q) ∧ (¬ r113 = r115 → Q (i3 0) SI116 SJ116)))))) ∧ (((gj_stf E 12 (gj_n x3)) &&& (i3 63)) = (i3 29) → vp_in (x3 + (i3 1)) (gj_L E) ∧ (DoI E 132 [(.ref 0), (.int (gj_stf E 12 (gj_n (x3 + (i3 1)))))] SI SJ (fun r117 SI118 SJ118 => DoI E 267 [(.ref 81), (.int (gj_stf E 12 (gj_n (x3 + (i3 1)))))] SI118 SJ118 (fun r119 SI120 SJ120 => (r117 = r119 → GoI E mt_295 18 [some (.ref 140), some (.ref 0), some (.ref 81), some (.int (x3 + (i3 6)))] SI120 SJ120 Q) ∧ (¬ r117 = r119 → Q (i3 0) SI120 SJ120))))) ∧ (((gj_stf E 12 (gj_n x3)) &&& (i3 63)) = (i3 30) → vp_in (x3 + (i3 1)) (gj_L E) ∧ (vp_in (x3 + (i3 2)) (gj_L E) ∧ (DoI E 120 [(.ref 0), (.int (gj_stf E 12 (gj_n (x3 + (i3 1))))), (.int (gj_stf E 12 (gj_n (x3 + (i3 2)))))] SI SJ (fun r121 SI122 SJ122 => DoI E 270 [(.ref 81), (.int (gj_stf E 12 (gj_n (x3 + (i3 1))))), (.int (gj_stf E 12 (gj_n (x3 + (i3 2)))))] SI122 SJ122 (fun r123 SI124 SJ124 => (r121 = r123 → GoI E mt_295 18 [some (.ref 140), some (.ref 0), some (.ref 81), some (.int (x3 + (i3 6)))] SI124 SJ124 Q) ∧ (¬ r121 = r123 → Q (i3 0) SI124 SJ124)))))) ∧ (((gj_stf E 12 (gj_n x3)) &&& (i3 63)) = (i3 31) → vp_in (x3 + (i3 1)) (gj_L E) ∧ (vp_in (x3 + (i3 2)) (gj_L E) ∧ (vp_in (x3 + (i3 3)) (gj_L E) ∧ (DoL E 147 [(.ref 0), (.int (gj_stf E 12 (gj_n (x3 + (i3 1))))), (.int (gj_stf E 12 (gj_n (x3 + (i3 2))))), (.int (gj_stf E 12 (gj_n (x3 + (i3 3)))))] SI SJ (fun r125 SI126 SJ126 => DoL E 234 [(.ref 81), (.int (gj_stf E 12 (gj_n (x3 + (i3 1))))), (.int (gj_stf E 12 (gj_n (x3 + (i3 2))))), (.int (gj_stf E 12 (gj_n (x3 + (i3 3)))))] SI126 SJ126 (fun r127 SI128 SJ128 => (r125 = r127 → GoI E mt_295 18 [some (.ref 140), some (.ref 0), some (.ref 81), some (.int (x3 + (i3 6)))] SI128 SJ128 Q) ∧ (¬ r125 = r127 → Q (i3 0) SI128 SJ128))))))) ∧ (((gj_stf E 12 (gj_n x3)) &&& (i3 63)) = (i3 32) → vp_in (x3 + (i3 1)) (gj_L E) ∧ (DoI E 149 [(.ref 0), (.int (gj_stf E 12 (gj_n (x3 + (i3 1)))))] SI SJ (fun r129 SI130 SJ130 => DoI E 235 [(.ref 81), (.int (gj_stf E 12 (gj_n (x3 + (i3 1)))))] SI130 SJ130 (fun r131 SI132 SJ132 => (r129 = r131 → GoI E mt_295 18 [some (.ref 140), some (.ref 0), some (.ref 81), some (.int (x3 + (i3 6)))] SI132 SJ132 Q) ∧ (¬ r129 = r131 → Q (i3 0) SI132 SJ132))))) ∧ (((gj_stf E 12 (gj_n x3)) &&& (i3 63)) = (i3 33) → vp_in (x3 + (i3 1)) (gj_L E) ∧ (vp_in (x3 + (i3 2)) (gj_L E) ∧ (DoI E 150 [(.ref 0), (.int (gj_stf E 12 (gj_n (x3 + (i3 1))))), (.int (gj_stf E 12 (gj_n (x3 + (i3 2)))))] SI SJ (fun r133 SI134 SJ134 => DoI E 237 [(.ref 81), (.int (gj_stf E 12 (gj_n (x3 + (i3 1))))), (.int (gj_stf E 12 (gj_n (x3 + (i3 2)))))] SI134 SJ134 (fun r135 SI136 SJ136 => (r133 = r135 → GoI E mt_295 18 [some (.ref 140), some (.ref 0), some (.ref 81), some (.int (x3 + (i3 6)))] SI136 SJ136 Q) ∧ (¬ r133 = r135 → Q (i3 0) SI136 SJ136)))))) ∧ (((gj_stf E 12 (gj_n x3)) &&& (i3 63)) = (i3 34) → vp_in (x3 + (i3 1)) (gj_L E) ∧ (DoI E 110 [(.ref 0), (.int (gj_stf E 12 (gj_n (x3 + (i3 1)))))] SI SJ (fun r137 SI138 SJ138 => DoI E 238 [(.ref 81), (.int (gj_stf E 12 (gj_n (x3 + (i3 1)))))] SI138 SJ138 (fun r139 SI140 SJ140 => (r137 = r139 → GoI E mt_295 18 [some (.ref 140), some (.ref 0), some (.ref 81), some (.int (x3 + (i3 6)))] SI140 SJ140 Q) ∧ (¬ r137 = r139 → Q (i3 0) SI140 SJ140))))) ∧ (((gj_stf E 12 (gj_n x3)) &&& (i3 63)) = (i3 35) → DoI E 111 [(.ref 0)] SI SJ (fun r141 SI142 SJ142 => DoI E 281 [(.ref 81)] SI142 SJ142 (fun r143 SI144 SJ144 => (r141 = r143 → GoI E mt_295 18 [some (.ref 140), some (.ref 0), some (.ref 81), some (.int (x3 + (i3 6)))] SI144 SJ144 Q) ∧ (¬ r141 = r143 → Q (i3 0) SI144 SJ144)))) ∧ (((gj_stf E 12 (gj_n x3)) &&& (i3 63)) = (i3 36) → DoI E 112 [(.ref 0)] SI SJ (fun r145 SI146 SJ146 => DoI E 282 [(.ref 81)] SI146 SJ146 (fun r147 SI148 SJ148 => (r145 = r147 → GoI E mt_295 18 [some (.ref 140), some (.ref 0), some (.ref 81), some (.int (x3 + (i3 6)))] SI148 SJ148 Q) ∧ (¬ r145 = r147 → Q (i3 0) SI148 SJ148)))) ∧ (((gj_stf E 12 (gj_n x3)) &&& (i3 63)) = (i3 37) → vp_in (x3 + (i3 1)) (gj_L E) ∧ (DoI E 98 [(.ref 0), (.int (gj_stf E 12 (gj_n (x3 + (i3 1)))))] SI SJ (fun r149 SI150 SJ150 => DoI E 283 [(.ref 81), (.int (gj_stf E 12 (gj_n (x3 + (i3 1)))))] SI150 SJ150 (fun r151 SI152 SJ152 => (r149 = r151 → GoI E mt_295 18 [some (.ref 140), some (.ref 0), some (.ref 81), some (.int (x3 + (i3 6)))] SI152 SJ152 Q) ∧ (¬ r149 = r151 → Q (i3 0) SI152 SJ152))))) ∧ (((gj_stf E 12 (gj_n x3)) &&& (i3 63)).toInt < 0 ∨ 37 < ((gj_stf E 12 (gj_n x3)) &&& (i3 63)).toInt → GoI E mt_295 18 [some (.ref 140), some (.ref 0), some (.ref 81), some (.int (x3 + (i3 6)))] SI SJ Q)))) : GoI E mt_295 18 [some (.ref 140), some (.ref 0), some (.ref 81), some (.int x3)] SI SJ Q := by
  refine gj_goq gj_clT ok_295 [18, 229, 258, 272, 281, 295, 304, 323, 337, 351, 360, 379, 393, 412, 426, 435, 439, 458, 472, 486, 495, 509, 518, 533, 542, 561, 575, 594, 608, 628, 642, 661, 675, 694, 708, 727, 741, 756, 765, 785, 799, 824, 843, 872, 896, 931, 960, 975, 984, 999, 1008, 1023, 1032, 1046, 1055, 1070, 1079, 1099, 1113, 1127, 1136, 1155, 1169, 1193, 1212, 1227, 1236, 1255, 1269, 1283, 1292, 1301, 1305, 1314, 1318, 1332, 1341] ?_
  show (((Int32.ofNat (gj_L E)) - (i3 6)) < x3 → gj_Goes E om0 mt_295 1352 [some (.ref 140), some (.ref 0), some (.ref 81), some (.int x3)] [] SI SJ (QI Q)) ∧ (¬ ((Int32.ofNat (gj_L E)) - (i3 6)) < x3 → vp_in x3 (gj_L E) ∧ (((((gj_stf E 12 (gj_n x3)) &&& (i3 63)) = Int32.ofInt (0) → gj_Goes E om0 mt_295 200 [some (.ref 140), some (.ref 0), some (.ref 81), some (.int x3)] [] SI SJ (QI Q)) ∧ (((gj_stf E 12 (gj_n x3)) &&& (i3 63)) = Int32.ofInt (1) → gj_Goes E om0 mt_295 263 [some (.ref 140), some (.ref 0), some (.ref 81), some (.int x3)] [] SI SJ (QI Q)) ∧ (((gj_stf E 12 (gj_n x3)) &&& (i3 63)) = Int32.ofInt (2) → gj_Goes E om0 mt_295 286 [some (.ref 140), some (.ref 0), some (.ref 81), some (.int x3)] [] SI SJ (QI Q)) ∧ (((gj_stf E 12 (gj_n x3)) &&& (i3 63)) = Int32.ofInt (3) → gj_Goes E om0 mt_295 309 [some (.ref 140), some (.ref 0), some (.ref 81), some (.int x3)] [] SI SJ (QI Q)) ∧ (((gj_stf E 12 (gj_n x3)) &&& (i3 63)) = Int32.ofInt (4) → gj_Goes E om0 mt_295 342 [some (.ref 140), some (.ref 0), some (.ref 81), some (.int x3)] [] SI SJ (QI Q)) ∧ (((gj_stf E 12 (gj_n x3)) &&& (i3 63)) = Int32.ofInt (5) → gj_Goes E om0 mt_295 365 [some (.ref 140), some (.ref 0), some (.ref 81), some (.int x3)] [] SI SJ (QI Q)) ∧ (((gj_stf E 12 (gj_n x3)) &&& (i3 63)) = Int32.ofInt (6) → gj_Goes E om0 mt_295 398 [some (.ref 140), some (.ref 0), some (.ref 81), some (.int x3)] [] SI SJ (QI Q)) ∧ (((gj_stf E 12 (gj_n x3)) &&& (i3 63)) = Int32.ofInt (7) → gj_Goes E om0 mt_295 431 [some (.ref 140), some (.ref 0), some (.ref 81), some (.int x3)] [] SI SJ (QI Q)) ∧ (((gj_stf E 12 (gj_n x3)) &&& (i3 63)) = Int32.ofInt (8) → gj_Goes E om0 mt_295 444 [some (.ref 140), some (.ref 0), some (.ref 81), some (.int x3)] [] SI SJ (QI Q)) ∧ (((gj_stf E 12 (gj_n x3)) &&& (i3 63)) = Int32.ofInt (9) → gj_Goes E om0 mt_295 477 [some (.ref 140), some (.ref 0), some (.ref 81), some (.int x3)] [] SI SJ (QI Q)) ∧ (((gj_stf E 12 (gj_n x3)) &&& (i3 63)) = Int32.ofInt (10) → gj_Goes E om0 mt_295 500 [some (.ref 140), some (.ref 0), some (.ref 81), some (.int x3)] [] SI SJ (QI Q)) ∧ (((gj_stf E 12 (gj_n x3)) &&& (i3 63)) = Int32.ofInt (11) → gj_Goes E om0 mt_295 524 [some (.ref 140), some (.ref 0), some (.ref 81), some (.int x3)] [] SI SJ (QI Q)) ∧ (((gj_stf E 12 (gj_n x3)) &&& (i3 63)) = Int32.ofInt (12) → gj_Goes E om0 mt_295 547 [some (.ref 140), some (.ref 0), some (.ref 81), some (.int x3)] [] SI SJ (QI Q)) ∧ (((gj_stf E 12 (gj_n x3)) &&& (i3 63)) = Int32.ofInt (13) → gj_Goes E om0 mt_295 580 [some (.ref 140), some (.ref 0), some (.ref 81), some (.int x3)] [] SI SJ (QI Q)) ∧ (((gj_stf E 12 (gj_n x3)) &&& (i3 63)) = Int32.ofInt (14) → gj_Goes E om0 mt_295 614 [some (.ref 140), some (.ref 0), some (.ref 81), some (.int x3)] [] SI SJ (QI Q)) ∧ (((gj_stf E 12 (gj_n x3)) &&& (i3 63)) = Int32.ofInt (15) → gj_Goes E om0 mt_295 647 [some (.ref 140), some (.ref 0), some (.ref 81), some (.int x3)] [] SI SJ (QI Q)) ∧ (((gj_stf E 12 (gj_n x3)) &&& (i3 63)) = Int32.ofInt (16) → gj_Goes E om0 mt_295 680 [some (.ref 140), some (.ref 0), some (.ref 81), some (.int x3)] [] SI SJ (QI Q)) ∧ (((gj_stf E 12 (gj_n x3)) &&& (i3 63)) = Int32.ofInt (17) → gj_Goes E om0 mt_295 713 [some (.ref 140), some (.ref 0), some (.ref 81), some (.int x3)] [] SI SJ (QI Q)) ∧ (((gj_stf E 12 (gj_n x3)) &&& (i3 63)) = Int32.ofInt (18) → gj_Goes E om0 mt_295 747 [some (.ref 140), some (.ref 0), some (.ref 81), some (.int x3)] [] SI SJ (QI Q)) ∧ (((gj_stf E 12 (gj_n x3)) &&& (i3 63)) = Int32.ofInt (19) → gj_Goes E om0 mt_295 771 [some (.ref 140), some (.ref 0), some (.ref 81), some (.int x3)] [] SI SJ (QI Q)) ∧ (((gj_stf E 12 (gj_n x3)) &&& (i3 63)) = Int32.ofInt (20) → gj_Goes E om0 mt_295 805 [some (.ref 140), some (.ref 0), some (.ref 81), some (.int x3)] [] SI SJ (QI Q)) ∧ (((gj_stf E 12 (gj_n x3)) &&& (i3 63)) = Int32.ofInt (21) → gj_Goes E om0 mt_295 848 [some (.ref 140), some (.ref 0), some (.ref 81), some (.int x3)] [] SI SJ (QI Q)) ∧ (((gj_stf E 12 (gj_n x3)) &&& (i3 63)) = Int32.ofInt (22) → gj_Goes E om0 mt_295 902 [some (.ref 140), some (.ref 0), some (.ref 81), some (.int x3)] [] SI SJ (QI Q)) ∧ (((gj_stf E 12 (gj_n x3)) &&& (i3 63)) = Int32.ofInt (23) → gj_Goes E om0 mt_295 966 [some (.ref 140), some (.ref 0), some (.ref 81), some (.int x3)] [] SI SJ (QI Q)) ∧ (((gj_stf E 12 (gj_n x3)) &&& (i3 63)) = Int32.ofInt (24) → gj_Goes E om0 mt_295 990 [some (.ref 140), some (.ref 0), some (.ref 81), some (.int x3)] [] SI SJ (QI Q)) ∧ (((gj_stf E 12 (gj_n x3)) &&& (i3 63)) = Int32.ofInt (25) → gj_Goes E om0 mt_295 1014 [some (.ref 140), some (.ref 0), some (.ref 81), some (.int x3)] [] SI SJ (QI Q)) ∧ (((gj_stf E 12 (gj_n x3)) &&& (i3 63)) = Int32.ofInt (26) → gj_Goes E om0 mt_295 1037 [some (.ref 140), some (.ref 0), some (.ref 81), some (.int x3)] [] SI SJ (QI Q)) ∧ (((gj_stf E 12 (gj_n x3)) &&& (i3 63)) = Int32.ofInt (27) → gj_Goes E om0 mt_295 1061 [some (.ref 140), some (.ref 0), some (.ref 81), some (.int x3)] [] SI SJ (QI Q)) ∧ (((gj_stf E 12 (gj_n x3)) &&& (i3 63)) = Int32.ofInt (28) → gj_Goes E om0 mt_295 1085 [some (.ref 140), some (.ref 0), some (.ref 81), some (.int x3)] [] SI SJ (QI Q)) ∧ (((gj_stf E 12 (gj_n x3)) &&& (i3 63)) = Int32.ofInt (29) → gj_Goes E om0 mt_295 1118 [some (.ref 140), some (.ref 0), some (.ref 81), some (.int x3)] [] SI SJ (QI Q)) ∧ (((gj_stf E 12 (gj_n x3)) &&& (i3 63)) = Int32.ofInt (30) → gj_Goes E om0 mt_295 1141 [some (.ref 140), some (.ref 0), some (.ref 81), some (.int x3)] [] SI SJ (QI Q)) ∧ (((gj_stf E 12 (gj_n x3)) &&& (i3 63)) = Int32.ofInt (31) → gj_Goes E om0 mt_295 1174 [some (.ref 140), some (.ref 0), some (.ref 81), some (.int x3)] [] SI SJ (QI Q)) ∧ (((gj_stf E 12 (gj_n x3)) &&& (i3 63)) = Int32.ofInt (32) → gj_Goes E om0 mt_295 1218 [some (.ref 140), some (.ref 0), some (.ref 81), some (.int x3)] [] SI SJ (QI Q)) ∧ (((gj_stf E 12 (gj_n x3)) &&& (i3 63)) = Int32.ofInt (33) → gj_Goes E om0 mt_295 1241 [some (.ref 140), some (.ref 0), some (.ref 81), some (.int x3)] [] SI SJ (QI Q)) ∧ (((gj_stf E 12 (gj_n x3)) &&& (i3 63)) = Int32.ofInt (34) → gj_Goes E om0 mt_295 1274 [some (.ref 140), some (.ref 0), some (.ref 81), some (.int x3)] [] SI SJ (QI Q)) ∧ (((gj_stf E 12 (gj_n x3)) &&& (i3 63)) = Int32.ofInt (35) → gj_Goes E om0 mt_295 1297 [some (.ref 140), some (.ref 0), some (.ref 81), some (.int x3)] [] SI SJ (QI Q)) ∧ (((gj_stf E 12 (gj_n x3)) &&& (i3 63)) = Int32.ofInt (36) → gj_Goes E om0 mt_295 1310 [some (.ref 140), some (.ref 0), some (.ref 81), some (.int x3)] [] SI SJ (QI Q)) ∧ (((gj_stf E 12 (gj_n x3)) &&& (i3 63)) = Int32.ofInt (37) → gj_Goes E om0 mt_295 1323 [some (.ref 140), some (.ref 0), some (.ref 81), some (.int x3)] [] SI SJ (QI Q)) ∧ True) ∧ (((gj_stf E 12 (gj_n x3)) &&& (i3 63)).toInt < 0 ∨ 37 < ((gj_stf E 12 (gj_n x3)) &&& (i3 63)).toInt → gj_Goes E om0 mt_295 1346 [some (.ref 140), some (.ref 0), some (.ref 81), some (.int x3)] [] SI SJ (QI Q))))
  refine ⟨fun c1 => ?_, fun c1 => ?_⟩
  · refine gj_goq gj_clT ok_295 [18, 229, 258, 272, 281, 295, 304, 323, 337, 351, 360, 379, 393, 412, 426, 435, 439, 458, 472, 486, 495, 509, 518, 533, 542, 561, 575, 594, 608, 628, 642, 661, 675, 694, 708, 727, 741, 756, 765, 785, 799, 824, 843, 872, 896, 931, 960, 975, 984, 999, 1008, 1023, 1032, 1046, 1055, 1070, 1079, 1099, 1113, 1127, 1136, 1155, 1169, 1193, 1212, 1227, 1236, 1255, 1269, 1283, 1292, 1301, 1305, 1314, 1318, 1332, 1341] ?_
    show ((i3 1) = 0 ∨ (i3 1) = 1) ∧ (QI Q (some (.int (i3 1))) SI SJ)
    refine ⟨(Or.inr rfl), ?_⟩
    exact ⟨_, rfl, (h.1 c1)⟩
  · have k2 := (h.2 c1).1
    refine ⟨k2, ?_⟩
    refine ⟨⟨fun c3 => ?_, ⟨fun c3 => ?_, ⟨fun c3 => ?_, ⟨fun c3 => ?_, ⟨fun c3 => ?_, ⟨fun c3 => ?_, ⟨fun c3 => ?_, ⟨fun c3 => ?_, ⟨fun c3 => ?_, ⟨fun c3 => ?_, ⟨fun c3 => ?_, ⟨fun c3 => ?_, ⟨fun c3 => ?_, ⟨fun c3 => ?_, ⟨fun c3 => ?_, ⟨fun c3 => ?_, ⟨fun c3 => ?_, ⟨fun c3 => ?_, ⟨fun c3 => ?_, ⟨fun c3 => ?_, ⟨fun c3 => ?_, ⟨fun c3 => ?_, ⟨fun c3 => ?_, ⟨fun c3 => ?_, ⟨fun c3 => ?_, ⟨fun c3 => ?_, ⟨fun c3 => ?_, ⟨fun c3 => ?_, ⟨fun c3 => ?_, ⟨fun c3 => ?_, ⟨fun c3 => ?_, ⟨fun c3 => ?_, ⟨fun c3 => ?_, ⟨fun c3 => ?_, ⟨fun c3 => ?_, ⟨fun c3 => ?_, ⟨fun c3 => ?_, ⟨fun c3 => ?_, trivial⟩⟩⟩⟩⟩⟩⟩⟩⟩⟩⟩⟩⟩⟩⟩⟩⟩⟩⟩⟩⟩⟩⟩⟩⟩⟩⟩⟩⟩⟩⟩⟩⟩⟩⟩⟩⟩⟩, fun c3 => ?_⟩
    · refine gj_goq gj_clT ok_295 [18, 229, 258, 272, 281, 295, 304, 323, 337, 351, 360, 379, 393, 412, 426, 435, 439, 458, 472, 486, 495, 509, 518, 533, 542, 561, 575, 594, 608, 628, 642, 661, 675, 694, 708, 727, 741, 756, 765, 785, 799, 824, 843, 872, 896, 931, 960, 975, 984, 999, 1008, 1023, 1032, 1046, 1055, 1070, 1079, 1099, 1113, 1127, 1136, 1155, 1169, 1193, 1212, 1227, 1236, 1255, 1269, 1283, 1292, 1301, 1305, 1314, 1318, 1332, 1341] ?_
      show vp_in (x3 + (i3 1)) (gj_L E) ∧ (vp_in (x3 + (i3 2)) (gj_L E) ∧ (vp_in (x3 + (i3 3)) (gj_L E) ∧ (vp_in (x3 + (i3 4)) (gj_L E) ∧ (vp_in (x3 + (i3 5)) (gj_L E) ∧ (gj_Do E om0 (gj_mt 91) [(.ref 0), (.int (gj_stf E 12 (gj_n (x3 + (i3 1))))), (.int (gj_stf E 12 (gj_n (x3 + (i3 2))))), (.int (gj_stf E 12 (gj_n (x3 + (i3 3))))), (.int (gj_stf E 12 (gj_n (x3 + (i3 4))))), (.int (gj_stf E 12 (gj_n (x3 + (i3 5)))))] SI SJ _)))))
      have k4 := ((h.2 c1).2.1 c3).1
      refine ⟨k4, ?_⟩
      have k5 := ((h.2 c1).2.1 c3).2.1
      refine ⟨k5, ?_⟩
      have k6 := ((h.2 c1).2.1 c3).2.2.1
      refine ⟨k6, ?_⟩
      have k7 := ((h.2 c1).2.1 c3).2.2.2.1
      refine ⟨k7, ?_⟩
      have k8 := ((h.2 c1).2.1 c3).2.2.2.2.1
      refine ⟨k8, ?_⟩
      refine gj_Do.mono ((h.2 c1).2.1 c3).2.2.2.2.2 (fun v_ SI2 SJ2 h_ => ?_)
      obtain ⟨r1, rfl, q9⟩ := h_
      show gj_Goes E om0 mt_295 229 [some (.ref 140), some (.ref 0), some (.ref 81), some (.int x3)] [(.int r1)] SI2 SJ2 (QI Q)
      refine gj_goq gj_clT ok_295 [18, 229, 258, 272, 281, 295, 304, 323, 337, 351, 360, 379, 393, 412, 426, 435, 439, 458, 472, 486, 495, 509, 518, 533, 542, 561, 575, 594, 608, 628, 642, 661, 675, 694, 708, 727, 741, 756, 765, 785, 799, 824, 843, 872, 896, 931, 960, 975, 984, 999, 1008, 1023, 1032, 1046, 1055, 1070, 1079, 1099, 1113, 1127, 1136, 1155, 1169, 1193, 1212, 1227, 1236, 1255, 1269, 1283, 1292, 1301, 1305, 1314, 1318, 1332, 1341] ?_
      show vp_in (x3 + (i3 1)) (gj_L E) ∧ (vp_in (x3 + (i3 2)) (gj_L E) ∧ (vp_in (x3 + (i3 3)) (gj_L E) ∧ (vp_in (x3 + (i3 4)) (gj_L E) ∧ (vp_in (x3 + (i3 5)) (gj_L E) ∧ (gj_Do E om0 (gj_mt 206) [(.ref 81), (.int (gj_stf E 12 (gj_n (x3 + (i3 1))))), (.int (gj_stf E 12 (gj_n (x3 + (i3 2))))), (.int (gj_stf E 12 (gj_n (x3 + (i3 3))))), (.int (gj_stf E 12 (gj_n (x3 + (i3 4))))), (.int (gj_stf E 12 (gj_n (x3 + (i3 5)))))] SI2 SJ2 _)))))
      refine ⟨k4, ?_⟩
      refine ⟨k5, ?_⟩
      refine ⟨k6, ?_⟩
      refine ⟨k7, ?_⟩
      refine ⟨k8, ?_⟩
      refine gj_Do.mono q9 (fun v_ SI4 SJ4 h_ => ?_)
      obtain ⟨r3, rfl, q10⟩ := h_
      show gj_Goes E om0 mt_295 258 [some (.ref 140), some (.ref 0), some (.ref 81), some (.int x3)] [(.int r3), (.int r1)] SI4 SJ4 (QI Q)
      refine gj_goq gj_clT ok_295 [18, 229, 258, 272, 281, 295, 304, 323, 337, 351, 360, 379, 393, 412, 426, 435, 439, 458, 472, 486, 495, 509, 518, 533, 542, 561, 575, 594, 608, 628, 642, 661, 675, 694, 708, 727, 741, 756, 765, 785, 799, 824, 843, 872, 896, 931, 960, 975, 984, 999, 1008, 1023, 1032, 1046, 1055, 1070, 1079, 1099, 1113, 1127, 1136, 1155, 1169, 1193, 1212, 1227, 1236, 1255, 1269, 1283, 1292, 1301, 1305, 1314, 1318, 1332, 1341] ?_
      show (r1 = r3 → gj_Goes E om0 mt_295 1346 [some (.ref 140), some (.ref 0), some (.ref 81), some (.int x3)] [] SI4 SJ4 (QI Q)) ∧ (¬ r1 = r3 → ((i3 0) = 0 ∨ (i3 0) = 1) ∧ (QI Q (some (.int (i3 0))) SI4 SJ4))
      refine ⟨fun c11 => ?_, fun c11 => ?_⟩
      · refine gj_goq gj_clT ok_295 [18, 229, 258, 272, 281, 295, 304, 323, 337, 351, 360, 379, 393, 412, 426, 435, 439, 458, 472, 486, 495, 509, 518, 533, 542, 561, 575, 594, 608, 628, 642, 661, 675, 694, 708, 727, 741, 756, 765, 785, 799, 824, 843, 872, 896, 931, 960, 975, 984, 999, 1008, 1023, 1032, 1046, 1055, 1070, 1079, 1099, 1113, 1127, 1136, 1155, 1169, 1193, 1212, 1227, 1236, 1255, 1269, 1283, 1292, 1301, 1305, 1314, 1318, 1332, 1341] ?_
        show gj_Goes E om0 mt_295 18 [some (.ref 140), some (.ref 0), some (.ref 81), some (.int (x3 + (i3 6)))] [] SI4 SJ4 (QI Q)
        exact (q10.1 c11)
      · refine ⟨(Or.inl rfl), ?_⟩
        exact ⟨_, rfl, (q10.2 c11)⟩
    · refine gj_goq gj_clT ok_295 [18, 229, 258, 272, 281, 295, 304, 323, 337, 351, 360, 379, 393, 412, 426, 435, 439, 458, 472, 486, 495, 509, 518, 533, 542, 561, 575, 594, 608, 628, 642, 661, 675, 694, 708, 727, 741, 756, 765, 785, 799, 824, 843, 872, 896, 931, 960, 975, 984, 999, 1008, 1023, 1032, 1046, 1055, 1070, 1079, 1099, 1113, 1127, 1136, 1155, 1169, 1193, 1212, 1227, 1236, 1255, 1269, 1283, 1292, 1301, 1305, 1314, 1318, 1332, 1341] ?_
      show vp_in (x3 + (i3 1)) (gj_L E) ∧ (gj_Do E om0 (gj_mt 92) [(.ref 0), (.int (gj_stf E 12 (gj_n (x3 + (i3 1)))))] SI SJ _)
      have k12 := ((h.2 c1).2.2.1 c3).1
      refine ⟨k12, ?_⟩
      refine gj_Do.mono ((h.2 c1).2.2.1 c3).2 (fun v_ SI6 SJ6 h_ => ?_)
      obtain ⟨r5, rfl, q13⟩ := h_
      show gj_Goes E om0 mt_295 272 [some (.ref 140), some (.ref 0), some (.ref 81), some (.int x3)] [(.int r5)] SI6 SJ6 (QI Q)
      refine gj_goq gj_clT ok_295 [18, 229, 258, 272, 281, 295, 304, 323, 337, 351, 360, 379, 393, 412, 426, 435, 439, 458, 472, 486, 495, 509, 518, 533, 542, 561, 575, 594, 608, 628, 642, 661, 675, 694, 708, 727, 741, 756, 765, 785, 799, 824, 843, 872, 896, 931, 960, 975, 984, 999, 1008, 1023, 1032, 1046, 1055, 1070, 1079, 1099, 1113, 1127, 1136, 1155, 1169, 1193, 1212, 1227, 1236, 1255, 1269, 1283, 1292, 1301, 1305, 1314, 1318, 1332, 1341] ?_
      show vp_in (x3 + (i3 1)) (gj_L E) ∧ (gj_Do E om0 (gj_mt 215) [(.ref 81), (.int (gj_stf E 12 (gj_n (x3 + (i3 1)))))] SI6 SJ6 _)
      refine ⟨k12, ?_⟩
      refine gj_Do.mono q13 (fun v_ SI8 SJ8 h_ => ?_)
      obtain ⟨r7, rfl, q14⟩ := h_
      show gj_Goes E om0 mt_295 281 [some (.ref 140), some (.ref 0), some (.ref 81), some (.int x3)] [(.int r7), (.int r5)] SI8 SJ8 (QI Q)
      refine gj_goq gj_clT ok_295 [18, 229, 258, 272, 281, 295, 304, 323, 337, 351, 360, 379, 393, 412, 426, 435, 439, 458, 472, 486, 495, 509, 518, 533, 542, 561, 575, 594, 608, 628, 642, 661, 675, 694, 708, 727, 741, 756, 765, 785, 799, 824, 843, 872, 896, 931, 960, 975, 984, 999, 1008, 1023, 1032, 1046, 1055, 1070, 1079, 1099, 1113, 1127, 1136, 1155, 1169, 1193, 1212, 1227, 1236, 1255, 1269, 1283, 1292, 1301, 1305, 1314, 1318, 1332, 1341] ?_
      show (r5 = r7 → gj_Goes E om0 mt_295 1346 [some (.ref 140), some (.ref 0), some (.ref 81), some (.int x3)] [] SI8 SJ8 (QI Q)) ∧ (¬ r5 = r7 → ((i3 0) = 0 ∨ (i3 0) = 1) ∧ (QI Q (some (.int (i3 0))) SI8 SJ8))
      refine ⟨fun c15 => ?_, fun c15 => ?_⟩
      · refine gj_goq gj_clT ok_295 [18, 229, 258, 272, 281, 295, 304, 323, 337, 351, 360, 379, 393, 412, 426, 435, 439, 458, 472, 486, 495, 509, 518, 533, 542, 561, 575, 594, 608, 628, 642, 661, 675, 694, 708, 727, 741, 756, 765, 785, 799, 824, 843, 872, 896, 931, 960, 975, 984, 999, 1008, 1023, 1032, 1046, 1055, 1070, 1079, 1099, 1113, 1127, 1136, 1155, 1169, 1193, 1212, 1227, 1236, 1255, 1269, 1283, 1292, 1301, 1305, 1314, 1318, 1332, 1341] ?_
        show gj_Goes E om0 mt_295 18 [some (.ref 140), some (.ref 0), some (.ref 81), some (.int (x3 + (i3 6)))] [] SI8 SJ8 (QI Q)
        exact (q14.1 c15)
      · refine ⟨(Or.inl rfl), ?_⟩
        exact ⟨_, rfl, (q14.2 c15)⟩
    · refine gj_goq gj_clT ok_295 [18, 229, 258, 272, 281, 295, 304, 323, 337, 351, 360, 379, 393, 412, 426, 435, 439, 458, 472, 486, 495, 509, 518, 533, 542, 561, 575, 594, 608, 628, 642, 661, 675, 694, 708, 727, 741, 756, 765, 785, 799, 824, 843, 872, 896, 931, 960, 975, 984, 999, 1008, 1023, 1032, 1046, 1055, 1070, 1079, 1099, 1113, 1127, 1136, 1155, 1169, 1193, 1212, 1227, 1236, 1255, 1269, 1283, 1292, 1301, 1305, 1314, 1318, 1332, 1341] ?_
      show vp_in (x3 + (i3 1)) (gj_L E) ∧ (gj_Do E om0 (gj_mt 93) [(.ref 0), (.int (gj_stf E 12 (gj_n (x3 + (i3 1)))))] SI SJ _)
      have k16 := ((h.2 c1).2.2.2.1 c3).1
      refine ⟨k16, ?_⟩
      refine gj_Do.mono ((h.2 c1).2.2.2.1 c3).2 (fun v_ SI10 SJ10 h_ => ?_)
      obtain ⟨r9, rfl, q17⟩ := h_
      show gj_Goes E om0 mt_295 295 [some (.ref 140), some (.ref 0), some (.ref 81), some (.int x3)] [(.int r9)] SI10 SJ10 (QI Q)
      refine gj_goq gj_clT ok_295 [18, 229, 258, 272, 281, 295, 304, 323, 337, 351, 360, 379, 393, 412, 426, 435, 439, 458, 472, 486, 495, 509, 518, 533, 542, 561, 575, 594, 608, 628, 642, 661, 675, 694, 708, 727, 741, 756, 765, 785, 799, 824, 843, 872, 896, 931, 960, 975, 984, 999, 1008, 1023, 1032, 1046, 1055, 1070, 1079, 1099, 1113, 1127, 1136, 1155, 1169, 1193, 1212, 1227, 1236, 1255, 1269, 1283, 1292, 1301, 1305, 1314, 1318, 1332, 1341] ?_
      show vp_in (x3 + (i3 1)) (gj_L E) ∧ (gj_Do E om0 (gj_mt 218) [(.ref 81), (.int (gj_stf E 12 (gj_n (x3 + (i3 1)))))] SI10 SJ10 _)
      refine ⟨k16, ?_⟩
      refine gj_Do.mono q17 (fun v_ SI12 SJ12 h_ => ?_)
      obtain ⟨r11, rfl, q18⟩ := h_
      show gj_Goes E om0 mt_295 304 [some (.ref 140), some (.ref 0), some (.ref 81), some (.int x3)] [(.int r11), (.int r9)] SI12 SJ12 (QI Q)
      refine gj_goq gj_clT ok_295 [18, 229, 258, 272, 281, 295, 304, 323, 337, 351, 360, 379, 393, 412, 426, 435, 439, 458, 472, 486, 495, 509, 518, 533, 542, 561, 575, 594, 608, 628, 642, 661, 675, 694, 708, 727, 741, 756, 765, 785, 799, 824, 843, 872, 896, 931, 960, 975, 984, 999, 1008, 1023, 1032, 1046, 1055, 1070, 1079, 1099, 1113, 1127, 1136, 1155, 1169, 1193, 1212, 1227, 1236, 1255, 1269, 1283, 1292, 1301, 1305, 1314, 1318, 1332, 1341] ?_
      show (r9 = r11 → gj_Goes E om0 mt_295 1346 [some (.ref 140), some (.ref 0), some (.ref 81), some (.int x3)] [] SI12 SJ12 (QI Q)) ∧ (¬ r9 = r11 → ((i3 0) = 0 ∨ (i3 0) = 1) ∧ (QI Q (some (.int (i3 0))) SI12 SJ12))
      refine ⟨fun c19 => ?_, fun c19 => ?_⟩
      · refine gj_goq gj_clT ok_295 [18, 229, 258, 272, 281, 295, 304, 323, 337, 351, 360, 379, 393, 412, 426, 435, 439, 458, 472, 486, 495, 509, 518, 533, 542, 561, 575, 594, 608, 628, 642, 661, 675, 694, 708, 727, 741, 756, 765, 785, 799, 824, 843, 872, 896, 931, 960, 975, 984, 999, 1008, 1023, 1032, 1046, 1055, 1070, 1079, 1099, 1113, 1127, 1136, 1155, 1169, 1193, 1212, 1227, 1236, 1255, 1269, 1283, 1292, 1301, 1305, 1314, 1318, 1332, 1341] ?_
        show gj_Goes E om0 mt_295 18 [some (.ref 140), some (.ref 0), some (.ref 81), some (.int (x3 + (i3 6)))] [] SI12 SJ12 (QI Q)
        exact (q18.1 c19)
      · refine ⟨(Or.inl rfl), ?_⟩
        exact ⟨_, rfl, (q18.2 c19)⟩
    · refine gj_goq gj_clT ok_295 [18, 229, 258, 272, 281, 295, 304, 323, 337, 351, 360, 379, 393, 412, 426, 435, 439, 458, 472, 486, 495, 509, 518, 533, 542, 561, 575, 594, 608, 628, 642, 661, 675, 694, 708, 727, 741, 756, 765, 785, 799, 824, 843, 872, 896, 931, 960, 975, 984, 999, 1008, 1023, 1032, 1046, 1055, 1070, 1079, 1099, 1113, 1127, 1136, 1155, 1169, 1193, 1212, 1227, 1236, 1255, 1269, 1283, 1292, 1301, 1305, 1314, 1318, 1332, 1341] ?_
      show vp_in (x3 + (i3 1)) (gj_L E) ∧ (vp_in (x3 + (i3 2)) (gj_L E) ∧ (gj_Do E om0 (gj_mt 100) [(.ref 0), (.int (gj_stf E 12 (gj_n (x3 + (i3 1))))), (.int (gj_stf E 12 (gj_n (x3 + (i3 2)))))] SI SJ _))
      have k20 := ((h.2 c1).2.2.2.2.1 c3).1
      refine ⟨k20, ?_⟩
      have k21 := ((h.2 c1).2.2.2.2.1 c3).2.1
      refine ⟨k21, ?_⟩
      refine gj_Do.mono ((h.2 c1).2.2.2.2.1 c3).2.2 (fun v_ SI14 SJ14 h_ => ?_)
      obtain ⟨r13, rfl, q22⟩ := h_
      show gj_Goes E om0 mt_295 323 [some (.ref 140), some (.ref 0), some (.ref 81), some (.int x3)] [(.int r13)] SI14 SJ14 (QI Q)
      refine gj_goq gj_clT ok_295 [18, 229, 258, 272, 281, 295, 304, 323, 337, 351, 360, 379, 393, 412, 426, 435, 439, 458, 472, 486, 495, 509, 518, 533, 542, 561, 575, 594, 608, 628, 642, 661, 675, 694, 708, 727, 741, 756, 765, 785, 799, 824, 843, 872, 896, 931, 960, 975, 984, 999, 1008, 1023, 1032, 1046, 1055, 1070, 1079, 1099, 1113, 1127, 1136, 1155, 1169, 1193, 1212, 1227, 1236, 1255, 1269, 1283, 1292, 1301, 1305, 1314, 1318, 1332, 1341] ?_
      show vp_in (x3 + (i3 1)) (gj_L E) ∧ (vp_in (x3 + (i3 2)) (gj_L E) ∧ (gj_Do E om0 (gj_mt 198) [(.ref 81), (.int (gj_stf E 12 (gj_n (x3 + (i3 1))))), (.int (gj_stf E 12 (gj_n (x3 + (i3 2)))))] SI14 SJ14 _))
      refine ⟨k20, ?_⟩
      refine ⟨k21, ?_⟩
      refine gj_Do.mono q22 (fun v_ SI16 SJ16 h_ => ?_)
      obtain ⟨r15, rfl, q23⟩ := h_
      show gj_Goes E om0 mt_295 337 [some (.ref 140), some (.ref 0), some (.ref 81), some (.int x3)] [(.int r15), (.int r13)] SI16 SJ16 (QI Q)
      refine gj_goq gj_clT ok_295 [18, 229, 258, 272, 281, 295, 304, 323, 337, 351, 360, 379, 393, 412, 426, 435, 439, 458, 472, 486, 495, 509, 518, 533, 542, 561, 575, 594, 608, 628, 642, 661, 675, 694, 708, 727, 741, 756, 765, 785, 799, 824, 843, 872, 896, 931, 960, 975, 984, 999, 1008, 1023, 1032, 1046, 1055, 1070, 1079, 1099, 1113, 1127, 1136, 1155, 1169, 1193, 1212, 1227, 1236, 1255, 1269, 1283, 1292, 1301, 1305, 1314, 1318, 1332, 1341] ?_
      show (r13 = r15 → gj_Goes E om0 mt_295 1346 [some (.ref 140), some (.ref 0), some (.ref 81), some (.int x3)] [] SI16 SJ16 (QI Q)) ∧ (¬ r13 = r15 → ((i3 0) = 0 ∨ (i3 0) = 1) ∧ (QI Q (some (.int (i3 0))) SI16 SJ16))
      refine ⟨fun c24 => ?_, fun c24 => ?_⟩
      · refine gj_goq gj_clT ok_295 [18, 229, 258, 272, 281, 295, 304, 323, 337, 351, 360, 379, 393, 412, 426, 435, 439, 458, 472, 486, 495, 509, 518, 533, 542, 561, 575, 594, 608, 628, 642, 661, 675, 694, 708, 727, 741, 756, 765, 785, 799, 824, 843, 872, 896, 931, 960, 975, 984, 999, 1008, 1023, 1032, 1046, 1055, 1070, 1079, 1099, 1113, 1127, 1136, 1155, 1169, 1193, 1212, 1227, 1236, 1255, 1269, 1283, 1292, 1301, 1305, 1314, 1318, 1332, 1341] ?_
        show gj_Goes E om0 mt_295 18 [some (.ref 140), some (.ref 0), some (.ref 81), some (.int (x3 + (i3 6)))] [] SI16 SJ16 (QI Q)
        exact (q23.1 c24)
      · refine ⟨(Or.inl rfl), ?_⟩
        exact ⟨_, rfl, (q23.2 c24)⟩
    · refine gj_goq gj_clT ok_295 [18, 229, 258, 272, 281, 295, 304, 323, 337, 351, 360, 379, 393, 412, 426, 435, 439, 458, 472, 486, 495, 509, 518, 533, 542, 561, 575, 594, 608, 628, 642, 661, 675, 694, 708, 727, 741, 756, 765, 785, 799, 824, 843, 872, 896, 931, 960, 975, 984, 999, 1008, 1023, 1032, 1046, 1055, 1070, 1079, 1099, 1113, 1127, 1136, 1155, 1169, 1193, 1212, 1227, 1236, 1255, 1269, 1283, 1292, 1301, 1305, 1314, 1318, 1332, 1341] ?_
      show vp_in (x3 + (i3 1)) (gj_L E) ∧ (gj_Do E om0 (gj_mt 102) [(.ref 0), (.int (gj_stf E 12 (gj_n (x3 + (i3 1)))))] SI SJ _)
      have k25 := ((h.2 c1).2.2.2.2.2.1 c3).1
      refine ⟨k25, ?_⟩
      refine gj_Do.mono ((h.2 c1).2.2.2.2.2.1 c3).2 (fun v_ SI18 SJ18 h_ => ?_)
      obtain ⟨r17, rfl, q26⟩ := h_
      show gj_Goes E om0 mt_295 351 [some (.ref 140), some (.ref 0), some (.ref 81), some (.int x3)] [(.int r17)] SI18 SJ18 (QI Q)
      refine gj_goq gj_clT ok_295 [18, 229, 258, 272, 281, 295, 304, 323, 337, 351, 360, 379, 393, 412, 426, 435, 439, 458, 472, 486, 495, 509, 518, 533, 542, 561, 575, 594, 608, 628, 642, 661, 675, 694, 708, 727, 741, 756, 765, 785, 799, 824, 843, 872, 896, 931, 960, 975, 984, 999, 1008, 1023, 1032, 1046, 1055, 1070, 1079, 1099, 1113, 1127, 1136, 1155, 1169, 1193, 1212, 1227, 1236, 1255, 1269, 1283, 1292, 1301, 1305, 1314, 1318, 1332, 1341] ?_
      show vp_in (x3 + (i3 1)) (gj_L E) ∧ (gj_Do E om0 (gj_mt 200) [(.ref 81), (.int (gj_stf E 12 (gj_n (x3 + (i3 1)))))] SI18 SJ18 _)
      refine ⟨k25, ?_⟩
      refine gj_Do.mono q26 (fun v_ SI20 SJ20 h_ => ?_)
      obtain ⟨r19, rfl, q27⟩ := h_
      show gj_Goes E om0 mt_295 360 [some (.ref 140), some (.ref 0), some (.ref 81), some (.int x3)] [(.int r19), (.int r17)] SI20 SJ20 (QI Q)
      refine gj_goq gj_clT ok_295 [18, 229, 258, 272, 281, 295, 304, 323, 337, 351, 360, 379, 393, 412, 426, 435, 439, 458, 472, 486, 495, 509, 518, 533, 542, 561, 575, 594, 608, 628, 642, 661, 675, 694, 708, 727, 741, 756, 765, 785, 799, 824, 843, 872, 896, 931, 960, 975, 984, 999, 1008, 1023, 1032, 1046, 1055, 1070, 1079, 1099, 1113, 1127, 1136, 1155, 1169, 1193, 1212, 1227, 1236, 1255, 1269, 1283, 1292, 1301, 1305, 1314, 1318, 1332, 1341] ?_
      show (r17 = r19 → gj_Goes E om0 mt_295 1346 [some (.ref 140), some (.ref 0), some (.ref 81), some (.int x3)] [] SI20 SJ20 (QI Q)) ∧ (¬ r17 = r19 → ((i3 0) = 0 ∨ (i3 0) = 1) ∧ (QI Q (some (.int (i3 0))) SI20 SJ20))
      refine ⟨fun c28 => ?_, fun c28 => ?_⟩
      · refine gj_goq gj_clT ok_295 [18, 229, 258, 272, 281, 295, 304, 323, 337, 351, 360, 379, 393, 412, 426, 435, 439, 458, 472, 486, 495, 509, 518, 533, 542, 561, 575, 594, 608, 628, 642, 661, 675, 694, 708, 727, 741, 756, 765, 785, 799, 824, 843, 872, 896, 931, 960, 975, 984, 999, 1008, 1023, 1032, 1046, 1055, 1070, 1079, 1099, 1113, 1127, 1136, 1155, 1169, 1193, 1212, 1227, 1236, 1255, 1269, 1283, 1292, 1301, 1305, 1314, 1318, 1332, 1341] ?_
        show gj_Goes E om0 mt_295 18 [some (.ref 140), some (.ref 0), some (.ref 81), some (.int (x3 + (i3 6)))] [] SI20 SJ20 (QI Q)
        exact (q27.1 c28)
      · refine ⟨(Or.inl rfl), ?_⟩
        exact ⟨_, rfl, (q27.2 c28)⟩
    · refine gj_goq gj_clT ok_295 [18, 229, 258, 272, 281, 295, 304, 323, 337, 351, 360, 379, 393, 412, 426, 435, 439, 458, 472, 486, 495, 509, 518, 533, 542, 561, 575, 594, 608, 628, 642, 661, 675, 694, 708, 727, 741, 756, 765, 785, 799, 824, 843, 872, 896, 931, 960, 975, 984, 999, 1008, 1023, 1032, 1046, 1055, 1070, 1079, 1099, 1113, 1127, 1136, 1155, 1169, 1193, 1212, 1227, 1236, 1255, 1269, 1283, 1292, 1301, 1305, 1314, 1318, 1332, 1341] ?_
      show vp_in (x3 + (i3 1)) (gj_L E) ∧ (vp_in (x3 + (i3 2)) (gj_L E) ∧ (gj_Do E om0 (gj_mt 104) [(.ref 0), (.int (gj_stf E 12 (gj_n (x3 + (i3 1))))), (.int (gj_stf E 12 (gj_n (x3 + (i3 2)))))] SI SJ _))
      have k29 := ((h.2 c1).2.2.2.2.2.2.1 c3).1
      refine ⟨k29, ?_⟩
      have k30 := ((h.2 c1).2.2.2.2.2.2.1 c3).2.1
      refine ⟨k30, ?_⟩
      refine gj_Do.mono ((h.2 c1).2.2.2.2.2.2.1 c3).2.2 (fun v_ SI22 SJ22 h_ => ?_)
      obtain ⟨r21, rfl, q31⟩ := h_
      show gj_Goes E om0 mt_295 379 [some (.ref 140), some (.ref 0), some (.ref 81), some (.int x3)] [(.int r21)] SI22 SJ22 (QI Q)
      refine gj_goq gj_clT ok_295 [18, 229, 258, 272, 281, 295, 304, 323, 337, 351, 360, 379, 393, 412, 426, 435, 439, 458, 472, 486, 495, 509, 518, 533, 542, 561, 575, 594, 608, 628, 642, 661, 675, 694, 708, 727, 741, 756, 765, 785, 799, 824, 843, 872, 896, 931, 960, 975, 984, 999, 1008, 1023, 1032, 1046, 1055, 1070, 1079, 1099, 1113, 1127, 1136, 1155, 1169, 1193, 1212, 1227, 1236, 1255, 1269, 1283, 1292, 1301, 1305, 1314, 1318, 1332, 1341] ?_
      show vp_in (x3 + (i3 1)) (gj_L E) ∧ (vp_in (x3 + (i3 2)) (gj_L E) ∧ (gj_Do E om0 (gj_mt 201) [(.ref 81), (.int (gj_stf E 12 (gj_n (x3 + (i3 1))))), (.int (gj_stf E 12 (gj_n (x3 + (i3 2)))))] SI22 SJ22 _))
      refine ⟨k29, ?_⟩
      refine ⟨k30, ?_⟩
      refine gj_Do.mono q31 (fun v_ SI24 SJ24 h_ => ?_)
      obtain ⟨r23, rfl, q32⟩ := h_
      show gj_Goes E om0 mt_295 393 [some (.ref 140), some (.ref 0), some (.ref 81), some (.int x3)] [(.int r23), (.int r21)] SI24 SJ24 (QI Q)
      refine gj_goq gj_clT ok_295 [18, 229, 258, 272, 281, 295, 304, 323, 337, 351, 360, 379, 393, 412, 426, 435, 439, 458, 472, 486, 495, 509, 518, 533, 542, 561, 575, 594, 608, 628, 642, 661, 675, 694, 708, 727, 741, 756, 765, 785, 799, 824, 843, 872, 896, 931, 960, 975, 984, 999, 1008, 1023, 1032, 1046, 1055, 1070, 1079, 1099, 1113, 1127, 1136, 1155, 1169, 1193, 1212, 1227, 1236, 1255, 1269, 1283, 1292, 1301, 1305, 1314, 1318, 1332, 1341] ?_
      show (r21 = r23 → gj_Goes E om0 mt_295 1346 [some (.ref 140), some (.ref 0), some (.ref 81), some (.int x3)] [] SI24 SJ24 (QI Q)) ∧ (¬ r21 = r23 → ((i3 0) = 0 ∨ (i3 0) = 1) ∧ (QI Q (some (.int (i3 0))) SI24 SJ24))
      refine ⟨fun c33 => ?_, fun c33 => ?_⟩
      · refine gj_goq gj_clT ok_295 [18, 229, 258, 272, 281, 295, 304, 323, 337, 351, 360, 379, 393, 412, 426, 435, 439, 458, 472, 486, 495, 509, 518, 533, 542, 561, 575, 594, 608, 628, 642, 661, 675, 694, 708, 727, 741, 756, 765, 785, 799, 824, 843, 872, 896, 931, 960, 975, 984, 999, 1008, 1023, 1032, 1046, 1055, 1070, 1079, 1099, 1113, 1127, 1136, 1155, 1169, 1193, 1212, 1227, 1236, 1255, 1269, 1283, 1292, 1301, 1305, 1314, 1318, 1332, 1341] ?_
        show gj_Goes E om0 mt_295 18 [some (.ref 140), some (.ref 0), some (.ref 81), some (.int (x3 + (i3 6)))] [] SI24 SJ24 (QI Q)
        exact (q32.1 c33)
      · refine ⟨(Or.inl rfl), ?_⟩
        exact ⟨_, rfl, (q32.2 c33)⟩
    · refine gj_goq gj_clT ok_295 [18, 229, 258, 272, 281, 295, 304, 323, 337, 351, 360, 379, 393, 412, 426, 435, 439, 458, 472, 486, 495, 509, 518, 533, 542, 561, 575, 594, 608, 628, 642, 661, 675, 694, 708, 727, 741, 756, 765, 785, 799, 824, 843, 872, 896, 931, 960, 975, 984, 999, 1008, 1023, 1032, 1046, 1055, 1070, 1079, 1099, 1113, 1127, 1136, 1155, 1169, 1193, 1212, 1227, 1236, 1255, 1269, 1283, 1292, 1301, 1305, 1314, 1318, 1332, 1341] ?_
      show vp_in (x3 + (i3 1)) (gj_L E) ∧ (vp_in (x3 + (i3 2)) (gj_L E) ∧ (gj_Do E om0 (gj_mt 106) [(.ref 0), (.int (gj_stf E 12 (gj_n (x3 + (i3 1))))), (.int (gj_stf E 12 (gj_n (x3 + (i3 2)))))] SI SJ _))
      have k34 := ((h.2 c1).2.2.2.2.2.2.2.1 c3).1
      refine ⟨k34, ?_⟩
      have k35 := ((h.2 c1).2.2.2.2.2.2.2.1 c3).2.1
      refine ⟨k35, ?_⟩
      refine gj_Do.mono ((h.2 c1).2.2.2.2.2.2.2.1 c3).2.2 (fun v_ SI26 SJ26 h_ => ?_)
      obtain ⟨r25, rfl, q36⟩ := h_
      show gj_Goes E om0 mt_295 412 [some (.ref 140), some (.ref 0), some (.ref 81), some (.int x3)] [(.int r25)] SI26 SJ26 (QI Q)
      refine gj_goq gj_clT ok_295 [18, 229, 258, 272, 281, 295, 304, 323, 337, 351, 360, 379, 393, 412, 426, 435, 439, 458, 472, 486, 495, 509, 518, 533, 542, 561, 575, 594, 608, 628, 642, 661, 675, 694, 708, 727, 741, 756, 765, 785, 799, 824, 843, 872, 896, 931, 960, 975, 984, 999, 1008, 1023, 1032, 1046, 1055, 1070, 1079, 1099, 1113, 1127, 1136, 1155, 1169, 1193, 1212, 1227, 1236, 1255, 1269, 1283, 1292, 1301, 1305, 1314, 1318, 1332, 1341] ?_
      show vp_in (x3 + (i3 1)) (gj_L E) ∧ (vp_in (x3 + (i3 2)) (gj_L E) ∧ (gj_Do E om0 (gj_mt 202) [(.ref 81), (.int (gj_stf E 12 (gj_n (x3 + (i3 1))))), (.int (gj_stf E 12 (gj_n (x3 + (i3 2)))))] SI26 SJ26 _))
      refine ⟨k34, ?_⟩
      refine ⟨k35, ?_⟩
      refine gj_Do.mono q36 (fun v_ SI28 SJ28 h_ => ?_)
      obtain ⟨r27, rfl, q37⟩ := h_
      show gj_Goes E om0 mt_295 426 [some (.ref 140), some (.ref 0), some (.ref 81), some (.int x3)] [(.int r27), (.int r25)] SI28 SJ28 (QI Q)
      refine gj_goq gj_clT ok_295 [18, 229, 258, 272, 281, 295, 304, 323, 337, 351, 360, 379, 393, 412, 426, 435, 439, 458, 472, 486, 495, 509, 518, 533, 542, 561, 575, 594, 608, 628, 642, 661, 675, 694, 708, 727, 741, 756, 765, 785, 799, 824, 843, 872, 896, 931, 960, 975, 984, 999, 1008, 1023, 1032, 1046, 1055, 1070, 1079, 1099, 1113, 1127, 1136, 1155, 1169, 1193, 1212, 1227, 1236, 1255, 1269, 1283, 1292, 1301, 1305, 1314, 1318, 1332, 1341] ?_
      show (r25 = r27 → gj_Goes E om0 mt_295 1346 [some (.ref 140), some (.ref 0), some (.ref 81), some (.int x3)] [] SI28 SJ28 (QI Q)) ∧ (¬ r25 = r27 → ((i3 0) = 0 ∨ (i3 0) = 1) ∧ (QI Q (some (.int (i3 0))) SI28 SJ28))
      refine ⟨fun c38 => ?_, fun c38 => ?_⟩
      · refine gj_goq gj_clT ok_295 [18, 229, 258, 272, 281, 295, 304, 323, 337, 351, 360, 379, 393, 412, 426, 435, 439, 458, 472, 486, 495, 509, 518, 533, 542, 561, 575, 594, 608, 628, 642, 661, 675, 694, 708, 727, 741, 756, 765, 785, 799, 824, 843, 872, 896, 931, 960, 975, 984, 999, 1008, 1023, 1032, 1046, 1055, 1070, 1079, 1099, 1113, 1127, 1136, 1155, 1169, 1193, 1212, 1227, 1236, 1255, 1269, 1283, 1292, 1301, 1305, 1314, 1318, 1332, 1341] ?_
        show gj_Goes E om0 mt_295 18 [some (.ref 140), some (.ref 0), some (.ref 81), some (.int (x3 + (i3 6)))] [] SI28 SJ28 (QI Q)
        exact (q37.1 c38)
      · refine ⟨(Or.inl rfl), ?_⟩
        exact ⟨_, rfl, (q37.2 c38)⟩
    · refine gj_goq gj_clT ok_295 [18, 229, 258, 272, 281, 295, 304, 323, 337, 351, 360, 379, 393, 412, 426, 435, 439, 458, 472, 486, 495, 509, 518, 533, 542, 561, 575, 594, 608, 628, 642, 661, 675, 694, 708, 727, 741, 756, 765, 785, 799, 824, 843, 872, 896, 931, 960, 975, 984, 999, 1008, 1023, 1032, 1046, 1055, 1070, 1079, 1099, 1113, 1127, 1136, 1155, 1169, 1193, 1212, 1227, 1236, 1255, 1269, 1283, 1292, 1301, 1305, 1314, 1318, 1332, 1341] ?_
      show gj_Do E om0 (gj_mt 108) [(.ref 0)] SI SJ _
      refine gj_Do.mono ((h.2 c1).2.2.2.2.2.2.2.2.1 c3) (fun v_ SI30 SJ30 h_ => ?_)
      obtain ⟨r29, rfl, q39⟩ := h_
      show gj_Goes E om0 mt_295 435 [some (.ref 140), some (.ref 0), some (.ref 81), some (.int x3)] [(.int r29)] SI30 SJ30 (QI Q)
      refine gj_goq gj_clT ok_295 [18, 229, 258, 272, 281, 295, 304, 323, 337, 351, 360, 379, 393, 412, 426, 435, 439, 458, 472, 486, 495, 509, 518, 533, 542, 561, 575, 594, 608, 628, 642, 661, 675, 694, 708, 727, 741, 756, 765, 785, 799, 824, 843, 872, 896, 931, 960, 975, 984, 999, 1008, 1023, 1032, 1046, 1055, 1070, 1079, 1099, 1113, 1127, 1136, 1155, 1169, 1193, 1212, 1227, 1236, 1255, 1269, 1283, 1292, 1301, 1305, 1314, 1318, 1332, 1341] ?_
      show gj_Do E om0 (gj_mt 204) [(.ref 81)] SI30 SJ30 _
      refine gj_Do.mono q39 (fun v_ SI32 SJ32 h_ => ?_)
      obtain ⟨r31, rfl, q40⟩ := h_
      show gj_Goes E om0 mt_295 439 [some (.ref 140), some (.ref 0), some (.ref 81), some (.int x3)] [(.int r31), (.int r29)] SI32 SJ32 (QI Q)
      refine gj_goq gj_clT ok_295 [18, 229, 258, 272, 281, 295, 304, 323, 337, 351, 360, 379, 393, 412, 426, 435, 439, 458, 472, 486, 495, 509, 518, 533, 542, 561, 575, 594, 608, 628, 642, 661, 675, 694, 708, 727, 741, 756, 765, 785, 799, 824, 843, 872, 896, 931, 960, 975, 984, 999, 1008, 1023, 1032, 1046, 1055, 1070, 1079, 1099, 1113, 1127, 1136, 1155, 1169, 1193, 1212, 1227, 1236, 1255, 1269, 1283, 1292, 1301, 1305, 1314, 1318, 1332, 1341] ?_
      show (r29 = r31 → gj_Goes E om0 mt_295 1346 [some (.ref 140), some (.ref 0), some (.ref 81), some (.int x3)] [] SI32 SJ32 (QI Q)) ∧ (¬ r29 = r31 → ((i3 0) = 0 ∨ (i3 0) = 1) ∧ (QI Q (some (.int (i3 0))) SI32 SJ32))
      refine ⟨fun c41 => ?_, fun c41 => ?_⟩
      · refine gj_goq gj_clT ok_295 [18, 229, 258, 272, 281, 295, 304, 323, 337, 351, 360, 379, 393, 412, 426, 435, 439, 458, 472, 486, 495, 509, 518, 533, 542, 561, 575, 594, 608, 628, 642, 661, 675, 694, 708, 727, 741, 756, 765, 785, 799, 824, 843, 872, 896, 931, 960, 975, 984, 999, 1008, 1023, 1032, 1046, 1055, 1070, 1079, 1099, 1113, 1127, 1136, 1155, 1169, 1193, 1212, 1227, 1236, 1255, 1269, 1283, 1292, 1301, 1305, 1314, 1318, 1332, 1341] ?_
        show gj_Goes E om0 mt_295 18 [some (.ref 140), some (.ref 0), some (.ref 81), some (.int (x3 + (i3 6)))] [] SI32 SJ32 (QI Q)
        exact (q40.1 c41)
      · refine ⟨(Or.inl rfl), ?_⟩
        exact ⟨_, rfl, (q40.2 c41)⟩
    · refine gj_goq gj_clT ok_295 [18, 229, 258, 272, 281, 295, 304, 323, 337, 351, 360, 379, 393, 412, 426, 435, 439, 458, 472, 486, 495, 509, 518, 533, 542, 561, 575, 594, 608, 628, 642, 661, 675, 694, 708, 727, 741, 756, 765, 785, 799, 824, 843, 872, 896, 931, 960, 975, 984, 999, 1008, 1023, 1032, 1046, 1055, 1070, 1079, 1099, 1113, 1127, 1136, 1155, 1169, 1193, 1212, 1227, 1236, 1255, 1269, 1283, 1292, 1301, 1305, 1314, 1318, 1332, 1341] ?_
      show vp_in (x3 + (i3 1)) (gj_L E) ∧ (vp_in (x3 + (i3 2)) (gj_L E) ∧ (gj_Do E om0 (gj_mt 109) [(.ref 0), (.int (gj_stf E 12 (gj_n (x3 + (i3 1))))), (.int (gj_stf E 12 (gj_n (x3 + (i3 2)))))] SI SJ _))
      have k42 := ((h.2 c1).2.2.2.2.2.2.2.2.2.1 c3).1
      refine ⟨k42, ?_⟩
      have k43 := ((h.2 c1).2.2.2.2.2.2.2.2.2.1 c3).2.1
      refine ⟨k43, ?_⟩
      refine gj_Do.mono ((h.2 c1).2.2.2.2.2.2.2.2.2.1 c3).2.2 (fun v_ SI34 SJ34 h_ => ?_)
      obtain ⟨r33, rfl, q44⟩ := h_
      show gj_Goes E om0 mt_295 458 [some (.ref 140), some (.ref 0), some (.ref 81), some (.int x3)] [(.int r33)] SI34 SJ34 (QI Q)
      refine gj_goq gj_clT ok_295 [18, 229, 258, 272, 281, 295, 304, 323, 337, 351, 360, 379, 393, 412, 426, 435, 439, 458, 472, 486, 495, 509, 518, 533, 542, 561, 575, 594, 608, 628, 642, 661, 675, 694, 708, 727, 741, 756, 765, 785, 799, 824, 843, 872, 896, 931, 960, 975, 984, 999, 1008, 1023, 1032, 1046, 1055, 1070, 1079, 1099, 1113, 1127, 1136, 1155, 1169, 1193, 1212, 1227, 1236, 1255, 1269, 1283, 1292, 1301, 1305, 1314, 1318, 1332, 1341] ?_
      show vp_in (x3 + (i3 1)) (gj_L E) ∧ (vp_in (x3 + (i3 2)) (gj_L E) ∧ (gj_Do E om0 (gj_mt 197) [(.ref 81), (.int (gj_stf E 12 (gj_n (x3 + (i3 1))))), (.int (gj_stf E 12 (gj_n (x3 + (i3 2)))))] SI34 SJ34 _))
      refine ⟨k42, ?_⟩
      refine ⟨k43, ?_⟩
      refine gj_Do.mono q44 (fun v_ SI36 SJ36 h_ => ?_)
      obtain ⟨r35, rfl, q45⟩ := h_
      show gj_Goes E om0 mt_295 472 [some (.ref 140), some (.ref 0), some (.ref 81), some (.int x3)] [(.int r35), (.int r33)] SI36 SJ36 (QI Q)
      refine gj_goq gj_clT ok_295 [18, 229, 258, 272, 281, 295, 304, 323, 337, 351, 360, 379, 393, 412, 426, 435, 439, 458, 472, 486, 495, 509, 518, 533, 542, 561, 575, 594, 608, 628, 642, 661, 675, 694, 708, 727, 741, 756, 765, 785, 799, 824, 843, 872, 896, 931, 960, 975, 984, 999, 1008, 1023, 1032, 1046, 1055, 1070, 1079, 1099, 1113, 1127, 1136, 1155, 1169, 1193, 1212, 1227, 1236, 1255, 1269, 1283, 1292, 1301, 1305, 1314, 1318, 1332, 1341] ?_
      show (r33 = r35 → gj_Goes E om0 mt_295 1346 [some (.ref 140), some (.ref 0), some (.ref 81), some (.int x3)] [] SI36 SJ36 (QI Q)) ∧ (¬ r33 = r35 → ((i3 0) = 0 ∨ (i3 0) = 1) ∧ (QI Q (some (.int (i3 0))) SI36 SJ36))
      refine ⟨fun c46 => ?_, fun c46 => ?_⟩
      · refine gj_goq gj_clT ok_295 [18, 229, 258, 272, 281, 295, 304, 323, 337, 351, 360, 379, 393, 412, 426, 435, 439, 458, 472, 486, 495, 509, 518, 533, 542, 561, 575, 594, 608, 628, 642, 661, 675, 694, 708, 727, 741, 756, 765, 785, 799, 824, 843, 872, 896, 931, 960, 975, 984, 999, 1008, 1023, 1032, 1046, 1055, 1070, 1079, 1099, 1113, 1127, 1136, 1155, 1169, 1193, 1212, 1227, 1236, 1255, 1269, 1283, 1292, 1301, 1305, 1314, 1318, 1332, 1341] ?_
        show gj_Goes E om0 mt_295 18 [some (.ref 140), some (.ref 0), some (.ref 81), some (.int (x3 + (i3 6)))] [] SI36 SJ36 (QI Q)
        exact (q45.1 c46)
      · refine ⟨(Or.inl rfl), ?_⟩
        exact ⟨_, rfl, (q45.2 c46)⟩
    · refine gj_goq gj_clT ok_295 [18, 229, 258, 272, 281, 295, 304, 323, 337, 351, 360, 379, 393, 412, 426, 435, 439, 458, 472, 486, 495, 509, 518, 533, 542, 561, 575, 594, 608, 628, 642, 661, 675, 694, 708, 727, 741, 756, 765, 785, 799, 824, 843, 872, 896, 931, 960, 975, 984, 999, 1008, 1023, 1032, 1046, 1055, 1070, 1079, 1099, 1113, 1127, 1136, 1155, 1169, 1193, 1212, 1227, 1236, 1255, 1269, 1283, 1292, 1301, 1305, 1314, 1318, 1332, 1341] ?_
      show vp_in (x3 + (i3 1)) (gj_L E) ∧ (gj_Do E om0 (gj_mt 95) [(.ref 0), (.int (gj_stf E 12 (gj_n (x3 + (i3 1)))))] SI SJ _)
      have k47 := ((h.2 c1).2.2.2.2.2.2.2.2.2.2.1 c3).1
      refine ⟨k47, ?_⟩
      refine gj_Do.mono ((h.2 c1).2.2.2.2.2.2.2.2.2.2.1 c3).2 (fun v_ SI38 SJ38 h_ => ?_)
      obtain ⟨r37, rfl, q48⟩ := h_
      show gj_Goes E om0 mt_295 486 [some (.ref 140), some (.ref 0), some (.ref 81), some (.int x3)] [(.int r37)] SI38 SJ38 (QI Q)
      refine gj_goq gj_clT ok_295 [18, 229, 258, 272, 281, 295, 304, 323, 337, 351, 360, 379, 393, 412, 426, 435, 439, 458, 472, 486, 495, 509, 518, 533, 542, 561, 575, 594, 608, 628, 642, 661, 675, 694, 708, 727, 741, 756, 765, 785, 799, 824, 843, 872, 896, 931, 960, 975, 984, 999, 1008, 1023, 1032, 1046, 1055, 1070, 1079, 1099, 1113, 1127, 1136, 1155, 1169, 1193, 1212, 1227, 1236, 1255, 1269, 1283, 1292, 1301, 1305, 1314, 1318, 1332, 1341] ?_
      show vp_in (x3 + (i3 1)) (gj_L E) ∧ (gj_Do E om0 (gj_mt 220) [(.ref 81), (.int (gj_stf E 12 (gj_n (x3 + (i3 1)))))] SI38 SJ38 _)
      refine ⟨k47, ?_⟩
      refine gj_Do.mono q48 (fun v_ SI40 SJ40 h_ => ?_)
      obtain ⟨r39, rfl, q49⟩ := h_
      show gj_Goes E om0 mt_295 495 [some (.ref 140), some (.ref 0), some (.ref 81), some (.int x3)] [(.int r39), (.int r37)] SI40 SJ40 (QI Q)
      refine gj_goq gj_clT ok_295 [18, 229, 258, 272, 281, 295, 304, 323, 337, 351, 360, 379, 393, 412, 426, 435, 439, 458, 472, 486, 495, 509, 518, 533, 542, 561, 575, 594, 608, 628, 642, 661, 675, 694, 708, 727, 741, 756, 765, 785, 799, 824, 843, 872, 896, 931, 960, 975, 984, 999, 1008, 1023, 1032, 1046, 1055, 1070, 1079, 1099, 1113, 1127, 1136, 1155, 1169, 1193, 1212, 1227, 1236, 1255, 1269, 1283, 1292, 1301, 1305, 1314, 1318, 1332, 1341] ?_
      show (r37 = r39 → gj_Goes E om0 mt_295 1346 [some (.ref 140), some (.ref 0), some (.ref 81), some (.int x3)] [] SI40 SJ40 (QI Q)) ∧ (¬ r37 = r39 → ((i3 0) = 0 ∨ (i3 0) = 1) ∧ (QI Q (some (.int (i3 0))) SI40 SJ40))
      refine ⟨fun c50 => ?_, fun c50 => ?_⟩
      · refine gj_goq gj_clT ok_295 [18, 229, 258, 272, 281, 295, 304, 323, 337, 351, 360, 379, 393, 412, 426, 435, 439, 458, 472, 486, 495, 509, 518, 533, 542, 561, 575, 594, 608, 628, 642, 661, 675, 694, 708, 727, 741, 756, 765, 785, 799, 824, 843, 872, 896, 931, 960, 975, 984, 999, 1008, 1023, 1032, 1046, 1055, 1070, 1079, 1099, 1113, 1127, 1136, 1155, 1169, 1193, 1212, 1227, 1236, 1255, 1269, 1283, 1292, 1301, 1305, 1314, 1318, 1332, 1341] ?_
        show gj_Goes E om0 mt_295 18 [some (.ref 140), some (.ref 0), some (.ref 81), some (.int (x3 + (i3 6)))] [] SI40 SJ40 (QI Q)
        exact (q49.1 c50)
      · refine ⟨(Or.inl rfl), ?_⟩
        exact ⟨_, rfl, (q49.2 c50)⟩
    · refine gj_goq gj_clT ok_295 [18, 229, 258, 272, 281, 295, 304, 323, 337, 351, 360, 379, 393, 412, 426, 435, 439, 458, 472, 486, 495, 509, 518, 533, 542, 561, 575, 594, 608, 628, 642, 661, 675, 694, 708, 727, 741, 756, 765, 785, 799, 824, 843, 872, 896, 931, 960, 975, 984, 999, 1008, 1023, 1032, 1046, 1055, 1070, 1079, 1099, 1113, 1127, 1136, 1155, 1169, 1193, 1212, 1227, 1236, 1255, 1269, 1283, 1292, 1301, 1305, 1314, 1318, 1332, 1341] ?_
      show vp_in (x3 + (i3 1)) (gj_L E) ∧ (gj_Do E om0 (gj_mt 142) [(.ref 0), (.int (gj_stf E 12 (gj_n (x3 + (i3 1)))))] SI SJ _)
      have k51 := ((h.2 c1).2.2.2.2.2.2.2.2.2.2.2.1 c3).1
      refine ⟨k51, ?_⟩
      refine gj_Do.mono ((h.2 c1).2.2.2.2.2.2.2.2.2.2.2.1 c3).2 (fun v_ SI42 SJ42 h_ => ?_)
      obtain ⟨r41, rfl, q52⟩ := h_
      show gj_Goes E om0 mt_295 509 [some (.ref 140), some (.ref 0), some (.ref 81), some (.int x3)] [(.long r41)] SI42 SJ42 (QI Q)
      refine gj_goq gj_clT ok_295 [18, 229, 258, 272, 281, 295, 304, 323, 337, 351, 360, 379, 393, 412, 426, 435, 439, 458, 472, 486, 495, 509, 518, 533, 542, 561, 575, 594, 608, 628, 642, 661, 675, 694, 708, 727, 741, 756, 765, 785, 799, 824, 843, 872, 896, 931, 960, 975, 984, 999, 1008, 1023, 1032, 1046, 1055, 1070, 1079, 1099, 1113, 1127, 1136, 1155, 1169, 1193, 1212, 1227, 1236, 1255, 1269, 1283, 1292, 1301, 1305, 1314, 1318, 1332, 1341] ?_
      show vp_in (x3 + (i3 1)) (gj_L E) ∧ (gj_Do E om0 (gj_mt 239) [(.ref 81), (.int (gj_stf E 12 (gj_n (x3 + (i3 1)))))] SI42 SJ42 _)
      refine ⟨k51, ?_⟩
      refine gj_Do.mono q52 (fun v_ SI44 SJ44 h_ => ?_)
      obtain ⟨r43, rfl, q53⟩ := h_
      show gj_Goes E om0 mt_295 518 [some (.ref 140), some (.ref 0), some (.ref 81), some (.int x3)] [(.long r43), (.long r41)] SI44 SJ44 (QI Q)
      refine gj_goq gj_clT ok_295 [18, 229, 258, 272, 281, 295, 304, 323, 337, 351, 360, 379, 393, 412, 426, 435, 439, 458, 472, 486, 495, 509, 518, 533, 542, 561, 575, 594, 608, 628, 642, 661, 675, 694, 708, 727, 741, 756, 765, 785, 799, 824, 843, 872, 896, 931, 960, 975, 984, 999, 1008, 1023, 1032, 1046, 1055, 1070, 1079, 1099, 1113, 1127, 1136, 1155, 1169, 1193, 1212, 1227, 1236, 1255, 1269, 1283, 1292, 1301, 1305, 1314, 1318, 1332, 1341] ?_
      show ((lg_cmp r41 r43) = 0 → gj_Goes E om0 mt_295 1346 [some (.ref 140), some (.ref 0), some (.ref 81), some (.int x3)] [] SI44 SJ44 (QI Q)) ∧ (¬ (lg_cmp r41 r43) = 0 → ((i3 0) = 0 ∨ (i3 0) = 1) ∧ (QI Q (some (.int (i3 0))) SI44 SJ44))
      refine ⟨fun c54 => ?_, fun c54 => ?_⟩
      · refine gj_goq gj_clT ok_295 [18, 229, 258, 272, 281, 295, 304, 323, 337, 351, 360, 379, 393, 412, 426, 435, 439, 458, 472, 486, 495, 509, 518, 533, 542, 561, 575, 594, 608, 628, 642, 661, 675, 694, 708, 727, 741, 756, 765, 785, 799, 824, 843, 872, 896, 931, 960, 975, 984, 999, 1008, 1023, 1032, 1046, 1055, 1070, 1079, 1099, 1113, 1127, 1136, 1155, 1169, 1193, 1212, 1227, 1236, 1255, 1269, 1283, 1292, 1301, 1305, 1314, 1318, 1332, 1341] ?_
        show gj_Goes E om0 mt_295 18 [some (.ref 140), some (.ref 0), some (.ref 81), some (.int (x3 + (i3 6)))] [] SI44 SJ44 (QI Q)
        exact (q53.1 (lgc_eq.mp c54))
      · refine ⟨(Or.inl rfl), ?_⟩
        exact ⟨_, rfl, (q53.2 (fun z_ => c54 (lgc_eq.mpr z_)))⟩
    · refine gj_goq gj_clT ok_295 [18, 229, 258, 272, 281, 295, 304, 323, 337, 351, 360, 379, 393, 412, 426, 435, 439, 458, 472, 486, 495, 509, 518, 533, 542, 561, 575, 594, 608, 628, 642, 661, 675, 694, 708, 727, 741, 756, 765, 785, 799, 824, 843, 872, 896, 931, 960, 975, 984, 999, 1008, 1023, 1032, 1046, 1055, 1070, 1079, 1099, 1113, 1127, 1136, 1155, 1169, 1193, 1212, 1227, 1236, 1255, 1269, 1283, 1292, 1301, 1305, 1314, 1318, 1332, 1341] ?_
      show vp_in (x3 + (i3 1)) (gj_L E) ∧ (gj_Do E om0 (gj_mt 115) [(.ref 0), (.int (gj_stf E 12 (gj_n (x3 + (i3 1)))))] SI SJ _)
      have k55 := ((h.2 c1).2.2.2.2.2.2.2.2.2.2.2.2.1 c3).1
      refine ⟨k55, ?_⟩
      refine gj_Do.mono ((h.2 c1).2.2.2.2.2.2.2.2.2.2.2.2.1 c3).2 (fun v_ SI46 SJ46 h_ => ?_)
      obtain ⟨r45, rfl, q56⟩ := h_
      show gj_Goes E om0 mt_295 533 [some (.ref 140), some (.ref 0), some (.ref 81), some (.int x3)] [(.int r45)] SI46 SJ46 (QI Q)
      refine gj_goq gj_clT ok_295 [18, 229, 258, 272, 281, 295, 304, 323, 337, 351, 360, 379, 393, 412, 426, 435, 439, 458, 472, 486, 495, 509, 518, 533, 542, 561, 575, 594, 608, 628, 642, 661, 675, 694, 708, 727, 741, 756, 765, 785, 799, 824, 843, 872, 896, 931, 960, 975, 984, 999, 1008, 1023, 1032, 1046, 1055, 1070, 1079, 1099, 1113, 1127, 1136, 1155, 1169, 1193, 1212, 1227, 1236, 1255, 1269, 1283, 1292, 1301, 1305, 1314, 1318, 1332, 1341] ?_
      show vp_in (x3 + (i3 1)) (gj_L E) ∧ (gj_Do E om0 (gj_mt 274) [(.ref 81), (.int (gj_stf E 12 (gj_n (x3 + (i3 1)))))] SI46 SJ46 _)
      refine ⟨k55, ?_⟩
      refine gj_Do.mono q56 (fun v_ SI48 SJ48 h_ => ?_)
      obtain ⟨r47, rfl, q57⟩ := h_
      show gj_Goes E om0 mt_295 542 [some (.ref 140), some (.ref 0), some (.ref 81), some (.int x3)] [(.int r47), (.int r45)] SI48 SJ48 (QI Q)
      refine gj_goq gj_clT ok_295 [18, 229, 258, 272, 281, 295, 304, 323, 337, 351, 360, 379, 393, 412, 426, 435, 439, 458, 472, 486, 495, 509, 518, 533, 542, 561, 575, 594, 608, 628, 642, 661, 675, 694, 708, 727, 741, 756, 765, 785, 799, 824, 843, 872, 896, 931, 960, 975, 984, 999, 1008, 1023, 1032, 1046, 1055, 1070, 1079, 1099, 1113, 1127, 1136, 1155, 1169, 1193, 1212, 1227, 1236, 1255, 1269, 1283, 1292, 1301, 1305, 1314, 1318, 1332, 1341] ?_
      show (r45 = r47 → gj_Goes E om0 mt_295 1346 [some (.ref 140), some (.ref 0), some (.ref 81), some (.int x3)] [] SI48 SJ48 (QI Q)) ∧ (¬ r45 = r47 → ((i3 0) = 0 ∨ (i3 0) = 1) ∧ (QI Q (some (.int (i3 0))) SI48 SJ48))
      refine ⟨fun c58 => ?_, fun c58 => ?_⟩
      · refine gj_goq gj_clT ok_295 [18, 229, 258, 272, 281, 295, 304, 323, 337, 351, 360, 379, 393, 412, 426, 435, 439, 458, 472, 486, 495, 509, 518, 533, 542, 561, 575, 594, 608, 628, 642, 661, 675, 694, 708, 727, 741, 756, 765, 785, 799, 824, 843, 872, 896, 931, 960, 975, 984, 999, 1008, 1023, 1032, 1046, 1055, 1070, 1079, 1099, 1113, 1127, 1136, 1155, 1169, 1193, 1212, 1227, 1236, 1255, 1269, 1283, 1292, 1301, 1305, 1314, 1318, 1332, 1341] ?_
        show gj_Goes E om0 mt_295 18 [some (.ref 140), some (.ref 0), some (.ref 81), some (.int (x3 + (i3 6)))] [] SI48 SJ48 (QI Q)
        exact (q57.1 c58)
      · refine ⟨(Or.inl rfl), ?_⟩
        exact ⟨_, rfl, (q57.2 c58)⟩
    · refine gj_goq gj_clT ok_295 [18, 229, 258, 272, 281, 295, 304, 323, 337, 351, 360, 379, 393, 412, 426, 435, 439, 458, 472, 486, 495, 509, 518, 533, 542, 561, 575, 594, 608, 628, 642, 661, 675, 694, 708, 727, 741, 756, 765, 785, 799, 824, 843, 872, 896, 931, 960, 975, 984, 999, 1008, 1023, 1032, 1046, 1055, 1070, 1079, 1099, 1113, 1127, 1136, 1155, 1169, 1193, 1212, 1227, 1236, 1255, 1269, 1283, 1292, 1301, 1305, 1314, 1318, 1332, 1341] ?_
      show vp_in (x3 + (i3 1)) (gj_L E) ∧ (vp_in (x3 + (i3 2)) (gj_L E) ∧ (gj_Do E om0 (gj_mt 116) [(.ref 0), (.int (gj_stf E 12 (gj_n (x3 + (i3 1))))), (.int (gj_stf E 12 (gj_n (x3 + (i3 2)))))] SI SJ _))
      have k59 := ((h.2 c1).2.2.2.2.2.2.2.2.2.2.2.2.2.1 c3).1
      refine ⟨k59, ?_⟩
      have k60 := ((h.2 c1).2.2.2.2.2.2.2.2.2.2.2.2.2.1 c3).2.1
      refine ⟨k60, ?_⟩
      refine gj_Do.mono ((h.2 c1).2.2.2.2.2.2.2.2.2.2.2.2.2.1 c3).2.2 (fun v_ SI50 SJ50 h_ => ?_)
      obtain ⟨r49, rfl, q61⟩ := h_
      show gj_Goes E om0 mt_295 561 [some (.ref 140), some (.ref 0), some (.ref 81), some (.int x3)] [(.int r49)] SI50 SJ50 (QI Q)
      refine gj_goq gj_clT ok_295 [18, 229, 258, 272, 281, 295, 304, 323, 337, 351, 360, 379, 393, 412, 426, 435, 439, 458, 472, 486, 495, 509, 518, 533, 542, 561, 575, 594, 608, 628, 642, 661, 675, 694, 708, 727, 741, 756, 765, 785, 799, 824, 843, 872, 896, 931, 960, 975, 984, 999, 1008, 1023, 1032, 1046, 1055, 1070, 1079, 1099, 1113, 1127, 1136, 1155, 1169, 1193, 1212, 1227, 1236, 1255, 1269, 1283, 1292, 1301, 1305, 1314, 1318, 1332, 1341] ?_
      show vp_in (x3 + (i3 1)) (gj_L E) ∧ (vp_in (x3 + (i3 2)) (gj_L E) ∧ (gj_Do E om0 (gj_mt 275) [(.ref 81), (.int (gj_stf E 12 (gj_n (x3 + (i3 1))))), (.int (gj_stf E 12 (gj_n (x3 + (i3 2)))))] SI50 SJ50 _))
      refine ⟨k59, ?_⟩
      refine ⟨k60, ?_⟩
      refine gj_Do.mono q61 (fun v_ SI52 SJ52 h_ => ?_)
      obtain ⟨r51, rfl, q62⟩ := h_
      show gj_Goes E om0 mt_295 575 [some (.ref 140), some (.ref 0), some (.ref 81), some (.int x3)] [(.int r51), (.int r49)] SI52 SJ52 (QI Q)
      refine gj_goq gj_clT ok_295 [18, 229, 258, 272, 281, 295, 304, 323, 337, 351, 360, 379, 393, 412, 426, 435, 439, 458, 472, 486, 495, 509, 518, 533, 542, 561, 575, 594, 608, 628, 642, 661, 675, 694, 708, 727, 741, 756, 765, 785, 799, 824, 843, 872, 896, 931, 960, 975, 984, 999, 1008, 1023, 1032, 1046, 1055, 1070, 1079, 1099, 1113, 1127, 1136, 1155, 1169, 1193, 1212, 1227, 1236, 1255, 1269, 1283, 1292, 1301, 1305, 1314, 1318, 1332, 1341] ?_
      show (r49 = r51 → gj_Goes E om0 mt_295 1346 [some (.ref 140), some (.ref 0), some (.ref 81), some (.int x3)] [] SI52 SJ52 (QI Q)) ∧ (¬ r49 = r51 → ((i3 0) = 0 ∨ (i3 0) = 1) ∧ (QI Q (some (.int (i3 0))) SI52 SJ52))
      refine ⟨fun c63 => ?_, fun c63 => ?_⟩
      · refine gj_goq gj_clT ok_295 [18, 229, 258, 272, 281, 295, 304, 323, 337, 351, 360, 379, 393, 412, 426, 435, 439, 458, 472, 486, 495, 509, 518, 533, 542, 561, 575, 594, 608, 628, 642, 661, 675, 694, 708, 727, 741, 756, 765, 785, 799, 824, 843, 872, 896, 931, 960, 975, 984, 999, 1008, 1023, 1032, 1046, 1055, 1070, 1079, 1099, 1113, 1127, 1136, 1155, 1169, 1193, 1212, 1227, 1236, 1255, 1269, 1283, 1292, 1301, 1305, 1314, 1318, 1332, 1341] ?_
        show gj_Goes E om0 mt_295 18 [some (.ref 140), some (.ref 0), some (.ref 81), some (.int (x3 + (i3 6)))] [] SI52 SJ52 (QI Q)
        exact (q62.1 c63)
      · refine ⟨(Or.inl rfl), ?_⟩
        exact ⟨_, rfl, (q62.2 c63)⟩
    · refine gj_goq gj_clT ok_295 [18, 229, 258, 272, 281, 295, 304, 323, 337, 351, 360, 379, 393, 412, 426, 435, 439, 458, 472, 486, 495, 509, 518, 533, 542, 561, 575, 594, 608, 628, 642, 661, 675, 694, 708, 727, 741, 756, 765, 785, 799, 824, 843, 872, 896, 931, 960, 975, 984, 999, 1008, 1023, 1032, 1046, 1055, 1070, 1079, 1099, 1113, 1127, 1136, 1155, 1169, 1193, 1212, 1227, 1236, 1255, 1269, 1283, 1292, 1301, 1305, 1314, 1318, 1332, 1341] ?_
      show vp_in (x3 + (i3 1)) (gj_L E) ∧ (vp_in (x3 + (i3 2)) (gj_L E) ∧ (gj_Do E om0 (gj_mt 117) [(.ref 0), (.int (gj_stf E 12 (gj_n (x3 + (i3 1))))), (.int (gj_stf E 12 (gj_n (x3 + (i3 2)))))] SI SJ _))
      have k64 := ((h.2 c1).2.2.2.2.2.2.2.2.2.2.2.2.2.2.1 c3).1
      refine ⟨k64, ?_⟩
      have k65 := ((h.2 c1).2.2.2.2.2.2.2.2.2.2.2.2.2.2.1 c3).2.1
      refine ⟨k65, ?_⟩
      refine gj_Do.mono ((h.2 c1).2.2.2.2.2.2.2.2.2.2.2.2.2.2.1 c3).2.2 (fun v_ SI54 SJ54 h_ => ?_)
      obtain ⟨r53, rfl, q66⟩ := h_
      show gj_Goes E om0 mt_295 594 [some (.ref 140), some (.ref 0), some (.ref 81), some (.int x3)] [(.long r53)] SI54 SJ54 (QI Q)
      refine gj_goq gj_clT ok_295 [18, 229, 258, 272, 281, 295, 304, 323, 337, 351, 360, 379, 393, 412, 426, 435, 439, 458, 472, 486, 495, 509, 518, 533, 542, 561, 575, 594, 608, 628, 642, 661, 675, 694, 708, 727, 741, 756, 765, 785, 799, 824, 843, 872, 896, 931, 960, 975, 984, 999, 1008, 1023, 1032, 1046, 1055, 1070, 1079, 1099, 1113, 1127, 1136, 1155, 1169, 1193, 1212, 1227, 1236, 1255, 1269, 1283, 1292, 1301, 1305, 1314, 1318, 1332, 1341] ?_
      show vp_in (x3 + (i3 1)) (gj_L E) ∧ (vp_in (x3 + (i3 2)) (gj_L E) ∧ (gj_Do E om0 (gj_mt 276) [(.ref 81), (.int (gj_stf E 12 (gj_n (x3 + (i3 1))))), (.int (gj_stf E 12 (gj_n (x3 + (i3 2)))))] SI54 SJ54 _))
      refine ⟨k64, ?_⟩
      refine ⟨k65, ?_⟩
      refine gj_Do.mono q66 (fun v_ SI56 SJ56 h_ => ?_)
      obtain ⟨r55, rfl, q67⟩ := h_
      show gj_Goes E om0 mt_295 608 [some (.ref 140), some (.ref 0), some (.ref 81), some (.int x3)] [(.long r55), (.long r53)] SI56 SJ56 (QI Q)
      refine gj_goq gj_clT ok_295 [18, 229, 258, 272, 281, 295, 304, 323, 337, 351, 360, 379, 393, 412, 426, 435, 439, 458, 472, 486, 495, 509, 518, 533, 542, 561, 575, 594, 608, 628, 642, 661, 675, 694, 708, 727, 741, 756, 765, 785, 799, 824, 843, 872, 896, 931, 960, 975, 984, 999, 1008, 1023, 1032, 1046, 1055, 1070, 1079, 1099, 1113, 1127, 1136, 1155, 1169, 1193, 1212, 1227, 1236, 1255, 1269, 1283, 1292, 1301, 1305, 1314, 1318, 1332, 1341] ?_
      show ((lg_cmp r53 r55) = 0 → gj_Goes E om0 mt_295 1346 [some (.ref 140), some (.ref 0), some (.ref 81), some (.int x3)] [] SI56 SJ56 (QI Q)) ∧ (¬ (lg_cmp r53 r55) = 0 → ((i3 0) = 0 ∨ (i3 0) = 1) ∧ (QI Q (some (.int (i3 0))) SI56 SJ56))
      refine ⟨fun c68 => ?_, fun c68 => ?_⟩
      · refine gj_goq gj_clT ok_295 [18, 229, 258, 272, 281, 295, 304, 323, 337, 351, 360, 379, 393, 412, 426, 435, 439, 458, 472, 486, 495, 509, 518, 533, 542, 561, 575, 594, 608, 628, 642, 661, 675, 694, 708, 727, 741, 756, 765, 785, 799, 824, 843, 872, 896, 931, 960, 975, 984, 999, 1008, 1023, 1032, 1046, 1055, 1070, 1079, 1099, 1113, 1127, 1136, 1155, 1169, 1193, 1212, 1227, 1236, 1255, 1269, 1283, 1292, 1301, 1305, 1314, 1318, 1332, 1341] ?_
        show gj_Goes E om0 mt_295 18 [some (.ref 140), some (.ref 0), some (.ref 81), some (.int (x3 + (i3 6)))] [] SI56 SJ56 (QI Q)
        exact (q67.1 (lgc_eq.mp c68))
      · refine ⟨(Or.inl rfl), ?_⟩
        exact ⟨_, rfl, (q67.2 (fun z_ => c68 (lgc_eq.mpr z_)))⟩
    · refine gj_goq gj_clT ok_295 [18, 229, 258, 272, 281, 295, 304, 323, 337, 351, 360, 379, 393, 412, 426, 435, 439, 458, 472, 486, 495, 509, 518, 533, 542, 561, 575, 594, 608, 628, 642, 661, 675, 694, 708, 727, 741, 756, 765, 785, 799, 824, 843, 872, 896, 931, 960, 975, 984, 999, 1008, 1023, 1032, 1046, 1055, 1070, 1079, 1099, 1113, 1127, 1136, 1155, 1169, 1193, 1212, 1227, 1236, 1255, 1269, 1283, 1292, 1301, 1305, 1314, 1318, 1332, 1341] ?_
      show vp_in (x3 + (i3 1)) (gj_L E) ∧ (vp_in (x3 + (i3 2)) (gj_L E) ∧ (gj_Do E om0 (gj_mt 118) [(.ref 0), (.int (gj_stf E 12 (gj_n (x3 + (i3 1))))), (.int (gj_stf E 12 (gj_n (x3 + (i3 2)))))] SI SJ _))
      have k69 := ((h.2 c1).2.2.2.2.2.2.2.2.2.2.2.2.2.2.2.1 c3).1
      refine ⟨k69, ?_⟩
      have k70 := ((h.2 c1).2.2.2.2.2.2.2.2.2.2.2.2.2.2.2.1 c3).2.1
      refine ⟨k70, ?_⟩
      refine gj_Do.mono ((h.2 c1).2.2.2.2.2.2.2.2.2.2.2.2.2.2.2.1 c3).2.2 (fun v_ SI58 SJ58 h_ => ?_)
      obtain ⟨r57, rfl, q71⟩ := h_
      show gj_Goes E om0 mt_295 628 [some (.ref 140), some (.ref 0), some (.ref 81), some (.int x3)] [(.int r57)] SI58 SJ58 (QI Q)
      refine gj_goq gj_clT ok_295 [18, 229, 258, 272, 281, 295, 304, 323, 337, 351, 360, 379, 393, 412, 426, 435, 439, 458, 472, 486, 495, 509, 518, 533, 542, 561, 575, 594, 608, 628, 642, 661, 675, 694, 708, 727, 741, 756, 765, 785, 799, 824, 843, 872, 896, 931, 960, 975, 984, 999, 1008, 1023, 1032, 1046, 1055, 1070, 1079, 1099, 1113, 1127, 1136, 1155, 1169, 1193, 1212, 1227, 1236, 1255, 1269, 1283, 1292, 1301, 1305, 1314, 1318, 1332, 1341] ?_
      show vp_in (x3 + (i3 1)) (gj_L E) ∧ (vp_in (x3 + (i3 2)) (gj_L E) ∧ (gj_Do E om0 (gj_mt 277) [(.ref 81), (.int (gj_stf E 12 (gj_n (x3 + (i3 1))))), (.int (gj_stf E 12 (gj_n (x3 + (i3 2)))))] SI58 SJ58 _))
      refine ⟨k69, ?_⟩
      refine ⟨k70, ?_⟩
      refine gj_Do.mono q71 (fun v_ SI60 SJ60 h_ => ?_)
      obtain ⟨r59, rfl, q72⟩ := h_
      show gj_Goes E om0 mt_295 642 [some (.ref 140), some (.ref 0), some (.ref 81), some (.int x3)] [(.int r59), (.int r57)] SI60 SJ60 (QI Q)
      refine gj_goq gj_clT ok_295 [18, 229, 258, 272, 281, 295, 304, 323, 337, 351, 360, 379, 393, 412, 426, 435, 439, 458, 472, 486, 495, 509, 518, 533, 542, 561, 575, 594, 608, 628, 642, 661, 675, 694, 708, 727, 741, 756, 765, 785, 799, 824, 843, 872, 896, 931, 960, 975, 984, 999, 1008, 1023, 1032, 1046, 1055, 1070, 1079, 1099, 1113, 1127, 1136, 1155, 1169, 1193, 1212, 1227, 1236, 1255, 1269, 1283, 1292, 1301, 1305, 1314, 1318, 1332, 1341] ?_
      show (r57 = r59 → gj_Goes E om0 mt_295 1346 [some (.ref 140), some (.ref 0), some (.ref 81), some (.int x3)] [] SI60 SJ60 (QI Q)) ∧ (¬ r57 = r59 → ((i3 0) = 0 ∨ (i3 0) = 1) ∧ (QI Q (some (.int (i3 0))) SI60 SJ60))
      refine ⟨fun c73 => ?_, fun c73 => ?_⟩
      · refine gj_goq gj_clT ok_295 [18, 229, 258, 272, 281, 295, 304, 323, 337, 351, 360, 379, 393, 412, 426, 435, 439, 458, 472, 486, 495, 509, 518, 533, 542, 561, 575, 594, 608, 628, 642, 661, 675, 694, 708, 727, 741, 756, 765, 785, 799, 824, 843, 872, 896, 931, 960, 975, 984, 999, 1008, 1023, 1032, 1046, 1055, 1070, 1079, 1099, 1113, 1127, 1136, 1155, 1169, 1193, 1212, 1227, 1236, 1255, 1269, 1283, 1292, 1301, 1305, 1314, 1318, 1332, 1341] ?_
        show gj_Goes E om0 mt_295 18 [some (.ref 140), some (.ref 0), some (.ref 81), some (.int (x3 + (i3 6)))] [] SI60 SJ60 (QI Q)
        exact (q72.1 c73)
      · refine ⟨(Or.inl rfl), ?_⟩
        exact ⟨_, rfl, (q72.2 c73)⟩
    · refine gj_goq gj_clT ok_295 [18, 229, 258, 272, 281, 295, 304, 323, 337, 351, 360, 379, 393, 412, 426, 435, 439, 458, 472, 486, 495, 509, 518, 533, 542, 561, 575, 594, 608, 628, 642, 661, 675, 694, 708, 727, 741, 756, 765, 785, 799, 824, 843, 872, 896, 931, 960, 975, 984, 999, 1008, 1023, 1032, 1046, 1055, 1070, 1079, 1099, 1113, 1127, 1136, 1155, 1169, 1193, 1212, 1227, 1236, 1255, 1269, 1283, 1292, 1301, 1305, 1314, 1318, 1332, 1341] ?_
      show vp_in (x3 + (i3 1)) (gj_L E) ∧ (vp_in (x3 + (i3 2)) (gj_L E) ∧ (gj_Do E om0 (gj_mt 119) [(.ref 0), (.int (gj_stf E 12 (gj_n (x3 + (i3 1))))), (.int (gj_stf E 12 (gj_n (x3 + (i3 2)))))] SI SJ _))
      have k74 := ((h.2 c1).2.2.2.2.2.2.2.2.2.2.2.2.2.2.2.2.1 c3).1
      refine ⟨k74, ?_⟩
      have k75 := ((h.2 c1).2.2.2.2.2.2.2.2.2.2.2.2.2.2.2.2.1 c3).2.1
      refine ⟨k75, ?_⟩
      refine gj_Do.mono ((h.2 c1).2.2.2.2.2.2.2.2.2.2.2.2.2.2.2.2.1 c3).2.2 (fun v_ SI62 SJ62 h_ => ?_)
      obtain ⟨r61, rfl, q76⟩ := h_
      show gj_Goes E om0 mt_295 661 [some (.ref 140), some (.ref 0), some (.ref 81), some (.int x3)] [(.int r61)] SI62 SJ62 (QI Q)
      refine gj_goq gj_clT ok_295 [18, 229, 258, 272, 281, 295, 304, 323, 337, 351, 360, 379, 393, 412, 426, 435, 439, 458, 472, 486, 495, 509, 518, 533, 542, 561, 575, 594, 608, 628, 642, 661, 675, 694, 708, 727, 741, 756, 765, 785, 799, 824, 843, 872, 896, 931, 960, 975, 984, 999, 1008, 1023, 1032, 1046, 1055, 1070, 1079, 1099, 1113, 1127, 1136, 1155, 1169, 1193, 1212, 1227, 1236, 1255, 1269, 1283, 1292, 1301, 1305, 1314, 1318, 1332, 1341] ?_
      show vp_in (x3 + (i3 1)) (gj_L E) ∧ (vp_in (x3 + (i3 2)) (gj_L E) ∧ (gj_Do E om0 (gj_mt 278) [(.ref 81), (.int (gj_stf E 12 (gj_n (x3 + (i3 1))))), (.int (gj_stf E 12 (gj_n (x3 + (i3 2)))))] SI62 SJ62 _))
      refine ⟨k74, ?_⟩
      refine ⟨k75, ?_⟩
      refine gj_Do.mono q76 (fun v_ SI64 SJ64 h_ => ?_)
      obtain ⟨r63, rfl, q77⟩ := h_
      show gj_Goes E om0 mt_295 675 [some (.ref 140), some (.ref 0), some (.ref 81), some (.int x3)] [(.int r63), (.int r61)] SI64 SJ64 (QI Q)
      refine gj_goq gj_clT ok_295 [18, 229, 258, 272, 281, 295, 304, 323, 337, 351, 360, 379, 393, 412, 426, 435, 439, 458, 472, 486, 495, 509, 518, 533, 542, 561, 575, 594, 608, 628, 642, 661, 675, 694, 708, 727, 741, 756, 765, 785, 799, 824, 843, 872, 896, 931, 960, 975, 984, 999, 1008, 1023, 1032, 1046, 1055, 1070, 1079, 1099, 1113, 1127, 1136, 1155, 1169, 1193, 1212, 1227, 1236, 1255, 1269, 1283, 1292, 1301, 1305, 1314, 1318, 1332, 1341] ?_
      show (r61 = r63 → gj_Goes E om0 mt_295 1346 [some (.ref 140), some (.ref 0), some (.ref 81), some (.int x3)] [] SI64 SJ64 (QI Q)) ∧ (¬ r61 = r63 → ((i3 0) = 0 ∨ (i3 0) = 1) ∧ (QI Q (some (.int (i3 0))) SI64 SJ64))
      refine ⟨fun c78 => ?_, fun c78 => ?_⟩
      · refine gj_goq gj_clT ok_295 [18, 229, 258, 272, 281, 295, 304, 323, 337, 351, 360, 379, 393, 412, 426, 435, 439, 458, 472, 486, 495, 509, 518, 533, 542, 561, 575, 594, 608, 628, 642, 661, 675, 694, 708, 727, 741, 756, 765, 785, 799, 824, 843, 872, 896, 931, 960, 975, 984, 999, 1008, 1023, 1032, 1046, 1055, 1070, 1079, 1099, 1113, 1127, 1136, 1155, 1169, 1193, 1212, 1227, 1236, 1255, 1269, 1283, 1292, 1301, 1305, 1314, 1318, 1332, 1341] ?_
        show gj_Goes E om0 mt_295 18 [some (.ref 140), some (.ref 0), some (.ref 81), some (.int (x3 + (i3 6)))] [] SI64 SJ64 (QI Q)
        exact (q77.1 c78)
      · refine ⟨(Or.inl rfl), ?_⟩
        exact ⟨_, rfl, (q77.2 c78)⟩
    · refine gj_goq gj_clT ok_295 [18, 229, 258, 272, 281, 295, 304, 323, 337, 351, 360, 379, 393, 412, 426, 435, 439, 458, 472, 486, 495, 509, 518, 533, 542, 561, 575, 594, 608, 628, 642, 661, 675, 694, 708, 727, 741, 756, 765, 785, 799, 824, 843, 872, 896, 931, 960, 975, 984, 999, 1008, 1023, 1032, 1046, 1055, 1070, 1079, 1099, 1113, 1127, 1136, 1155, 1169, 1193, 1212, 1227, 1236, 1255, 1269, 1283, 1292, 1301, 1305, 1314, 1318, 1332, 1341] ?_
      show vp_in (x3 + (i3 1)) (gj_L E) ∧ (vp_in (x3 + (i3 2)) (gj_L E) ∧ (gj_Do E om0 (gj_mt 124) [(.ref 0), (.int (gj_stf E 12 (gj_n (x3 + (i3 1))))), (.int (gj_stf E 12 (gj_n (x3 + (i3 2)))))] SI SJ _))
      have k79 := ((h.2 c1).2.2.2.2.2.2.2.2.2.2.2.2.2.2.2.2.2.1 c3).1
      refine ⟨k79, ?_⟩
      have k80 := ((h.2 c1).2.2.2.2.2.2.2.2.2.2.2.2.2.2.2.2.2.1 c3).2.1
      refine ⟨k80, ?_⟩
      refine gj_Do.mono ((h.2 c1).2.2.2.2.2.2.2.2.2.2.2.2.2.2.2.2.2.1 c3).2.2 (fun v_ SI66 SJ66 h_ => ?_)
      obtain ⟨r65, rfl, q81⟩ := h_
      show gj_Goes E om0 mt_295 694 [some (.ref 140), some (.ref 0), some (.ref 81), some (.int x3)] [(.int r65)] SI66 SJ66 (QI Q)
      refine gj_goq gj_clT ok_295 [18, 229, 258, 272, 281, 295, 304, 323, 337, 351, 360, 379, 393, 412, 426, 435, 439, 458, 472, 486, 495, 509, 518, 533, 542, 561, 575, 594, 608, 628, 642, 661, 675, 694, 708, 727, 741, 756, 765, 785, 799, 824, 843, 872, 896, 931, 960, 975, 984, 999, 1008, 1023, 1032, 1046, 1055, 1070, 1079, 1099, 1113, 1127, 1136, 1155, 1169, 1193, 1212, 1227, 1236, 1255, 1269, 1283, 1292, 1301, 1305, 1314, 1318, 1332, 1341] ?_
      show vp_in (x3 + (i3 1)) (gj_L E) ∧ (vp_in (x3 + (i3 2)) (gj_L E) ∧ (gj_Do E om0 (gj_mt 279) [(.ref 81), (.int (gj_stf E 12 (gj_n (x3 + (i3 1))))), (.int (gj_stf E 12 (gj_n (x3 + (i3 2)))))] SI66 SJ66 _))
      refine ⟨k79, ?_⟩
      refine ⟨k80, ?_⟩
      refine gj_Do.mono q81 (fun v_ SI68 SJ68 h_ => ?_)
      obtain ⟨r67, rfl, q82⟩ := h_
      show gj_Goes E om0 mt_295 708 [some (.ref 140), some (.ref 0), some (.ref 81), some (.int x3)] [(.int r67), (.int r65)] SI68 SJ68 (QI Q)
      refine gj_goq gj_clT ok_295 [18, 229, 258, 272, 281, 295, 304, 323, 337, 351, 360, 379, 393, 412, 426, 435, 439, 458, 472, 486, 495, 509, 518, 533, 542, 561, 575, 594, 608, 628, 642, 661, 675, 694, 708, 727, 741, 756, 765, 785, 799, 824, 843, 872, 896, 931, 960, 975, 984, 999, 1008, 1023, 1032, 1046, 1055, 1070, 1079, 1099, 1113, 1127, 1136, 1155, 1169, 1193, 1212, 1227, 1236, 1255, 1269, 1283, 1292, 1301, 1305, 1314, 1318, 1332, 1341] ?_
      show (r65 = r67 → gj_Goes E om0 mt_295 1346 [some (.ref 140), some (.ref 0), some (.ref 81), some (.int x3)] [] SI68 SJ68 (QI Q)) ∧ (¬ r65 = r67 → ((i3 0) = 0 ∨ (i3 0) = 1) ∧ (QI Q (some (.int (i3 0))) SI68 SJ68))
      refine ⟨fun c83 => ?_, fun c83 => ?_⟩
      · refine gj_goq gj_clT ok_295 [18, 229, 258, 272, 281, 295, 304, 323, 337, 351, 360, 379, 393, 412, 426, 435, 439, 458, 472, 486, 495, 509, 518, 533, 542, 561, 575, 594, 608, 628, 642, 661, 675, 694, 708, 727, 741, 756, 765, 785, 799, 824, 843, 872, 896, 931, 960, 975, 984, 999, 1008, 1023, 1032, 1046, 1055, 1070, 1079, 1099, 1113, 1127, 1136, 1155, 1169, 1193, 1212, 1227, 1236, 1255, 1269, 1283, 1292, 1301, 1305, 1314, 1318, 1332, 1341] ?_
        show gj_Goes E om0 mt_295 18 [some (.ref 140), some (.ref 0), some (.ref 81), some (.int (x3 + (i3 6)))] [] SI68 SJ68 (QI Q)
        exact (q82.1 c83)
      · refine ⟨(Or.inl rfl), ?_⟩
        exact ⟨_, rfl, (q82.2 c83)⟩
    · refine gj_goq gj_clT ok_295 [18, 229, 258, 272, 281, 295, 304, 323, 337, 351, 360, 379, 393, 412, 426, 435, 439, 458, 472, 486, 495, 509, 518, 533, 542, 561, 575, 594, 608, 628, 642, 661, 675, 694, 708, 727, 741, 756, 765, 785, 799, 824, 843, 872, 896, 931, 960, 975, 984, 999, 1008, 1023, 1032, 1046, 1055, 1070, 1079, 1099, 1113, 1127, 1136, 1155, 1169, 1193, 1212, 1227, 1236, 1255, 1269, 1283, 1292, 1301, 1305, 1314, 1318, 1332, 1341] ?_
      show vp_in (x3 + (i3 1)) (gj_L E) ∧ (vp_in (x3 + (i3 2)) (gj_L E) ∧ (gj_Do E om0 (gj_mt 125) [(.ref 0), (.int (gj_stf E 12 (gj_n (x3 + (i3 1))))), (.int (gj_stf E 12 (gj_n (x3 + (i3 2)))))] SI SJ _))
      have k84 := ((h.2 c1).2.2.2.2.2.2.2.2.2.2.2.2.2.2.2.2.2.2.1 c3).1
      refine ⟨k84, ?_⟩
      have k85 := ((h.2 c1).2.2.2.2.2.2.2.2.2.2.2.2.2.2.2.2.2.2.1 c3).2.1
      refine ⟨k85, ?_⟩
      refine gj_Do.mono ((h.2 c1).2.2.2.2.2.2.2.2.2.2.2.2.2.2.2.2.2.2.1 c3).2.2 (fun v_ SI70 SJ70 h_ => ?_)
      obtain ⟨r69, rfl, q86⟩ := h_
      show gj_Goes E om0 mt_295 727 [some (.ref 140), some (.ref 0), some (.ref 81), some (.int x3)] [(.long r69)] SI70 SJ70 (QI Q)
      refine gj_goq gj_clT ok_295 [18, 229, 258, 272, 281, 295, 304, 323, 337, 351, 360, 379, 393, 412, 426, 435, 439, 458, 472, 486, 495, 509, 518, 533, 542, 561, 575, 594, 608, 628, 642, 661, 675, 694, 708, 727, 741, 756, 765, 785, 799, 824, 843, 872, 896, 931, 960, 975, 984, 999, 1008, 1023, 1032, 1046, 1055, 1070, 1079, 1099, 1113, 1127, 1136, 1155, 1169, 1193, 1212, 1227, 1236, 1255, 1269, 1283, 1292, 1301, 1305, 1314, 1318, 1332, 1341] ?_
      show vp_in (x3 + (i3 1)) (gj_L E) ∧ (vp_in (x3 + (i3 2)) (gj_L E) ∧ (gj_Do E om0 (gj_mt 280) [(.ref 81), (.int (gj_stf E 12 (gj_n (x3 + (i3 1))))), (.int (gj_stf E 12 (gj_n (x3 + (i3 2)))))] SI70 SJ70 _))
      refine ⟨k84, ?_⟩
      refine ⟨k85, ?_⟩
      refine gj_Do.mono q86 (fun v_ SI72 SJ72 h_ => ?_)
      obtain ⟨r71, rfl, q87⟩ := h_
      show gj_Goes E om0 mt_295 741 [some (.ref 140), some (.ref 0), some (.ref 81), some (.int x3)] [(.long r71), (.long r69)] SI72 SJ72 (QI Q)
      refine gj_goq gj_clT ok_295 [18, 229, 258, 272, 281, 295, 304, 323, 337, 351, 360, 379, 393, 412, 426, 435, 439, 458, 472, 486, 495, 509, 518, 533, 542, 561, 575, 594, 608, 628, 642, 661, 675, 694, 708, 727, 741, 756, 765, 785, 799, 824, 843, 872, 896, 931, 960, 975, 984, 999, 1008, 1023, 1032, 1046, 1055, 1070, 1079, 1099, 1113, 1127, 1136, 1155, 1169, 1193, 1212, 1227, 1236, 1255, 1269, 1283, 1292, 1301, 1305, 1314, 1318, 1332, 1341] ?_
      show ((lg_cmp r69 r71) = 0 → gj_Goes E om0 mt_295 1346 [some (.ref 140), some (.ref 0), some (.ref 81), some (.int x3)] [] SI72 SJ72 (QI Q)) ∧ (¬ (lg_cmp r69 r71) = 0 → ((i3 0) = 0 ∨ (i3 0) = 1) ∧ (QI Q (some (.int (i3 0))) SI72 SJ72))
      refine ⟨fun c88 => ?_, fun c88 => ?_⟩
      · refine gj_goq gj_clT ok_295 [18, 229, 258, 272, 281, 295, 304, 323, 337, 351, 360, 379, 393, 412, 426, 435, 439, 458, 472, 486, 495, 509, 518, 533, 542, 561, 575, 594, 608, 628, 642, 661, 675, 694, 708, 727, 741, 756, 765, 785, 799, 824, 843, 872, 896, 931, 960, 975, 984, 999, 1008, 1023, 1032, 1046, 1055, 1070, 1079, 1099, 1113, 1127, 1136, 1155, 1169, 1193, 1212, 1227, 1236, 1255, 1269, 1283, 1292, 1301, 1305, 1314, 1318, 1332, 1341] ?_
        show gj_Goes E om0 mt_295 18 [some (.ref 140), some (.ref 0), some (.ref 81), some (.int (x3 + (i3 6)))] [] SI72 SJ72 (QI Q)
        exact (q87.1 (lgc_eq.mp c88))
      · refine ⟨(Or.inl rfl), ?_⟩
        exact ⟨_, rfl, (q87.2 (fun z_ => c88 (lgc_eq.mpr z_)))⟩
    · refine gj_goq gj_clT ok_295 [18, 229, 258, 272, 281, 295, 304, 323, 337, 351, 360, 379, 393, 412, 426, 435, 439, 458, 472, 486, 495, 509, 518, 533, 542, 561, 575, 594, 608, 628, 642, 661, 675, 694, 708, 727, 741, 756, 765, 785, 799, 824, 843, 872, 896, 931, 960, 975, 984, 999, 1008, 1023, 1032, 1046, 1055, 1070, 1079, 1099, 1113, 1127, 1136, 1155, 1169, 1193, 1212, 1227, 1236, 1255, 1269, 1283, 1292, 1301, 1305, 1314, 1318, 1332, 1341] ?_
      show vp_in (x3 + (i3 1)) (gj_L E) ∧ (gj_Do E om0 (gj_mt 135) [(.ref 0), (.int (gj_stf E 12 (gj_n (x3 + (i3 1)))))] SI SJ _)
      have k89 := ((h.2 c1).2.2.2.2.2.2.2.2.2.2.2.2.2.2.2.2.2.2.2.1 c3).1
      refine ⟨k89, ?_⟩
      refine gj_Do.mono ((h.2 c1).2.2.2.2.2.2.2.2.2.2.2.2.2.2.2.2.2.2.2.1 c3).2 (fun v_ SI74 SJ74 h_ => ?_)
      obtain ⟨r73, rfl, q90⟩ := h_
      show gj_Goes E om0 mt_295 756 [some (.ref 140), some (.ref 0), some (.ref 81), some (.int x3)] [(.long r73)] SI74 SJ74 (QI Q)
      refine gj_goq gj_clT ok_295 [18, 229, 258, 272, 281, 295, 304, 323, 337, 351, 360, 379, 393, 412, 426, 435, 439, 458, 472, 486, 495, 509, 518, 533, 542, 561, 575, 594, 608, 628, 642, 661, 675, 694, 708, 727, 741, 756, 765, 785, 799, 824, 843, 872, 896, 931, 960, 975, 984, 999, 1008, 1023, 1032, 1046, 1055, 1070, 1079, 1099, 1113, 1127, 1136, 1155, 1169, 1193, 1212, 1227, 1236, 1255, 1269, 1283, 1292, 1301, 1305, 1314, 1318, 1332, 1341] ?_
      show vp_in (x3 + (i3 1)) (gj_L E) ∧ (gj_Do E om0 (gj_mt 245) [(.ref 81), (.int (gj_stf E 12 (gj_n (x3 + (i3 1)))))] SI74 SJ74 _)
      refine ⟨k89, ?_⟩
      refine gj_Do.mono q90 (fun v_ SI76 SJ76 h_ => ?_)
      obtain ⟨r75, rfl, q91⟩ := h_
      show gj_Goes E om0 mt_295 765 [some (.ref 140), some (.ref 0), some (.ref 81), some (.int x3)] [(.long r75), (.long r73)] SI76 SJ76 (QI Q)
      refine gj_goq gj_clT ok_295 [18, 229, 258, 272, 281, 295, 304, 323, 337, 351, 360, 379, 393, 412, 426, 435, 439, 458, 472, 486, 495, 509, 518, 533, 542, 561, 575, 594, 608, 628, 642, 661, 675, 694, 708, 727, 741, 756, 765, 785, 799, 824, 843, 872, 896, 931, 960, 975, 984, 999, 1008, 1023, 1032, 1046, 1055, 1070, 1079, 1099, 1113, 1127, 1136, 1155, 1169, 1193, 1212, 1227, 1236, 1255, 1269, 1283, 1292, 1301, 1305, 1314, 1318, 1332, 1341] ?_
      show ((lg_cmp r73 r75) = 0 → gj_Goes E om0 mt_295 1346 [some (.ref 140), some (.ref 0), some (.ref 81), some (.int x3)] [] SI76 SJ76 (QI Q)) ∧ (¬ (lg_cmp r73 r75) = 0 → ((i3 0) = 0 ∨ (i3 0) = 1) ∧ (QI Q (some (.int (i3 0))) SI76 SJ76))
      refine ⟨fun c92 => ?_, fun c92 => ?_⟩
      · refine gj_goq gj_clT ok_295 [18, 229, 258, 272, 281, 295, 304, 323, 337, 351, 360, 379, 393, 412, 426, 435, 439, 458, 472, 486, 495, 509, 518, 533, 542, 561, 575, 594, 608, 628, 642, 661, 675, 694, 708, 727, 741, 756, 765, 785, 799, 824, 843, 872, 896, 931, 960, 975, 984, 999, 1008, 1023, 1032, 1046, 1055, 1070, 1079, 1099, 1113, 1127, 1136, 1155, 1169, 1193, 1212, 1227, 1236, 1255, 1269, 1283, 1292, 1301, 1305, 1314, 1318, 1332, 1341] ?_
        show gj_Goes E om0 mt_295 18 [some (.ref 140), some (.ref 0), some (.ref 81), some (.int (x3 + (i3 6)))] [] SI76 SJ76 (QI Q)
        exact (q91.1 (lgc_eq.mp c92))
      · refine ⟨(Or.inl rfl), ?_⟩
        exact ⟨_, rfl, (q91.2 (fun z_ => c92 (lgc_eq.mpr z_)))⟩
    · refine gj_goq gj_clT ok_295 [18, 229, 258, 272, 281, 295, 304, 323, 337, 351, 360, 379, 393, 412, 426, 435, 439, 458, 472, 486, 495, 509, 518, 533, 542, 561, 575, 594, 608, 628, 642, 661, 675, 694, 708, 727, 741, 756, 765, 785, 799, 824, 843, 872, 896, 931, 960, 975, 984, 999, 1008, 1023, 1032, 1046, 1055, 1070, 1079, 1099, 1113, 1127, 1136, 1155, 1169, 1193, 1212, 1227, 1236, 1255, 1269, 1283, 1292, 1301, 1305, 1314, 1318, 1332, 1341] ?_
      show vp_in (x3 + (i3 1)) (gj_L E) ∧ (vp_in (x3 + (i3 2)) (gj_L E) ∧ (gj_Do E om0 (gj_mt 136) [(.ref 0), (.int (gj_stf E 12 (gj_n (x3 + (i3 1))))), (.int (gj_stf E 12 (gj_n (x3 + (i3 2)))))] SI SJ _))
      have k93 := ((h.2 c1).2.2.2.2.2.2.2.2.2.2.2.2.2.2.2.2.2.2.2.2.1 c3).1
      refine ⟨k93, ?_⟩
      have k94 := ((h.2 c1).2.2.2.2.2.2.2.2.2.2.2.2.2.2.2.2.2.2.2.2.1 c3).2.1
      refine ⟨k94, ?_⟩
      refine gj_Do.mono ((h.2 c1).2.2.2.2.2.2.2.2.2.2.2.2.2.2.2.2.2.2.2.2.1 c3).2.2 (fun v_ SI78 SJ78 h_ => ?_)
      obtain ⟨r77, rfl, q95⟩ := h_
      show gj_Goes E om0 mt_295 785 [some (.ref 140), some (.ref 0), some (.ref 81), some (.int x3)] [(.long r77)] SI78 SJ78 (QI Q)
      refine gj_goq gj_clT ok_295 [18, 229, 258, 272, 281, 295, 304, 323, 337, 351, 360, 379, 393, 412, 426, 435, 439, 458, 472, 486, 495, 509, 518, 533, 542, 561, 575, 594, 608, 628, 642, 661, 675, 694, 708, 727, 741, 756, 765, 785, 799, 824, 843, 872, 896, 931, 960, 975, 984, 999, 1008, 1023, 1032, 1046, 1055, 1070, 1079, 1099, 1113, 1127, 1136, 1155, 1169, 1193, 1212, 1227, 1236, 1255, 1269, 1283, 1292, 1301, 1305, 1314, 1318, 1332, 1341] ?_
      show vp_in (x3 + (i3 1)) (gj_L E) ∧ (vp_in (x3 + (i3 2)) (gj_L E) ∧ (gj_Do E om0 (gj_mt 248) [(.ref 81), (.int (gj_stf E 12 (gj_n (x3 + (i3 1))))), (.int (gj_stf E 12 (gj_n (x3 + (i3 2)))))] SI78 SJ78 _))
      refine ⟨k93, ?_⟩
      refine ⟨k94, ?_⟩
      refine gj_Do.mono q95 (fun v_ SI80 SJ80 h_ => ?_)
      obtain ⟨r79, rfl, q96⟩ := h_
      show gj_Goes E om0 mt_295 799 [some (.ref 140), some (.ref 0), some (.ref 81), some (.int x3)] [(.long r79), (.long r77)] SI80 SJ80 (QI Q)
      refine gj_goq gj_clT ok_295 [18, 229, 258, 272, 281, 295, 304, 323, 337, 351, 360, 379, 393, 412, 426, 435, 439, 458, 472, 486, 495, 509, 518, 533, 542, 561, 575, 594, 608, 628, 642, 661, 675, 694, 708, 727, 741, 756, 765, 785, 799, 824, 843, 872, 896, 931, 960, 975, 984, 999, 1008, 1023, 1032, 1046, 1055, 1070, 1079, 1099, 1113, 1127, 1136, 1155, 1169, 1193, 1212, 1227, 1236, 1255, 1269, 1283, 1292, 1301, 1305, 1314, 1318, 1332, 1341] ?_
      show ((lg_cmp r77 r79) = 0 → gj_Goes E om0 mt_295 1346 [some (.ref 140), some (.ref 0), some (.ref 81), some (.int x3)] [] SI80 SJ80 (QI Q)) ∧ (¬ (lg_cmp r77 r79) = 0 → ((i3 0) = 0 ∨ (i3 0) = 1) ∧ (QI Q (some (.int (i3 0))) SI80 SJ80))
      refine ⟨fun c97 => ?_, fun c97 => ?_⟩
      · refine gj_goq gj_clT ok_295 [18, 229, 258, 272, 281, 295, 304, 323, 337, 351, 360, 379, 393, 412, 426, 435, 439, 458, 472, 486, 495, 509, 518, 533, 542, 561, 575, 594, 608, 628, 642, 661, 675, 694, 708, 727, 741, 756, 765, 785, 799, 824, 843, 872, 896, 931, 960, 975, 984, 999, 1008, 1023, 1032, 1046, 1055, 1070, 1079, 1099, 1113, 1127, 1136, 1155, 1169, 1193, 1212, 1227, 1236, 1255, 1269, 1283, 1292, 1301, 1305, 1314, 1318, 1332, 1341] ?_
        show gj_Goes E om0 mt_295 18 [some (.ref 140), some (.ref 0), some (.ref 81), some (.int (x3 + (i3 6)))] [] SI80 SJ80 (QI Q)
        exact (q96.1 (lgc_eq.mp c97))
      · refine ⟨(Or.inl rfl), ?_⟩
        exact ⟨_, rfl, (q96.2 (fun z_ => c97 (lgc_eq.mpr z_)))⟩
    · refine gj_goq gj_clT ok_295 [18, 229, 258, 272, 281, 295, 304, 323, 337, 351, 360, 379, 393, 412, 426, 435, 439, 458, 472, 486, 495, 509, 518, 533, 542, 561, 575, 594, 608, 628, 642, 661, 675, 694, 708, 727, 741, 756, 765, 785, 799, 824, 843, 872, 896, 931, 960, 975, 984, 999, 1008, 1023, 1032, 1046, 1055, 1070, 1079, 1099, 1113, 1127, 1136, 1155, 1169, 1193, 1212, 1227, 1236, 1255, 1269, 1283, 1292, 1301, 1305, 1314, 1318, 1332, 1341] ?_
      show vp_in (x3 + (i3 1)) (gj_L E) ∧ (vp_in (x3 + (i3 2)) (gj_L E) ∧ (vp_in (x3 + (i3 3)) (gj_L E) ∧ (gj_Do E om0 (gj_mt 139) [(.ref 0), (.int (gj_stf E 12 (gj_n (x3 + (i3 1))))), (.int (gj_stf E 12 (gj_n (x3 + (i3 2))))), (.int (gj_stf E 12 (gj_n (x3 + (i3 3)))))] SI SJ _)))
      have k98 := ((h.2 c1).2.2.2.2.2.2.2.2.2.2.2.2.2.2.2.2.2.2.2.2.2.1 c3).1
      refine ⟨k98, ?_⟩
      have k99 := ((h.2 c1).2.2.2.2.2.2.2.2.2.2.2.2.2.2.2.2.2.2.2.2.2.1 c3).2.1
      refine ⟨k99, ?_⟩
      have k100 := ((h.2 c1).2.2.2.2.2.2.2.2.2.2.2.2.2.2.2.2.2.2.2.2.2.1 c3).2.2.1
      refine ⟨k100, ?_⟩
      refine gj_Do.mono ((h.2 c1).2.2.2.2.2.2.2.2.2.2.2.2.2.2.2.2.2.2.2.2.2.1 c3).2.2.2 (fun v_ SI82 SJ82 h_ => ?_)
      obtain ⟨r81, rfl, q101⟩ := h_
      show gj_Goes E om0 mt_295 824 [some (.ref 140), some (.ref 0), some (.ref 81), some (.int x3)] [(.int r81)] SI82 SJ82 (QI Q)
      refine gj_goq gj_clT ok_295 [18, 229, 258, 272, 281, 295, 304, 323, 337, 351, 360, 379, 393, 412, 426, 435, 439, 458, 472, 486, 495, 509, 518, 533, 542, 561, 575, 594, 608, 628, 642, 661, 675, 694, 708, 727, 741, 756, 765, 785, 799, 824, 843, 872, 896, 931, 960, 975, 984, 999, 1008, 1023, 1032, 1046, 1055, 1070, 1079, 1099, 1113, 1127, 1136, 1155, 1169, 1193, 1212, 1227, 1236, 1255, 1269, 1283, 1292, 1301, 1305, 1314, 1318, 1332, 1341] ?_
      show vp_in (x3 + (i3 1)) (gj_L E) ∧ (vp_in (x3 + (i3 2)) (gj_L E) ∧ (vp_in (x3 + (i3 3)) (gj_L E) ∧ (gj_Do E om0 (gj_mt 229) [(.ref 81), (.int (gj_stf E 12 (gj_n (x3 + (i3 1))))), (.int (gj_stf E 12 (gj_n (x3 + (i3 2))))), (.int (gj_stf E 12 (gj_n (x3 + (i3 3)))))] SI82 SJ82 _)))
      refine ⟨k98, ?_⟩
      refine ⟨k99, ?_⟩
      refine ⟨k100, ?_⟩
      refine gj_Do.mono q101 (fun v_ SI84 SJ84 h_ => ?_)
      obtain ⟨r83, rfl, q102⟩ := h_
      show gj_Goes E om0 mt_295 843 [some (.ref 140), some (.ref 0), some (.ref 81), some (.int x3)] [(.int r83), (.int r81)] SI84 SJ84 (QI Q)
      refine gj_goq gj_clT ok_295 [18, 229, 258, 272, 281, 295, 304, 323, 337, 351, 360, 379, 393, 412, 426, 435, 439, 458, 472, 486, 495, 509, 518, 533, 542, 561, 575, 594, 608, 628, 642, 661, 675, 694, 708, 727, 741, 756, 765, 785, 799, 824, 843, 872, 896, 931, 960, 975, 984, 999, 1008, 1023, 1032, 1046, 1055, 1070, 1079, 1099, 1113, 1127, 1136, 1155, 1169, 1193, 1212, 1227, 1236, 1255, 1269, 1283, 1292, 1301, 1305, 1314, 1318, 1332, 1341] ?_
      show (r81 = r83 → gj_Goes E om0 mt_295 1346 [some (.ref 140), some (.ref 0), some (.ref 81), some (.int x3)] [] SI84 SJ84 (QI Q)) ∧ (¬ r81 = r83 → ((i3 0) = 0 ∨ (i3 0) = 1) ∧ (QI Q (some (.int (i3 0))) SI84 SJ84))
      refine ⟨fun c103 => ?_, fun c103 => ?_⟩
      · refine gj_goq gj_clT ok_295 [18, 229, 258, 272, 281, 295, 304, 323, 337, 351, 360, 379, 393, 412, 426, 435, 439, 458, 472, 486, 495, 509, 518, 533, 542, 561, 575, 594, 608, 628, 642, 661, 675, 694, 708, 727, 741, 756, 765, 785, 799, 824, 843, 872, 896, 931, 960, 975, 984, 999, 1008, 1023, 1032, 1046, 1055, 1070, 1079, 1099, 1113, 1127, 1136, 1155, 1169, 1193, 1212, 1227, 1236, 1255, 1269, 1283, 1292, 1301, 1305, 1314, 1318, 1332, 1341] ?_
        show gj_Goes E om0 mt_295 18 [some (.ref 140), some (.ref 0), some (.ref 81), some (.int (x3 + (i3 6)))] [] SI84 SJ84 (QI Q)
        exact (q102.1 c103)
      · refine ⟨(Or.inl rfl), ?_⟩
        exact ⟨_, rfl, (q102.2 c103)⟩
    · refine gj_goq gj_clT ok_295 [18, 229, 258, 272, 281, 295, 304, 323, 337, 351, 360, 379, 393, 412, 426, 435, 439, 458, 472, 486, 495, 509, 518, 533, 542, 561, 575, 594, 608, 628, 642, 661, 675, 694, 708, 727, 741, 756, 765, 785, 799, 824, 843, 872, 896, 931, 960, 975, 984, 999, 1008, 1023, 1032, 1046, 1055, 1070, 1079, 1099, 1113, 1127, 1136, 1155, 1169, 1193, 1212, 1227, 1236, 1255, 1269, 1283, 1292, 1301, 1305, 1314, 1318, 1332, 1341] ?_
      show vp_in (x3 + (i3 1)) (gj_L E) ∧ (vp_in (x3 + (i3 2)) (gj_L E) ∧ (vp_in (x3 + (i3 3)) (gj_L E) ∧ (vp_in (x3 + (i3 4)) (gj_L E) ∧ (gj_Do E om0 (gj_mt 140) [(.ref 0), (.int (gj_stf E 12 (gj_n (x3 + (i3 1))))), (.int (gj_stf E 12 (gj_n (x3 + (i3 2))))), (.int (gj_stf E 12 (gj_n (x3 + (i3 3))))), (.int (gj_stf E 12 (gj_n (x3 + (i3 4)))))] SI SJ _))))
      have k104 := ((h.2 c1).2.2.2.2.2.2.2.2.2.2.2.2.2.2.2.2.2.2.2.2.2.2.1 c3).1
      refine ⟨k104, ?_⟩
      have k105 := ((h.2 c1).2.2.2.2.2.2.2.2.2.2.2.2.2.2.2.2.2.2.2.2.2.2.1 c3).2.1
      refine ⟨k105, ?_⟩
      have k106 := ((h.2 c1).2.2.2.2.2.2.2.2.2.2.2.2.2.2.2.2.2.2.2.2.2.2.1 c3).2.2.1
      refine ⟨k106, ?_⟩
      have k107 := ((h.2 c1).2.2.2.2.2.2.2.2.2.2.2.2.2.2.2.2.2.2.2.2.2.2.1 c3).2.2.2.1
      refine ⟨k107, ?_⟩
      refine gj_Do.mono ((h.2 c1).2.2.2.2.2.2.2.2.2.2.2.2.2.2.2.2.2.2.2.2.2.2.1 c3).2.2.2.2 (fun v_ SI86 SJ86 h_ => ?_)
      obtain ⟨r85, rfl, q108⟩ := h_
      show gj_Goes E om0 mt_295 872 [some (.ref 140), some (.ref 0), some (.ref 81), some (.int x3)] [(.long r85)] SI86 SJ86 (QI Q)
      refine gj_goq gj_clT ok_295 [18, 229, 258, 272, 281, 295, 304, 323, 337, 351, 360, 379, 393, 412, 426, 435, 439, 458, 472, 486, 495, 509, 518, 533, 542, 561, 575, 594, 608, 628, 642, 661, 675, 694, 708, 727, 741, 756, 765, 785, 799, 824, 843, 872, 896, 931, 960, 975, 984, 999, 1008, 1023, 1032, 1046, 1055, 1070, 1079, 1099, 1113, 1127, 1136, 1155, 1169, 1193, 1212, 1227, 1236, 1255, 1269, 1283, 1292, 1301, 1305, 1314, 1318, 1332, 1341] ?_
      show vp_in (x3 + (i3 1)) (gj_L E) ∧ (vp_in (x3 + (i3 2)) (gj_L E) ∧ (vp_in (x3 + (i3 3)) (gj_L E) ∧ (vp_in (x3 + (i3 4)) (gj_L E) ∧ (gj_Do E om0 (gj_mt 230) [(.ref 81), (.int (gj_stf E 12 (gj_n (x3 + (i3 1))))), (.int (gj_stf E 12 (gj_n (x3 + (i3 2))))), (.int (gj_stf E 12 (gj_n (x3 + (i3 3))))), (.int (gj_stf E 12 (gj_n (x3 + (i3 4)))))] SI86 SJ86 _))))
      refine ⟨k104, ?_⟩
      refine ⟨k105, ?_⟩
      refine ⟨k106, ?_⟩
      refine ⟨k107, ?_⟩
      refine gj_Do.mono q108 (fun v_ SI88 SJ88 h_ => ?_)
      obtain ⟨r87, rfl, q109⟩ := h_
      show gj_Goes E om0 mt_295 896 [some (.ref 140), some (.ref 0), some (.ref 81), some (.int x3)] [(.long r87), (.long r85)] SI88 SJ88 (QI Q)
      refine gj_goq gj_clT ok_295 [18, 229, 258, 272, 281, 295, 304, 323, 337, 351, 360, 379, 393, 412, 426, 435, 439, 458, 472, 486, 495, 509, 518, 533, 542, 561, 575, 594, 608, 628, 642, 661, 675, 694, 708, 727, 741, 756, 765, 785, 799, 824, 843, 872, 896, 931, 960, 975, 984, 999, 1008, 1023, 1032, 1046, 1055, 1070, 1079, 1099, 1113, 1127, 1136, 1155, 1169, 1193, 1212, 1227, 1236, 1255, 1269, 1283, 1292, 1301, 1305, 1314, 1318, 1332, 1341] ?_
      show ((lg_cmp r85 r87) = 0 → gj_Goes E om0 mt_295 1346 [some (.ref 140), some (.ref 0), some (.ref 81), some (.int x3)] [] SI88 SJ88 (QI Q)) ∧ (¬ (lg_cmp r85 r87) = 0 → ((i3 0) = 0 ∨ (i3 0) = 1) ∧ (QI Q (some (.int (i3 0))) SI88 SJ88))
      refine ⟨fun c110 => ?_, fun c110 => ?_⟩
      · refine gj_goq gj_clT ok_295 [18, 229, 258, 272, 281, 295, 304, 323, 337, 351, 360, 379, 393, 412, 426, 435, 439, 458, 472, 486, 495, 509, 518, 533, 542, 561, 575, 594, 608, 628, 642, 661, 675, 694, 708, 727, 741, 756, 765, 785, 799, 824, 843, 872, 896, 931, 960, 975, 984, 999, 1008, 1023, 1032, 1046, 1055, 1070, 1079, 1099, 1113, 1127, 1136, 1155, 1169, 1193, 1212, 1227, 1236, 1255, 1269, 1283, 1292, 1301, 1305, 1314, 1318, 1332, 1341] ?_
        show gj_Goes E om0 mt_295 18 [some (.ref 140), some (.ref 0), some (.ref 81), some (.int (x3 + (i3 6)))] [] SI88 SJ88 (QI Q)
        exact (q109.1 (lgc_eq.mp c110))
      · refine ⟨(Or.inl rfl), ?_⟩
        exact ⟨_, rfl, (q109.2 (fun z_ => c110 (lgc_eq.mpr z_)))⟩
    · refine gj_goq gj_clT ok_295 [18, 229, 258, 272, 281, 295, 304, 323, 337, 351, 360, 379, 393, 412, 426, 435, 439, 458, 472, 486, 495, 509, 518, 533, 542, 561, 575, 594, 608, 628, 642, 661, 675, 694, 708, 727, 741, 756, 765, 785, 799, 824, 843, 872, 896, 931, 960, 975, 984, 999, 1008, 1023, 1032, 1046, 1055, 1070, 1079, 1099, 1113, 1127, 1136, 1155, 1169, 1193, 1212, 1227, 1236, 1255, 1269, 1283, 1292, 1301, 1305, 1314, 1318, 1332, 1341] ?_
      show vp_in (x3 + (i3 1)) (gj_L E) ∧ (vp_in (x3 + (i3 2)) (gj_L E) ∧ (vp_in (x3 + (i3 3)) (gj_L E) ∧ (vp_in (x3 + (i3 4)) (gj_L E) ∧ (vp_in (x3 + (i3 5)) (gj_L E) ∧ (gj_Do E om0 (gj_mt 141) [(.ref 0), (.int (gj_stf E 12 (gj_n (x3 + (i3 1))))), (.int (gj_stf E 12 (gj_n (x3 + (i3 2))))), (.int (gj_stf E 12 (gj_n (x3 + (i3 3))))), (.int (gj_stf E 12 (gj_n (x3 + (i3 4))))), (.int (gj_stf E 12 (gj_n (x3 + (i3 5)))))] SI SJ _)))))
      have k111 := ((h.2 c1).2.2.2.2.2.2.2.2.2.2.2.2.2.2.2.2.2.2.2.2.2.2.2.1 c3).1
      refine ⟨k111, ?_⟩
      have k112 := ((h.2 c1).2.2.2.2.2.2.2.2.2.2.2.2.2.2.2.2.2.2.2.2.2.2.2.1 c3).2.1
      refine ⟨k112, ?_⟩
      have k113 := ((h.2 c1).2.2.2.2.2.2.2.2.2.2.2.2.2.2.2.2.2.2.2.2.2.2.2.1 c3).2.2.1
      refine ⟨k113, ?_⟩
      have k114 := ((h.2 c1).2.2.2.2.2.2.2.2.2.2.2.2.2.2.2.2.2.2.2.2.2.2.2.1 c3).2.2.2.1
      refine ⟨k114, ?_⟩
      have k115 := ((h.2 c1).2.2.2.2.2.2.2.2.2.2.2.2.2.2.2.2.2.2.2.2.2.2.2.1 c3).2.2.2.2.1
      refine ⟨k115, ?_⟩
      refine gj_Do.mono ((h.2 c1).2.2.2.2.2.2.2.2.2.2.2.2.2.2.2.2.2.2.2.2.2.2.2.1 c3).2.2.2.2.2 (fun v_ SI90 SJ90 h_ => ?_)
      obtain ⟨r89, rfl, q116⟩ := h_
      show gj_Goes E om0 mt_295 931 [some (.ref 140), some (.ref 0), some (.ref 81), some (.int x3)] [(.long r89)] SI90 SJ90 (QI Q)
      refine gj_goq gj_clT ok_295 [18, 229, 258, 272, 281, 295, 304, 323, 337, 351, 360, 379, 393, 412, 426, 435, 439, 458, 472, 486, 495, 509, 518, 533, 542, 561, 575, 594, 608, 628, 642, 661, 675, 694, 708, 727, 741, 756, 765, 785, 799, 824, 843, 872, 896, 931, 960, 975, 984, 999, 1008, 1023, 1032, 1046, 1055, 1070, 1079, 1099, 1113, 1127, 1136, 1155, 1169, 1193, 1212, 1227, 1236, 1255, 1269, 1283, 1292, 1301, 1305, 1314, 1318, 1332, 1341] ?_
      show vp_in (x3 + (i3 1)) (gj_L E) ∧ (vp_in (x3 + (i3 2)) (gj_L E) ∧ (vp_in (x3 + (i3 3)) (gj_L E) ∧ (vp_in (x3 + (i3 4)) (gj_L E) ∧ (vp_in (x3 + (i3 5)) (gj_L E) ∧ (gj_Do E om0 (gj_mt 231) [(.ref 81), (.int (gj_stf E 12 (gj_n (x3 + (i3 1))))), (.int (gj_stf E 12 (gj_n (x3 + (i3 2))))), (.int (gj_stf E 12 (gj_n (x3 + (i3 3))))), (.int (gj_stf E 12 (gj_n (x3 + (i3 4))))), (.int (gj_stf E 12 (gj_n (x3 + (i3 5)))))] SI90 SJ90 _)))))
      refine ⟨k111, ?_⟩
      refine ⟨k112, ?_⟩
      refine ⟨k113, ?_⟩
      refine ⟨k114, ?_⟩
      refine ⟨k115, ?_⟩
      refine gj_Do.mono q116 (fun v_ SI92 SJ92 h_ => ?_)
      obtain ⟨r91, rfl, q117⟩ := h_
      show gj_Goes E om0 mt_295 960 [some (.ref 140), some (.ref 0), some (.ref 81), some (.int x3)] [(.long r91), (.long r89)] SI92 SJ92 (QI Q)
      refine gj_goq gj_clT ok_295 [18, 229, 258, 272, 281, 295, 304, 323, 337, 351, 360, 379, 393, 412, 426, 435, 439, 458, 472, 486, 495, 509, 518, 533, 542, 561, 575, 594, 608, 628, 642, 661, 675, 694, 708, 727, 741, 756, 765, 785, 799, 824, 843, 872, 896, 931, 960, 975, 984, 999, 1008, 1023, 1032, 1046, 1055, 1070, 1079, 1099, 1113, 1127, 1136, 1155, 1169, 1193, 1212, 1227, 1236, 1255, 1269, 1283, 1292, 1301, 1305, 1314, 1318, 1332, 1341] ?_
      show ((lg_cmp r89 r91) = 0 → gj_Goes E om0 mt_295 1346 [some (.ref 140), some (.ref 0), some (.ref 81), some (.int x3)] [] SI92 SJ92 (QI Q)) ∧ (¬ (lg_cmp r89 r91) = 0 → ((i3 0) = 0 ∨ (i3 0) = 1) ∧ (QI Q (some (.int (i3 0))) SI92 SJ92))
      refine ⟨fun c118 => ?_, fun c118 => ?_⟩
      · refine gj_goq gj_clT ok_295 [18, 229, 258, 272, 281, 295, 304, 323, 337, 351, 360, 379, 393, 412, 426, 435, 439, 458, 472, 486, 495, 509, 518, 533, 542, 561, 575, 594, 608, 628, 642, 661, 675, 694, 708, 727, 741, 756, 765, 785, 799, 824, 843, 872, 896, 931, 960, 975, 984, 999, 1008, 1023, 1032, 1046, 1055, 1070, 1079, 1099, 1113, 1127, 1136, 1155, 1169, 1193, 1212, 1227, 1236, 1255, 1269, 1283, 1292, 1301, 1305, 1314, 1318, 1332, 1341] ?_
        show gj_Goes E om0 mt_295 18 [some (.ref 140), some (.ref 0), some (.ref 81), some (.int (x3 + (i3 6)))] [] SI92 SJ92 (QI Q)
        exact (q117.1 (lgc_eq.mp c118))
      · refine ⟨(Or.inl rfl), ?_⟩
        exact ⟨_, rfl, (q117.2 (fun z_ => c118 (lgc_eq.mpr z_)))⟩
    · refine gj_goq gj_clT ok_295 [18, 229, 258, 272, 281, 295, 304, 323, 337, 351, 360, 379, 393, 412, 426, 435, 439, 458, 472, 486, 495, 509, 518, 533, 542, 561, 575, 594, 608, 628, 642, 661, 675, 694, 708, 727, 741, 756, 765, 785, 799, 824, 843, 872, 896, 931, 960, 975, 984, 999, 1008, 1023, 1032, 1046, 1055, 1070, 1079, 1099, 1113, 1127, 1136, 1155, 1169, 1193, 1212, 1227, 1236, 1255, 1269, 1283, 1292, 1301, 1305, 1314, 1318, 1332, 1341] ?_
      show vp_in (x3 + (i3 1)) (gj_L E) ∧ (gj_Do E om0 (gj_mt 137) [(.ref 0), (.int (gj_stf E 12 (gj_n (x3 + (i3 1)))))] SI SJ _)
      have k119 := ((h.2 c1).2.2.2.2.2.2.2.2.2.2.2.2.2.2.2.2.2.2.2.2.2.2.2.2.1 c3).1
      refine ⟨k119, ?_⟩
      refine gj_Do.mono ((h.2 c1).2.2.2.2.2.2.2.2.2.2.2.2.2.2.2.2.2.2.2.2.2.2.2.2.1 c3).2 (fun v_ SI94 SJ94 h_ => ?_)
      obtain ⟨r93, rfl, q120⟩ := h_
      show gj_Goes E om0 mt_295 975 [some (.ref 140), some (.ref 0), some (.ref 81), some (.int x3)] [(.long r93)] SI94 SJ94 (QI Q)
      refine gj_goq gj_clT ok_295 [18, 229, 258, 272, 281, 295, 304, 323, 337, 351, 360, 379, 393, 412, 426, 435, 439, 458, 472, 486, 495, 509, 518, 533, 542, 561, 575, 594, 608, 628, 642, 661, 675, 694, 708, 727, 741, 756, 765, 785, 799, 824, 843, 872, 896, 931, 960, 975, 984, 999, 1008, 1023, 1032, 1046, 1055, 1070, 1079, 1099, 1113, 1127, 1136, 1155, 1169, 1193, 1212, 1227, 1236, 1255, 1269, 1283, 1292, 1301, 1305, 1314, 1318, 1332, 1341] ?_
      show vp_in (x3 + (i3 1)) (gj_L E) ∧ (gj_Do E om0 (gj_mt 254) [(.ref 81), (.int (gj_stf E 12 (gj_n (x3 + (i3 1)))))] SI94 SJ94 _)
      refine ⟨k119, ?_⟩
      refine gj_Do.mono q120 (fun v_ SI96 SJ96 h_ => ?_)
      obtain ⟨r95, rfl, q121⟩ := h_
      show gj_Goes E om0 mt_295 984 [some (.ref 140), some (.ref 0), some (.ref 81), some (.int x3)] [(.long r95), (.long r93)] SI96 SJ96 (QI Q)
      refine gj_goq gj_clT ok_295 [18, 229, 258, 272, 281, 295, 304, 323, 337, 351, 360, 379, 393, 412, 426, 435, 439, 458, 472, 486, 495, 509, 518, 533, 542, 561, 575, 594, 608, 628, 642, 661, 675, 694, 708, 727, 741, 756, 765, 785, 799, 824, 843, 872, 896, 931, 960, 975, 984, 999, 1008, 1023, 1032, 1046, 1055, 1070, 1079, 1099, 1113, 1127, 1136, 1155, 1169, 1193, 1212, 1227, 1236, 1255, 1269, 1283, 1292, 1301, 1305, 1314, 1318, 1332, 1341] ?_
      show ((lg_cmp r93 r95) = 0 → gj_Goes E om0 mt_295 1346 [some (.ref 140), some (.ref 0), some (.ref 81), some (.int x3)] [] SI96 SJ96 (QI Q)) ∧ (¬ (lg_cmp r93 r95) = 0 → ((i3 0) = 0 ∨ (i3 0) = 1) ∧ (QI Q (some (.int (i3 0))) SI96 SJ96))
      refine ⟨fun c122 => ?_, fun c122 => ?_⟩
      · refine gj_goq gj_clT ok_295 [18, 229, 258, 272, 281, 295, 304, 323, 337, 351, 360, 379, 393, 412, 426, 435, 439, 458, 472, 486, 495, 509, 518, 533, 542, 561, 575, 594, 608, 628, 642, 661, 675, 694, 708, 727, 741, 756, 765, 785, 799, 824, 843, 872, 896, 931, 960, 975, 984, 999, 1008, 1023, 1032, 1046, 1055, 1070, 1079, 1099, 1113, 1127, 1136, 1155, 1169, 1193, 1212, 1227, 1236, 1255, 1269, 1283, 1292, 1301, 1305, 1314, 1318, 1332, 1341] ?_
        show gj_Goes E om0 mt_295 18 [some (.ref 140), some (.ref 0), some (.ref 81), some (.int (x3 + (i3 6)))] [] SI96 SJ96 (QI Q)
        exact (q121.1 (lgc_eq.mp c122))
      · refine ⟨(Or.inl rfl), ?_⟩
        exact ⟨_, rfl, (q121.2 (fun z_ => c122 (lgc_eq.mpr z_)))⟩
    · refine gj_goq gj_clT ok_295 [18, 229, 258, 272, 281, 295, 304, 323, 337, 351, 360, 379, 393, 412, 426, 435, 439, 458, 472, 486, 495, 509, 518, 533, 542, 561, 575, 594, 608, 628, 642, 661, 675, 694, 708, 727, 741, 756, 765, 785, 799, 824, 843, 872, 896, 931, 960, 975, 984, 999, 1008, 1023, 1032, 1046, 1055, 1070, 1079, 1099, 1113, 1127, 1136, 1155, 1169, 1193, 1212, 1227, 1236, 1255, 1269, 1283, 1292, 1301, 1305, 1314, 1318, 1332, 1341] ?_
      show vp_in (x3 + (i3 1)) (gj_L E) ∧ (gj_Do E om0 (gj_mt 138) [(.ref 0), (.int (gj_stf E 12 (gj_n (x3 + (i3 1)))))] SI SJ _)
      have k123 := ((h.2 c1).2.2.2.2.2.2.2.2.2.2.2.2.2.2.2.2.2.2.2.2.2.2.2.2.2.1 c3).1
      refine ⟨k123, ?_⟩
      refine gj_Do.mono ((h.2 c1).2.2.2.2.2.2.2.2.2.2.2.2.2.2.2.2.2.2.2.2.2.2.2.2.2.1 c3).2 (fun v_ SI98 SJ98 h_ => ?_)
      obtain ⟨r97, rfl, q124⟩ := h_
      show gj_Goes E om0 mt_295 999 [some (.ref 140), some (.ref 0), some (.ref 81), some (.int x3)] [(.long r97)] SI98 SJ98 (QI Q)
      refine gj_goq gj_clT ok_295 [18, 229, 258, 272, 281, 295, 304, 323, 337, 351, 360, 379, 393, 412, 426, 435, 439, 458, 472, 486, 495, 509, 518, 533, 542, 561, 575, 594, 608, 628, 642, 661, 675, 694, 708, 727, 741, 756, 765, 785, 799, 824, 843, 872, 896, 931, 960, 975, 984, 999, 1008, 1023, 1032, 1046, 1055, 1070, 1079, 1099, 1113, 1127, 1136, 1155, 1169, 1193, 1212, 1227, 1236, 1255, 1269, 1283, 1292, 1301, 1305, 1314, 1318, 1332, 1341] ?_
      show vp_in (x3 + (i3 1)) (gj_L E) ∧ (gj_Do E om0 (gj_mt 258) [(.ref 81), (.int (gj_stf E 12 (gj_n (x3 + (i3 1)))))] SI98 SJ98 _)
      refine ⟨k123, ?_⟩
      refine gj_Do.mono q124 (fun v_ SI100 SJ100 h_ => ?_)
      obtain ⟨r99, rfl, q125⟩ := h_
      show gj_Goes E om0 mt_295 1008 [some (.ref 140), some (.ref 0), some (.ref 81), some (.int x3)] [(.long r99), (.long r97)] SI100 SJ100 (QI Q)
      refine gj_goq gj_clT ok_295 [18, 229, 258, 272, 281, 295, 304, 323, 337, 351, 360, 379, 393, 412, 426, 435, 439, 458, 472, 486, 495, 509, 518, 533, 542, 561, 575, 594, 608, 628, 642, 661, 675, 694, 708, 727, 741, 756, 765, 785, 799, 824, 843, 872, 896, 931, 960, 975, 984, 999, 1008, 1023, 1032, 1046, 1055, 1070, 1079, 1099, 1113, 1127, 1136, 1155, 1169, 1193, 1212, 1227, 1236, 1255, 1269, 1283, 1292, 1301, 1305, 1314, 1318, 1332, 1341] ?_
      show ((lg_cmp r97 r99) = 0 → gj_Goes E om0 mt_295 1346 [some (.ref 140), some (.ref 0), some (.ref 81), some (.int x3)] [] SI100 SJ100 (QI Q)) ∧ (¬ (lg_cmp r97 r99) = 0 → ((i3 0) = 0 ∨ (i3 0) = 1) ∧ (QI Q (some (.int (i3 0))) SI100 SJ100))
      refine ⟨fun c126 => ?_, fun c126 => ?_⟩
      · refine gj_goq gj_clT ok_295 [18, 229, 258, 272, 281, 295, 304, 323, 337, 351, 360, 379, 393, 412, 426, 435, 439, 458, 472, 486, 495, 509, 518, 533, 542, 561, 575, 594, 608, 628, 642, 661, 675, 694, 708, 727, 741, 756, 765, 785, 799, 824, 843, 872, 896, 931, 960, 975, 984, 999, 1008, 1023, 1032, 1046, 1055, 1070, 1079, 1099, 1113, 1127, 1136, 1155, 1169, 1193, 1212, 1227, 1236, 1255, 1269, 1283, 1292, 1301, 1305, 1314, 1318, 1332, 1341] ?_
        show gj_Goes E om0 mt_295 18 [some (.ref 140), some (.ref 0), some (.ref 81), some (.int (x3 + (i3 6)))] [] SI100 SJ100 (QI Q)
        exact (q125.1 (lgc_eq.mp c126))
      · refine ⟨(Or.inl rfl), ?_⟩
        exact ⟨_, rfl, (q125.2 (fun z_ => c126 (lgc_eq.mpr z_)))⟩
    · refine gj_goq gj_clT ok_295 [18, 229, 258, 272, 281, 295, 304, 323, 337, 351, 360, 379, 393, 412, 426, 435, 439, 458, 472, 486, 495, 509, 518, 533, 542, 561, 575, 594, 608, 628, 642, 661, 675, 694, 708, 727, 741, 756, 765, 785, 799, 824, 843, 872, 896, 931, 960, 975, 984, 999, 1008, 1023, 1032, 1046, 1055, 1070, 1079, 1099, 1113, 1127, 1136, 1155, 1169, 1193, 1212, 1227, 1236, 1255, 1269, 1283, 1292, 1301, 1305, 1314, 1318, 1332, 1341] ?_
      show vp_in (x3 + (i3 1)) (gj_L E) ∧ (gj_Do E om0 (gj_mt 130) [(.ref 0), (.int (gj_stf E 12 (gj_n (x3 + (i3 1)))))] SI SJ _)
      have k127 := ((h.2 c1).2.2.2.2.2.2.2.2.2.2.2.2.2.2.2.2.2.2.2.2.2.2.2.2.2.2.1 c3).1
      refine ⟨k127, ?_⟩
      refine gj_Do.mono ((h.2 c1).2.2.2.2.2.2.2.2.2.2.2.2.2.2.2.2.2.2.2.2.2.2.2.2.2.2.1 c3).2 (fun v_ SI102 SJ102 h_ => ?_)
      obtain ⟨r101, rfl, q128⟩ := h_
      show gj_Goes E om0 mt_295 1023 [some (.ref 140), some (.ref 0), some (.ref 81), some (.int x3)] [(.int r101)] SI102 SJ102 (QI Q)
      refine gj_goq gj_clT ok_295 [18, 229, 258, 272, 281, 295, 304, 323, 337, 351, 360, 379, 393, 412, 426, 435, 439, 458, 472, 486, 495, 509, 518, 533, 542, 561, 575, 594, 608, 628, 642, 661, 675, 694, 708, 727, 741, 756, 765, 785, 799, 824, 843, 872, 896, 931, 960, 975, 984, 999, 1008, 1023, 1032, 1046, 1055, 1070, 1079, 1099, 1113, 1127, 1136, 1155, 1169, 1193, 1212, 1227, 1236, 1255, 1269, 1283, 1292, 1301, 1305, 1314, 1318, 1332, 1341] ?_
      show vp_in (x3 + (i3 1)) (gj_L E) ∧ (gj_Do E om0 (gj_mt 262) [(.ref 81), (.int (gj_stf E 12 (gj_n (x3 + (i3 1)))))] SI102 SJ102 _)
      refine ⟨k127, ?_⟩
      refine gj_Do.mono q128 (fun v_ SI104 SJ104 h_ => ?_)
      obtain ⟨r103, rfl, q129⟩ := h_
      show gj_Goes E om0 mt_295 1032 [some (.ref 140), some (.ref 0), some (.ref 81), some (.int x3)] [(.int r103), (.int r101)] SI104 SJ104 (QI Q)
      refine gj_goq gj_clT ok_295 [18, 229, 258, 272, 281, 295, 304, 323, 337, 351, 360, 379, 393, 412, 426, 435, 439, 458, 472, 486, 495, 509, 518, 533, 542, 561, 575, 594, 608, 628, 642, 661, 675, 694, 708, 727, 741, 756, 765, 785, 799, 824, 843, 872, 896, 931, 960, 975, 984, 999, 1008, 1023, 1032, 1046, 1055, 1070, 1079, 1099, 1113, 1127, 1136, 1155, 1169, 1193, 1212, 1227, 1236, 1255, 1269, 1283, 1292, 1301, 1305, 1314, 1318, 1332, 1341] ?_
      show (r101 = r103 → gj_Goes E om0 mt_295 1346 [some (.ref 140), some (.ref 0), some (.ref 81), some (.int x3)] [] SI104 SJ104 (QI Q)) ∧ (¬ r101 = r103 → ((i3 0) = 0 ∨ (i3 0) = 1) ∧ (QI Q (some (.int (i3 0))) SI104 SJ104))
      refine ⟨fun c130 => ?_, fun c130 => ?_⟩
      · refine gj_goq gj_clT ok_295 [18, 229, 258, 272, 281, 295, 304, 323, 337, 351, 360, 379, 393, 412, 426, 435, 439, 458, 472, 486, 495, 509, 518, 533, 542, 561, 575, 594, 608, 628, 642, 661, 675, 694, 708, 727, 741, 756, 765, 785, 799, 824, 843, 872, 896, 931, 960, 975, 984, 999, 1008, 1023, 1032, 1046, 1055, 1070, 1079, 1099, 1113, 1127, 1136, 1155, 1169, 1193, 1212, 1227, 1236, 1255, 1269, 1283, 1292, 1301, 1305, 1314, 1318, 1332, 1341] ?_
        show gj_Goes E om0 mt_295 18 [some (.ref 140), some (.ref 0), some (.ref 81), some (.int (x3 + (i3 6)))] [] SI104 SJ104 (QI Q)
        exact (q129.1 c130)
      · refine ⟨(Or.inl rfl), ?_⟩
        exact ⟨_, rfl, (q129.2 c130)⟩
    · refine gj_goq gj_clT ok_295 [18, 229, 258, 272, 281, 295, 304, 323, 337, 351, 360, 379, 393, 412, 426, 435, 439, 458, 472, 486, 495, 509, 518, 533, 542, 561, 575, 594, 608, 628, 642, 661, 675, 694, 708, 727, 741, 756, 765, 785, 799, 824, 843, 872, 896, 931, 960, 975, 984, 999, 1008, 1023, 1032, 1046, 1055, 1070, 1079, 1099, 1113, 1127, 1136, 1155, 1169, 1193, 1212, 1227, 1236, 1255, 1269, 1283, 1292, 1301, 1305, 1314, 1318, 1332, 1341] ?_
      show vp_in (x3 + (i3 1)) (gj_L E) ∧ (gj_Do E om0 (gj_mt 133) [(.ref 0), (.int (gj_stf E 12 (gj_n (x3 + (i3 1)))))] SI SJ _)
      have k131 := ((h.2 c1).2.2.2.2.2.2.2.2.2.2.2.2.2.2.2.2.2.2.2.2.2.2.2.2.2.2.2.1 c3).1
      refine ⟨k131, ?_⟩
      refine gj_Do.mono ((h.2 c1).2.2.2.2.2.2.2.2.2.2.2.2.2.2.2.2.2.2.2.2.2.2.2.2.2.2.2.1 c3).2 (fun v_ SI106 SJ106 h_ => ?_)
      obtain ⟨r105, rfl, q132⟩ := h_
      show gj_Goes E om0 mt_295 1046 [some (.ref 140), some (.ref 0), some (.ref 81), some (.int x3)] [(.long r105)] SI106 SJ106 (QI Q)
      refine gj_goq gj_clT ok_295 [18, 229, 258, 272, 281, 295, 304, 323, 337, 351, 360, 379, 393, 412, 426, 435, 439, 458, 472, 486, 495, 509, 518, 533, 542, 561, 575, 594, 608, 628, 642, 661, 675, 694, 708, 727, 741, 756, 765, 785, 799, 824, 843, 872, 896, 931, 960, 975, 984, 999, 1008, 1023, 1032, 1046, 1055, 1070, 1079, 1099, 1113, 1127, 1136, 1155, 1169, 1193, 1212, 1227, 1236, 1255, 1269, 1283, 1292, 1301, 1305, 1314, 1318, 1332, 1341] ?_
      show vp_in (x3 + (i3 1)) (gj_L E) ∧ (gj_Do E om0 (gj_mt 263) [(.ref 81), (.int (gj_stf E 12 (gj_n (x3 + (i3 1)))))] SI106 SJ106 _)
      refine ⟨k131, ?_⟩
      refine gj_Do.mono q132 (fun v_ SI108 SJ108 h_ => ?_)
      obtain ⟨r107, rfl, q133⟩ := h_
      show gj_Goes E om0 mt_295 1055 [some (.ref 140), some (.ref 0), some (.ref 81), some (.int x3)] [(.long r107), (.long r105)] SI108 SJ108 (QI Q)
      refine gj_goq gj_clT ok_295 [18, 229, 258, 272, 281, 295, 304, 323, 337, 351, 360, 379, 393, 412, 426, 435, 439, 458, 472, 486, 495, 509, 518, 533, 542, 561, 575, 594, 608, 628, 642, 661, 675, 694, 708, 727, 741, 756, 765, 785, 799, 824, 843, 872, 896, 931, 960, 975, 984, 999, 1008, 1023, 1032, 1046, 1055, 1070, 1079, 1099, 1113, 1127, 1136, 1155, 1169, 1193, 1212, 1227, 1236, 1255, 1269, 1283, 1292, 1301, 1305, 1314, 1318, 1332, 1341] ?_
      show ((lg_cmp r105 r107) = 0 → gj_Goes E om0 mt_295 1346 [some (.ref 140), some (.ref 0), some (.ref 81), some (.int x3)] [] SI108 SJ108 (QI Q)) ∧ (¬ (lg_cmp r105 r107) = 0 → ((i3 0) = 0 ∨ (i3 0) = 1) ∧ (QI Q (some (.int (i3 0))) SI108 SJ108))
      refine ⟨fun c134 => ?_, fun c134 => ?_⟩
      · refine gj_goq gj_clT ok_295 [18, 229, 258, 272, 281, 295, 304, 323, 337, 351, 360, 379, 393, 412, 426, 435, 439, 458, 472, 486, 495, 509, 518, 533, 542, 561, 575, 594, 608, 628, 642, 661, 675, 694, 708, 727, 741, 756, 765, 785, 799, 824, 843, 872, 896, 931, 960, 975, 984, 999, 1008, 1023, 1032, 1046, 1055, 1070, 1079, 1099, 1113, 1127, 1136, 1155, 1169, 1193, 1212, 1227, 1236, 1255, 1269, 1283, 1292, 1301, 1305, 1314, 1318, 1332, 1341] ?_
        show gj_Goes E om0 mt_295 18 [some (.ref 140), some (.ref 0), some (.ref 81), some (.int (x3 + (i3 6)))] [] SI108 SJ108 (QI Q)
        exact (q133.1 (lgc_eq.mp c134))
      · refine ⟨(Or.inl rfl), ?_⟩
        exact ⟨_, rfl, (q133.2 (fun z_ => c134 (lgc_eq.mpr z_)))⟩
    · refine gj_goq gj_clT ok_295 [18, 229, 258, 272, 281, 295, 304, 323, 337, 351, 360, 379, 393, 412, 426, 435, 439, 458, 472, 486, 495, 509, 518, 533, 542, 561, 575, 594, 608, 628, 642, 661, 675, 694, 708, 727, 741, 756, 765, 785, 799, 824, 843, 872, 896, 931, 960, 975, 984, 999, 1008, 1023, 1032, 1046, 1055, 1070, 1079, 1099, 1113, 1127, 1136, 1155, 1169, 1193, 1212, 1227, 1236, 1255, 1269, 1283, 1292, 1301, 1305, 1314, 1318, 1332, 1341] ?_
      show vp_in (x3 + (i3 1)) (gj_L E) ∧ (gj_Do E om0 (gj_mt 134) [(.ref 0), (.int (gj_stf E 12 (gj_n (x3 + (i3 1)))))] SI SJ _)
      have k135 := ((h.2 c1).2.2.2.2.2.2.2.2.2.2.2.2.2.2.2.2.2.2.2.2.2.2.2.2.2.2.2.2.1 c3).1
      refine ⟨k135, ?_⟩
      refine gj_Do.mono ((h.2 c1).2.2.2.2.2.2.2.2.2.2.2.2.2.2.2.2.2.2.2.2.2.2.2.2.2.2.2.2.1 c3).2 (fun v_ SI110 SJ110 h_ => ?_)
      obtain ⟨r109, rfl, q136⟩ := h_
      show gj_Goes E om0 mt_295 1070 [some (.ref 140), some (.ref 0), some (.ref 81), some (.int x3)] [(.long r109)] SI110 SJ110 (QI Q)
      refine gj_goq gj_clT ok_295 [18, 229, 258, 272, 281, 295, 304, 323, 337, 351, 360, 379, 393, 412, 426, 435, 439, 458, 472, 486, 495, 509, 518, 533, 542, 561, 575, 594, 608, 628, 642, 661, 675, 694, 708, 727, 741, 756, 765, 785, 799, 824, 843, 872, 896, 931, 960, 975, 984, 999, 1008, 1023, 1032, 1046, 1055, 1070, 1079, 1099, 1113, 1127, 1136, 1155, 1169, 1193, 1212, 1227, 1236, 1255, 1269, 1283, 1292, 1301, 1305, 1314, 1318, 1332, 1341] ?_
      show vp_in (x3 + (i3 1)) (gj_L E) ∧ (gj_Do E om0 (gj_mt 264) [(.ref 81), (.int (gj_stf E 12 (gj_n (x3 + (i3 1)))))] SI110 SJ110 _)
      refine ⟨k135, ?_⟩
      refine gj_Do.mono q136 (fun v_ SI112 SJ112 h_ => ?_)
      obtain ⟨r111, rfl, q137⟩ := h_
      show gj_Goes E om0 mt_295 1079 [some (.ref 140), some (.ref 0), some (.ref 81), some (.int x3)] [(.long r111), (.long r109)] SI112 SJ112 (QI Q)
      refine gj_goq gj_clT ok_295 [18, 229, 258, 272, 281, 295, 304, 323, 337, 351, 360, 379, 393, 412, 426, 435, 439, 458, 472, 486, 495, 509, 518, 533, 542, 561, 575, 594, 608, 628, 642, 661, 675, 694, 708, 727, 741, 756, 765, 785, 799, 824, 843, 872, 896, 931, 960, 975, 984, 999, 1008, 1023, 1032, 1046, 1055, 1070, 1079, 1099, 1113, 1127, 1136, 1155, 1169, 1193, 1212, 1227, 1236, 1255, 1269, 1283, 1292, 1301, 1305, 1314, 1318, 1332, 1341] ?_
      show ((lg_cmp r109 r111) = 0 → gj_Goes E om0 mt_295 1346 [some (.ref 140), some (.ref 0), some (.ref 81), some (.int x3)] [] SI112 SJ112 (QI Q)) ∧ (¬ (lg_cmp r109 r111) = 0 → ((i3 0) = 0 ∨ (i3 0) = 1) ∧ (QI Q (some (.int (i3 0))) SI112 SJ112))
      refine ⟨fun c138 => ?_, fun c138 => ?_⟩
      · refine gj_goq gj_clT ok_295 [18, 229, 258, 272, 281, 295, 304, 323, 337, 351, 360, 379, 393, 412, 426, 435, 439, 458, 472, 486, 495, 509, 518, 533, 542, 561, 575, 594, 608, 628, 642, 661, 675, 694, 708, 727, 741, 756, 765, 785, 799, 824, 843, 872, 896, 931, 960, 975, 984, 999, 1008, 1023, 1032, 1046, 1055, 1070, 1079, 1099, 1113, 1127, 1136, 1155, 1169, 1193, 1212, 1227, 1236, 1255, 1269, 1283, 1292, 1301, 1305, 1314, 1318, 1332, 1341] ?_
        show gj_Goes E om0 mt_295 18 [some (.ref 140), some (.ref 0), some (.ref 81), some (.int (x3 + (i3 6)))] [] SI112 SJ112 (QI Q)
        exact (q137.1 (lgc_eq.mp c138))
      · refine ⟨(Or.inl rfl), ?_⟩
        exact ⟨_, rfl, (q137.2 (fun z_ => c138 (lgc_eq.mpr z_)))⟩
    · refine gj_goq gj_clT ok_295 [18, 229, 258, 272, 281, 295, 304, 323, 337, 351, 360, 379, 393, 412, 426, 435, 439, 458, 472, 486, 495, 509, 518, 533, 542, 561, 575, 594, 608, 628, 642, 661, 675, 694, 708, 727, 741, 756, 765, 785, 799, 824, 843, 872, 896, 931, 960, 975, 984, 999, 1008, 1023, 1032, 1046, 1055, 1070, 1079, 1099, 1113, 1127, 1136, 1155, 1169, 1193, 1212, 1227, 1236, 1255, 1269, 1283, 1292, 1301, 1305, 1314, 1318, 1332, 1341] ?_
      show vp_in (x3 + (i3 1)) (gj_L E) ∧ (vp_in (x3 + (i3 2)) (gj_L E) ∧ (gj_Do E om0 (gj_mt 131) [(.ref 0), (.int (gj_stf E 12 (gj_n (x3 + (i3 1))))), (.int (gj_stf E 12 (gj_n (x3 + (i3 2)))))] SI SJ _))
      have k139 := ((h.2 c1).2.2.2.2.2.2.2.2.2.2.2.2.2.2.2.2.2.2.2.2.2.2.2.2.2.2.2.2.2.1 c3).1
      refine ⟨k139, ?_⟩
      have k140 := ((h.2 c1).2.2.2.2.2.2.2.2.2.2.2.2.2.2.2.2.2.2.2.2.2.2.2.2.2.2.2.2.2.1 c3).2.1
      refine ⟨k140, ?_⟩
      refine gj_Do.mono ((h.2 c1).2.2.2.2.2.2.2.2.2.2.2.2.2.2.2.2.2.2.2.2.2.2.2.2.2.2.2.2.2.1 c3).2.2 (fun v_ SI114 SJ114 h_ => ?_)
      obtain ⟨r113, rfl, q141⟩ := h_
      show gj_Goes E om0 mt_295 1099 [some (.ref 140), some (.ref 0), some (.ref 81), some (.int x3)] [(.int r113)] SI114 SJ114 (QI Q)
      refine gj_goq gj_clT ok_295 [18, 229, 258, 272, 281, 295, 304, 323, 337, 351, 360, 379, 393, 412, 426, 435, 439, 458, 472, 486, 495, 509, 518, 533, 542, 561, 575, 594, 608, 628, 642, 661, 675, 694, 708, 727, 741, 756, 765, 785, 799, 824, 843, 872, 896, 931, 960, 975, 984, 999, 1008, 1023, 1032, 1046, 1055, 1070, 1079, 1099, 1113, 1127, 1136, 1155, 1169, 1193, 1212, 1227, 1236, 1255, 1269, 1283, 1292, 1301, 1305, 1314, 1318, 1332, 1341] ?_
      show vp_in (x3 + (i3 1)) (gj_L E) ∧ (vp_in (x3 + (i3 2)) (gj_L E) ∧ (gj_Do E om0 (gj_mt 266) [(.ref 81), (.int (gj_stf E 12 (gj_n (x3 + (i3 1))))), (.int (gj_stf E 12 (gj_n (x3 + (i3 2)))))] SI114 SJ114 _))
      refine ⟨k139, ?_⟩
      refine ⟨k140, ?_⟩
      refine gj_Do.mono q141 (fun v_ SI116 SJ116 h_ => ?_)
      obtain ⟨r115, rfl, q142⟩ := h_
      show gj_Goes E om0 mt_295 1113 [some (.ref 140), some (.ref 0), some (.ref 81), some (.int x3)] [(.int r115), (.int r113)] SI116 SJ116 (QI Q)
      refine gj_goq gj_clT ok_295 [18, 229, 258, 272, 281, 295, 304, 323, 337, 351, 360, 379, 393, 412, 426, 435, 439, 458, 472, 486, 495, 509, 518, 533, 542, 561, 575, 594, 608, 628, 642, 661, 675, 694, 708, 727, 741, 756, 765, 785, 799, 824, 843, 872, 896, 931, 960, 975, 984, 999, 1008, 1023, 1032, 1046, 1055, 1070, 1079, 1099, 1113, 1127, 1136, 1155, 1169, 1193, 1212, 1227, 1236, 1255, 1269, 1283, 1292, 1301, 1305, 1314, 1318, 1332, 1341] ?_
      show (r113 = r115 → gj_Goes E om0 mt_295 1346 [some (.ref 140), some (.ref 0), some (.ref 81), some (.int x3)] [] SI116 SJ116 (QI Q)) ∧ (¬ r113 = r115 → ((i3 0) = 0 ∨ (i3 0) = 1) ∧ (QI Q (some (.int (i3 0))) SI116 SJ116))
      refine ⟨fun c143 => ?_, fun c143 => ?_⟩
      · refine gj_goq gj_clT ok_295 [18, 229, 258, 272, 281, 295, 304, 323, 337, 351, 360, 379, 393, 412, 426, 435, 439, 458, 472, 486, 495, 509, 518, 533, 542, 561, 575, 594, 608, 628, 642, 661, 675, 694, 708, 727, 741, 756, 765, 785, 799, 824, 843, 872, 896, 931, 960, 975, 984, 999, 1008, 1023, 1032, 1046, 1055, 1070, 1079, 1099, 1113, 1127, 1136, 1155, 1169, 1193, 1212, 1227, 1236, 1255, 1269, 1283, 1292, 1301, 1305, 1314, 1318, 1332, 1341] ?_
        show gj_Goes E om0 mt_295 18 [some (.ref 140), some (.ref 0), some (.ref 81), some (.int (x3 + (i3 6)))] [] SI116 SJ116 (QI Q)
        exact (q142.1 c143)
      · refine ⟨(Or.inl rfl), ?_⟩
        exact ⟨_, rfl, (q142.2 c143)⟩
    · refine gj_goq gj_clT ok_295 [18, 229, 258, 272, 281, 295, 304, 323, 337, 351, 360, 379, 393, 412, 426, 435, 439, 458, 472, 486, 495, 509, 518, 533, 542, 561, 575, 594, 608, 628, 642, 661, 675, 694, 708, 727, 741, 756, 765, 785, 799, 824, 843, 872, 896, 931, 960, 975, 984, 999, 1008, 1023, 1032, 1046, 1055, 1070, 1079, 1099, 1113, 1127, 1136, 1155, 1169, 1193, 1212, 1227, 1236, 1255, 1269, 1283, 1292, 1301, 1305, 1314, 1318, 1332, 1341] ?_
      show vp_in (x3 + (i3 1)) (gj_L E) ∧ (gj_Do E om0 (gj_mt 132) [(.ref 0), (.int (gj_stf E 12 (gj_n (x3 + (i3 1)))))] SI SJ _)
      have k144 := ((h.2 c1).2.2.2.2.2.2.2.2.2.2.2.2.2.2.2.2.2.2.2.2.2.2.2.2.2.2.2.2.2.2.1 c3).1
      refine ⟨k144, ?_⟩
      refine gj_Do.mono ((h.2 c1).2.2.2.2.2.2.2.2.2.2.2.2.2.2.2.2.2.2.2.2.2.2.2.2.2.2.2.2.2.2.1 c3).2 (fun v_ SI118 SJ118 h_ => ?_)
      obtain ⟨r117, rfl, q145⟩ := h_
      show gj_Goes E om0 mt_295 1127 [some (.ref 140), some (.ref 0), some (.ref 81), some (.int x3)] [(.int r117)] SI118 SJ118 (QI Q)
      refine gj_goq gj_clT ok_295 [18, 229, 258, 272, 281, 295, 304, 323, 337, 351, 360, 379, 393, 412, 426, 435, 439, 458, 472, 486, 495, 509, 518, 533, 542, 561, 575, 594, 608, 628, 642, 661, 675, 694, 708, 727, 741, 756, 765, 785, 799, 824, 843, 872, 896, 931, 960, 975, 984, 999, 1008, 1023, 1032, 1046, 1055, 1070, 1079, 1099, 1113, 1127, 1136, 1155, 1169, 1193, 1212, 1227, 1236, 1255, 1269, 1283, 1292, 1301, 1305, 1314, 1318, 1332, 1341] ?_
      show vp_in (x3 + (i3 1)) (gj_L E) ∧ (gj_Do E om0 (gj_mt 267) [(.ref 81), (.int (gj_stf E 12 (gj_n (x3 + (i3 1)))))] SI118 SJ118 _)
      refine ⟨k144, ?_⟩
      refine gj_Do.mono q145 (fun v_ SI120 SJ120 h_ => ?_)
      obtain ⟨r119, rfl, q146⟩ := h_
      show gj_Goes E om0 mt_295 1136 [some (.ref 140), some (.ref 0), some (.ref 81), some (.int x3)] [(.int r119), (.int r117)] SI120 SJ120 (QI Q)
      refine gj_goq gj_clT ok_295 [18, 229, 258, 272, 281, 295, 304, 323, 337, 351, 360, 379, 393, 412, 426, 435, 439, 458, 472, 486, 495, 509, 518, 533, 542, 561, 575, 594, 608, 628, 642, 661, 675, 694, 708, 727, 741, 756, 765, 785, 799, 824, 843, 872, 896, 931, 960, 975, 984, 999, 1008, 1023, 1032, 1046, 1055, 1070, 1079, 1099, 1113, 1127, 1136, 1155, 1169, 1193, 1212, 1227, 1236, 1255, 1269, 1283, 1292, 1301, 1305, 1314, 1318, 1332, 1341] ?_
      show (r117 = r119 → gj_Goes E om0 mt_295 1346 [some (.ref 140), some (.ref 0), some (.ref 81), some (.int x3)] [] SI120 SJ120 (QI Q)) ∧ (¬ r117 = r119 → ((i3 0) = 0 ∨ (i3 0) = 1) ∧ (QI Q (some (.int (i3 0))) SI120 SJ120))
      refine ⟨fun c147 => ?_, fun c147 => ?_⟩
      · refine gj_goq gj_clT ok_295 [18, 229, 258, 272, 281, 295, 304, 323, 337, 351, 360, 379, 393, 412, 426, 435, 439, 458, 472, 486, 495, 509, 518, 533, 542, 561, 575, 594, 608, 628, 642, 661, 675, 694, 708, 727, 741, 756, 765, 785, 799, 824, 843, 872, 896, 931, 960, 975, 984, 999, 1008, 1023, 1032, 1046, 1055, 1070, 1079, 1099, 1113, 1127, 1136, 1155, 1169, 1193, 1212, 1227, 1236, 1255, 1269, 1283, 1292, 1301, 1305, 1314, 1318, 1332, 1341] ?_
        show gj_Goes E om0 mt_295 18 [some (.ref 140), some (.ref 0), some (.ref 81), some (.int (x3 + (i3 6)))] [] SI120 SJ120 (QI Q)
        exact (q146.1 c147)
      · refine ⟨(Or.inl rfl), ?_⟩
        exact ⟨_, rfl, (q146.2 c147)⟩
    · refine gj_goq gj_clT ok_295 [18, 229, 258, 272, 281, 295, 304, 323, 337, 351, 360, 379, 393, 412, 426, 435, 439, 458, 472, 486, 495, 509, 518, 533, 542, 561, 575, 594, 608, 628, 642, 661, 675, 694, 708, 727, 741, 756, 765, 785, 799, 824, 843, 872, 896, 931, 960, 975, 984, 999, 1008, 1023, 1032, 1046, 1055, 1070, 1079, 1099, 1113, 1127, 1136, 1155, 1169, 1193, 1212, 1227, 1236, 1255, 1269, 1283, 1292, 1301, 1305, 1314, 1318, 1332, 1341] ?_
      show vp_in (x3 + (i3 1)) (gj_L E) ∧ (vp_in (x3 + (i3 2)) (gj_L E) ∧ (gj_Do E om0 (gj_mt 120) [(.ref 0), (.int (gj_stf E 12 (gj_n (x3 + (i3 1))))), (.int (gj_stf E 12 (gj_n (x3 + (i3 2)))))] SI SJ _))
      have k148 := ((h.2 c1).2.2.2.2.2.2.2.2.2.2.2.2.2.2.2.2.2.2.2.2.2.2.2.2.2.2.2.2.2.2.2.1 c3).1
      refine ⟨k148, ?_⟩
      have k149 := ((h.2 c1).2.2.2.2.2.2.2.2.2.2.2.2.2.2.2.2.2.2.2.2.2.2.2.2.2.2.2.2.2.2.2.1 c3).2.1
      refine ⟨k149, ?_⟩
      refine gj_Do.mono ((h.2 c1).2.2.2.2.2.2.2.2.2.2.2.2.2.2.2.2.2.2.2.2.2.2.2.2.2.2.2.2.2.2.2.1 c3).2.2 (fun v_ SI122 SJ122 h_ => ?_)
      obtain ⟨r121, rfl, q150⟩ := h_
      show gj_Goes E om0 mt_295 1155 [some (.ref 140), some (.ref 0), some (.ref 81), some (.int x3)] [(.int r121)] SI122 SJ122 (QI Q)
      refine gj_goq gj_clT ok_295 [18, 229, 258, 272, 281, 295, 304, 323, 337, 351, 360, 379, 393, 412, 426, 435, 439, 458, 472, 486, 495, 509, 518, 533, 542, 561, 575, 594, 608, 628, 642, 661, 675, 694, 708, 727, 741, 756, 765, 785, 799, 824, 843, 872, 896, 931, 960, 975, 984, 999, 1008, 1023, 1032, 1046, 1055, 1070, 1079, 1099, 1113, 1127, 1136, 1155, 1169, 1193, 1212, 1227, 1236, 1255, 1269, 1283, 1292, 1301, 1305, 1314, 1318, 1332, 1341] ?_
      show vp_in (x3 + (i3 1)) (gj_L E) ∧ (vp_in (x3 + (i3 2)) (gj_L E) ∧ (gj_Do E om0 (gj_mt 270) [(.ref 81), (.int (gj_stf E 12 (gj_n (x3 + (i3 1))))), (.int (gj_stf E 12 (gj_n (x3 + (i3 2)))))] SI122 SJ122 _))
      refine ⟨k148, ?_⟩
      refine ⟨k149, ?_⟩
      refine gj_Do.mono q150 (fun v_ SI124 SJ124 h_ => ?_)
      obtain ⟨r123, rfl, q151⟩ := h_
      show gj_Goes E om0 mt_295 1169 [some (.ref 140), some (.ref 0), some (.ref 81), some (.int x3)] [(.int r123), (.int r121)] SI124 SJ124 (QI Q)
      refine gj_goq gj_clT ok_295 [18, 229, 258, 272, 281, 295, 304, 323, 337, 351, 360, 379, 393, 412, 426, 435, 439, 458, 472, 486, 495, 509, 518, 533, 542, 561, 575, 594, 608, 628, 642, 661, 675, 694, 708, 727, 741, 756, 765, 785, 799, 824, 843, 872, 896, 931, 960, 975, 984, 999, 1008, 1023, 1032, 1046, 1055, 1070, 1079, 1099, 1113, 1127, 1136, 1155, 1169, 1193, 1212, 1227, 1236, 1255, 1269, 1283, 1292, 1301, 1305, 1314, 1318, 1332, 1341] ?_
      show (r121 = r123 → gj_Goes E om0 mt_295 1346 [some (.ref 140), some (.ref 0), some (.ref 81), some (.int x3)] [] SI124 SJ124 (QI Q)) ∧ (¬ r121 = r123 → ((i3 0) = 0 ∨ (i3 0) = 1) ∧ (QI Q (some (.int (i3 0))) SI124 SJ124))
      refine ⟨fun c152 => ?_, fun c152 => ?_⟩
      · refine gj_goq gj_clT ok_295 [18, 229, 258, 272, 281, 295, 304, 323, 337, 351, 360, 379, 393, 412, 426, 435, 439, 458, 472, 486, 495, 509, 518, 533, 542, 561, 575, 594, 608, 628, 642, 661, 675, 694, 708, 727, 741, 756, 765, 785, 799, 824, 843, 872, 896, 931, 960, 975, 984, 999, 1008, 1023, 1032, 1046, 1055, 1070, 1079, 1099, 1113, 1127, 1136, 1155, 1169, 1193, 1212, 1227, 1236, 1255, 1269, 1283, 1292, 1301, 1305, 1314, 1318, 1332, 1341] ?_
        show gj_Goes E om0 mt_295 18 [some (.ref 140), some (.ref 0), some (.ref 81), some (.int (x3 + (i3 6)))] [] SI124 SJ124 (QI Q)
        exact (q151.1 c152)
      · refine ⟨(Or.inl rfl), ?_⟩
        exact ⟨_, rfl, (q151.2 c152)⟩
    · refine gj_goq gj_clT ok_295 [18, 229, 258, 272, 281, 295, 304, 323, 337, 351, 360, 379, 393, 412, 426, 435, 439, 458, 472, 486, 495, 509, 518, 533, 542, 561, 575, 594, 608, 628, 642, 661, 675, 694, 708, 727, 741, 756, 765, 785, 799, 824, 843, 872, 896, 931, 960, 975, 984, 999, 1008, 1023, 1032, 1046, 1055, 1070, 1079, 1099, 1113, 1127, 1136, 1155, 1169, 1193, 1212, 1227, 1236, 1255, 1269, 1283, 1292, 1301, 1305, 1314, 1318, 1332, 1341] ?_
      show vp_in (x3 + (i3 1)) (gj_L E) ∧ (vp_in (x3 + (i3 2)) (gj_L E) ∧ (vp_in (x3 + (i3 3)) (gj_L E) ∧ (gj_Do E om0 (gj_mt 147) [(.ref 0), (.int (gj_stf E 12 (gj_n (x3 + (i3 1))))), (.int (gj_stf E 12 (gj_n (x3 + (i3 2))))), (.int (gj_stf E 12 (gj_n (x3 + (i3 3)))))] SI SJ _)))
      have k153 := ((h.2 c1).2.2.2.2.2.2.2.2.2.2.2.2.2.2.2.2.2.2.2.2.2.2.2.2.2.2.2.2.2.2.2.2.1 c3).1
      refine ⟨k153, ?_⟩
      have k154 := ((h.2 c1).2.2.2.2.2.2.2.2.2.2.2.2.2.2.2.2.2.2.2.2.2.2.2.2.2.2.2.2.2.2.2.2.1 c3).2.1
      refine ⟨k154, ?_⟩
      have k155 := ((h.2 c1).2.2.2.2.2.2.2.2.2.2.2.2.2.2.2.2.2.2.2.2.2.2.2.2.2.2.2.2.2.2.2.2.1 c3).2.2.1
      refine ⟨k155, ?_⟩
      refine gj_Do.mono ((h.2 c1).2.2.2.2.2.2.2.2.2.2.2.2.2.2.2.2.2.2.2.2.2.2.2.2.2.2.2.2.2.2.2.2.1 c3).2.2.2 (fun v_ SI126 SJ126 h_ => ?_)
      obtain ⟨r125, rfl, q156⟩ := h_
      show gj_Goes E om0 mt_295 1193 [some (.ref 140), some (.ref 0), some (.ref 81), some (.int x3)] [(.long r125)] SI126 SJ126 (QI Q)
      refine gj_goq gj_clT ok_295 [18, 229, 258, 272, 281, 295, 304, 323, 337, 351, 360, 379, 393, 412, 426, 435, 439, 458, 472, 486, 495, 509, 518, 533, 542, 561, 575, 594, 608, 628, 642, 661, 675, 694, 708, 727, 741, 756, 765, 785, 799, 824, 843, 872, 896, 931, 960, 975, 984, 999, 1008, 1023, 1032, 1046, 1055, 1070, 1079, 1099, 1113, 1127, 1136, 1155, 1169, 1193, 1212, 1227, 1236, 1255, 1269, 1283, 1292, 1301, 1305, 1314, 1318, 1332, 1341] ?_
      show vp_in (x3 + (i3 1)) (gj_L E) ∧ (vp_in (x3 + (i3 2)) (gj_L E) ∧ (vp_in (x3 + (i3 3)) (gj_L E) ∧ (gj_Do E om0 (gj_mt 234) [(.ref 81), (.int (gj_stf E 12 (gj_n (x3 + (i3 1))))), (.int (gj_stf E 12 (gj_n (x3 + (i3 2))))), (.int (gj_stf E 12 (gj_n (x3 + (i3 3)))))] SI126 SJ126 _)))
      refine ⟨k153, ?_⟩
      refine ⟨k154, ?_⟩
      refine ⟨k155, ?_⟩
      refine gj_Do.mono q156 (fun v_ SI128 SJ128 h_ => ?_)
      obtain ⟨r127, rfl, q157⟩ := h_
      show gj_Goes E om0 mt_295 1212 [some (.ref 140), some (.ref 0), some (.ref 81), some (.int x3)] [(.long r127), (.long r125)] SI128 SJ128 (QI Q)
      refine gj_goq gj_clT ok_295 [18, 229, 258, 272, 281, 295, 304, 323, 337, 351, 360, 379, 393, 412, 426, 435, 439, 458, 472, 486, 495, 509, 518, 533, 542, 561, 575, 594, 608, 628, 642, 661, 675, 694, 708, 727, 741, 756, 765, 785, 799, 824, 843, 872, 896, 931, 960, 975, 984, 999, 1008, 1023, 1032, 1046, 1055, 1070, 1079, 1099, 1113, 1127, 1136, 1155, 1169, 1193, 1212, 1227, 1236, 1255, 1269, 1283, 1292, 1301, 1305, 1314, 1318, 1332, 1341] ?_
      show ((lg_cmp r125 r127) = 0 → gj_Goes E om0 mt_295 1346 [some (.ref 140), some (.ref 0), some (.ref 81), some (.int x3)] [] SI128 SJ128 (QI Q)) ∧ (¬ (lg_cmp r125 r127) = 0 → ((i3 0) = 0 ∨ (i3 0) = 1) ∧ (QI Q (some (.int (i3 0))) SI128 SJ128))
      refine ⟨fun c158 => ?_, fun c158 => ?_⟩
      · refine gj_goq gj_clT ok_295 [18, 229, 258, 272, 281, 295, 304, 323, 337, 351, 360, 379, 393, 412, 426, 435, 439, 458, 472, 486, 495, 509, 518, 533, 542, 561, 575, 594, 608, 628, 642, 661, 675, 694, 708, 727, 741, 756, 765, 785, 799, 824, 843, 872, 896, 931, 960, 975, 984, 999, 1008, 1023, 1032, 1046, 1055, 1070, 1079, 1099, 1113, 1127, 1136, 1155, 1169, 1193, 1212, 1227, 1236, 1255, 1269, 1283, 1292, 1301, 1305, 1314, 1318, 1332, 1341] ?_
        show gj_Goes E om0 mt_295 18 [some (.ref 140), some (.ref 0), some (.ref 81), some (.int (x3 + (i3 6)))] [] SI128 SJ128 (QI Q)
        exact (q157.1 (lgc_eq.mp c158))
      · refine ⟨(Or.inl rfl), ?_⟩
        exact ⟨_, rfl, (q157.2 (fun z_ => c158 (lgc_eq.mpr z_)))⟩
    · refine gj_goq gj_clT ok_295 [18, 229, 258, 272, 281, 295, 304, 323, 337, 351, 360, 379, 393, 412, 426, 435, 439, 458, 472, 486, 495, 509, 518, 533, 542, 561, 575, 594, 608, 628, 642, 661, 675, 694, 708, 727, 741, 756, 765, 785, 799, 824, 843, 872, 896, 931, 960, 975, 984, 999, 1008, 1023, 1032, 1046, 1055, 1070, 1079, 1099, 1113, 1127, 1136, 1155, 1169, 1193, 1212, 1227, 1236, 1255, 1269, 1283, 1292, 1301, 1305, 1314, 1318, 1332, 1341] ?_
      show vp_in (x3 + (i3 1)) (gj_L E) ∧ (gj_Do E om0 (gj_mt 149) [(.ref 0), (.int (gj_stf E 12 (gj_n (x3 + (i3 1)))))] SI SJ _)
      have k159 := ((h.2 c1).2.2.2.2.2.2.2.2.2.2.2.2.2.2.2.2.2.2.2.2.2.2.2.2.2.2.2.2.2.2.2.2.2.1 c3).1
      refine ⟨k159, ?_⟩
      refine gj_Do.mono ((h.2 c1).2.2.2.2.2.2.2.2.2.2.2.2.2.2.2.2.2.2.2.2.2.2.2.2.2.2.2.2.2.2.2.2.2.1 c3).2 (fun v_ SI130 SJ130 h_ => ?_)
      obtain ⟨r129, rfl, q160⟩ := h_
      show gj_Goes E om0 mt_295 1227 [some (.ref 140), some (.ref 0), some (.ref 81), some (.int x3)] [(.int r129)] SI130 SJ130 (QI Q)
      refine gj_goq gj_clT ok_295 [18, 229, 258, 272, 281, 295, 304, 323, 337, 351, 360, 379, 393, 412, 426, 435, 439, 458, 472, 486, 495, 509, 518, 533, 542, 561, 575, 594, 608, 628, 642, 661, 675, 694, 708, 727, 741, 756, 765, 785, 799, 824, 843, 872, 896, 931, 960, 975, 984, 999, 1008, 1023, 1032, 1046, 1055, 1070, 1079, 1099, 1113, 1127, 1136, 1155, 1169, 1193, 1212, 1227, 1236, 1255, 1269, 1283, 1292, 1301, 1305, 1314, 1318, 1332, 1341] ?_
      show vp_in (x3 + (i3 1)) (gj_L E) ∧ (gj_Do E om0 (gj_mt 235) [(.ref 81), (.int (gj_stf E 12 (gj_n (x3 + (i3 1)))))] SI130 SJ130 _)
      refine ⟨k159, ?_⟩
      refine gj_Do.mono q160 (fun v_ SI132 SJ132 h_ => ?_)
      obtain ⟨r131, rfl, q161⟩ := h_
      show gj_Goes E om0 mt_295 1236 [some (.ref 140), some (.ref 0), some (.ref 81), some (.int x3)] [(.int r131), (.int r129)] SI132 SJ132 (QI Q)
      refine gj_goq gj_clT ok_295 [18, 229, 258, 272, 281, 295, 304, 323, 337, 351, 360, 379, 393, 412, 426, 435, 439, 458, 472, 486, 495, 509, 518, 533, 542, 561, 575, 594, 608, 628, 642, 661, 675, 694, 708, 727, 741, 756, 765, 785, 799, 824, 843, 872, 896, 931, 960, 975, 984, 999, 1008, 1023, 1032, 1046, 1055, 1070, 1079, 1099, 1113, 1127, 1136, 1155, 1169, 1193, 1212, 1227, 1236, 1255, 1269, 1283, 1292, 1301, 1305, 1314, 1318, 1332, 1341] ?_
      show (r129 = r131 → gj_Goes E om0 mt_295 1346 [some (.ref 140), some (.ref 0), some (.ref 81), some (.int x3)] [] SI132 SJ132 (QI Q)) ∧ (¬ r129 = r131 → ((i3 0) = 0 ∨ (i3 0) = 1) ∧ (QI Q (some (.int (i3 0))) SI132 SJ132))
      refine ⟨fun c162 => ?_, fun c162 => ?_⟩
      · refine gj_goq gj_clT ok_295 [18, 229, 258, 272, 281, 295, 304, 323, 337, 351, 360, 379, 393, 412, 426, 435, 439, 458, 472, 486, 495, 509, 518, 533, 542, 561, 575, 594, 608, 628, 642, 661, 675, 694, 708, 727, 741, 756, 765, 785, 799, 824, 843, 872, 896, 931, 960, 975, 984, 999, 1008, 1023, 1032, 1046, 1055, 1070, 1079, 1099, 1113, 1127, 1136, 1155, 1169, 1193, 1212, 1227, 1236, 1255, 1269, 1283, 1292, 1301, 1305, 1314, 1318, 1332, 1341] ?_
        show gj_Goes E om0 mt_295 18 [some (.ref 140), some (.ref 0), some (.ref 81), some (.int (x3 + (i3 6)))] [] SI132 SJ132 (QI Q)
        exact (q161.1 c162)
      · refine ⟨(Or.inl rfl), ?_⟩
        exact ⟨_, rfl, (q161.2 c162)⟩
    · refine gj_goq gj_clT ok_295 [18, 229, 258, 272, 281, 295, 304, 323, 337, 351, 360, 379, 393, 412, 426, 435, 439, 458, 472, 486, 495, 509, 518, 533, 542, 561, 575, 594, 608, 628, 642, 661, 675, 694, 708, 727, 741, 756, 765, 785, 799, 824, 843, 872, 896, 931, 960, 975, 984, 999, 1008, 1023, 1032, 1046, 1055, 1070, 1079, 1099, 1113, 1127, 1136, 1155, 1169, 1193, 1212, 1227, 1236, 1255, 1269, 1283, 1292, 1301, 1305, 1314, 1318, 1332, 1341] ?_
      show vp_in (x3 + (i3 1)) (gj_L E) ∧ (vp_in (x3 + (i3 2)) (gj_L E) ∧ (gj_Do E om0 (gj_mt 150) [(.ref 0), (.int (gj_stf E 12 (gj_n (x3 + (i3 1))))), (.int (gj_stf E 12 (gj_n (x3 + (i3 2)))))] SI SJ _))
      have k163 := ((h.2 c1).2.2.2.2.2.2.2.2.2.2.2.2.2.2.2.2.2.2.2.2.2.2.2.2.2.2.2.2.2.2.2.2.2.2.1 c3).1
      refine ⟨k163, ?_⟩
      have k164 := ((h.2 c1).2.2.2.2.2.2.2.2.2.2.2.2.2.2.2.2.2.2.2.2.2.2.2.2.2.2.2.2.2.2.2.2.2.2.1 c3).2.1
      refine ⟨k164, ?_⟩
      refine gj_Do.mono ((h.2 c1).2.2.2.2.2.2.2.2.2.2.2.2.2.2.2.2.2.2.2.2.2.2.2.2.2.2.2.2.2.2.2.2.2.2.1 c3).2.2 (fun v_ SI134 SJ134 h_ => ?_)
      obtain ⟨r133, rfl, q165⟩ := h_
      show gj_Goes E om0 mt_295 1255 [some (.ref 140), some (.ref 0), some (.ref 81), some (.int x3)] [(.int r133)] SI134 SJ134 (QI Q)
      refine gj_goq gj_clT ok_295 [18, 229, 258, 272, 281, 295, 304, 323, 337, 351, 360, 379, 393, 412, 426, 435, 439, 458, 472, 486, 495, 509, 518, 533, 542, 561, 575, 594, 608, 628, 642, 661, 675, 694, 708, 727, 741, 756, 765, 785, 799, 824, 843, 872, 896, 931, 960, 975, 984, 999, 1008, 1023, 1032, 1046, 1055, 1070, 1079, 1099, 1113, 1127, 1136, 1155, 1169, 1193, 1212, 1227, 1236, 1255, 1269, 1283, 1292, 1301, 1305, 1314, 1318, 1332, 1341] ?_
      show vp_in (x3 + (i3 1)) (gj_L E) ∧ (vp_in (x3 + (i3 2)) (gj_L E) ∧ (gj_Do E om0 (gj_mt 237) [(.ref 81), (.int (gj_stf E 12 (gj_n (x3 + (i3 1))))), (.int (gj_stf E 12 (gj_n (x3 + (i3 2)))))] SI134 SJ134 _))
      refine ⟨k163, ?_⟩
      refine ⟨k164, ?_⟩
      refine gj_Do.mono q165 (fun v_ SI136 SJ136 h_ => ?_)
      obtain ⟨r135, rfl, q166⟩ := h_
      show gj_Goes E om0 mt_295 1269 [some (.ref 140), some (.ref 0), some (.ref 81), some (.int x3)] [(.int r135), (.int r133)] SI136 SJ136 (QI Q)
      refine gj_goq gj_clT ok_295 [18, 229, 258, 272, 281, 295, 304, 323, 337, 351, 360, 379, 393, 412, 426, 435, 439, 458, 472, 486, 495, 509, 518, 533, 542, 561, 575, 594, 608, 628, 642, 661, 675, 694, 708, 727, 741, 756, 765, 785, 799, 824, 843, 872, 896, 931, 960, 975, 984, 999, 1008, 1023, 1032, 1046, 1055, 1070, 1079, 1099, 1113, 1127, 1136, 1155, 1169, 1193, 1212, 1227, 1236, 1255, 1269, 1283, 1292, 1301, 1305, 1314, 1318, 1332, 1341] ?_
      show (r133 = r135 → gj_Goes E om0 mt_295 1346 [some (.ref 140), some (.ref 0), some (.ref 81), some (.int x3)] [] SI136 SJ136 (QI Q)) ∧ (¬ r133 = r135 → ((i3 0) = 0 ∨ (i3 0) = 1) ∧ (QI Q (some (.int (i3 0))) SI136 SJ136))
      refine ⟨fun c167 => ?_, fun c167 => ?_⟩
      · refine gj_goq gj_clT ok_295 [18, 229, 258, 272, 281, 295, 304, 323, 337, 351, 360, 379, 393, 412, 426, 435, 439, 458, 472, 486, 495, 509, 518, 533, 542, 561, 575, 594, 608, 628, 642, 661, 675, 694, 708, 727, 741, 756, 765, 785, 799, 824, 843, 872, 896, 931, 960, 975, 984, 999, 1008, 1023, 1032, 1046, 1055, 1070, 1079, 1099, 1113, 1127, 1136, 1155, 1169, 1193, 1212, 1227, 1236, 1255, 1269, 1283, 1292, 1301, 1305, 1314, 1318, 1332, 1341] ?_
        show gj_Goes E om0 mt_295 18 [some (.ref 140), some (.ref 0), some (.ref 81), some (.int (x3 + (i3 6)))] [] SI136 SJ136 (QI Q)
        exact (q166.1 c167)
      · refine ⟨(Or.inl rfl), ?_⟩
        exact ⟨_, rfl, (q166.2 c167)⟩
    · refine gj_goq gj_clT ok_295 [18, 229, 258, 272, 281, 295, 304, 323, 337, 351, 360, 379, 393, 412, 426, 435, 439, 458, 472, 486, 495, 509, 518, 533, 542, 561, 575, 594, 608, 628, 642, 661, 675, 694, 708, 727, 741, 756, 765, 785, 799, 824, 843, 872, 896, 931, 960, 975, 984, 999, 1008, 1023, 1032, 1046, 1055, 1070, 1079, 1099, 1113, 1127, 1136, 1155, 1169, 1193, 1212, 1227, 1236, 1255, 1269, 1283, 1292, 1301, 1305, 1314, 1318, 1332, 1341] ?_
      show vp_in (x3 + (i3 1)) (gj_L E) ∧ (gj_Do E om0 (gj_mt 110) [(.ref 0), (.int (gj_stf E 12 (gj_n (x3 + (i3 1)))))] SI SJ _)
      have k168 := ((h.2 c1).2.2.2.2.2.2.2.2.2.2.2.2.2.2.2.2.2.2.2.2.2.2.2.2.2.2.2.2.2.2.2.2.2.2.2.1 c3).1
      refine ⟨k168, ?_⟩
      refine gj_Do.mono ((h.2 c1).2.2.2.2.2.2.2.2.2.2.2.2.2.2.2.2.2.2.2.2.2.2.2.2.2.2.2.2.2.2.2.2.2.2.2.1 c3).2 (fun v_ SI138 SJ138 h_ => ?_)
      obtain ⟨r137, rfl, q169⟩ := h_
      show gj_Goes E om0 mt_295 1283 [some (.ref 140), some (.ref 0), some (.ref 81), some (.int x3)] [(.int r137)] SI138 SJ138 (QI Q)
      refine gj_goq gj_clT ok_295 [18, 229, 258, 272, 281, 295, 304, 323, 337, 351, 360, 379, 393, 412, 426, 435, 439, 458, 472, 486, 495, 509, 518, 533, 542, 561, 575, 594, 608, 628, 642, 661, 675, 694, 708, 727, 741, 756, 765, 785, 799, 824, 843, 872, 896, 931, 960, 975, 984, 999, 1008, 1023, 1032, 1046, 1055, 1070, 1079, 1099, 1113, 1127, 1136, 1155, 1169, 1193, 1212, 1227, 1236, 1255, 1269, 1283, 1292, 1301, 1305, 1314, 1318, 1332, 1341] ?_
      show vp_in (x3 + (i3 1)) (gj_L E) ∧ (gj_Do E om0 (gj_mt 238) [(.ref 81), (.int (gj_stf E 12 (gj_n (x3 + (i3 1)))))] SI138 SJ138 _)
      refine ⟨k168, ?_⟩
      refine gj_Do.mono q169 (fun v_ SI140 SJ140 h_ => ?_)
      obtain ⟨r139, rfl, q170⟩ := h_
      show gj_Goes E om0 mt_295 1292 [some (.ref 140), some (.ref 0), some (.ref 81), some (.int x3)] [(.int r139), (.int r137)] SI140 SJ140 (QI Q)
      refine gj_goq gj_clT ok_295 [18, 229, 258, 272, 281, 295, 304, 323, 337, 351, 360, 379, 393, 412, 426, 435, 439, 458, 472, 486, 495, 509, 518, 533, 542, 561, 575, 594, 608, 628, 642, 661, 675, 694, 708, 727, 741, 756, 765, 785, 799, 824, 843, 872, 896, 931, 960, 975, 984, 999, 1008, 1023, 1032, 1046, 1055, 1070, 1079, 1099, 1113, 1127, 1136, 1155, 1169, 1193, 1212, 1227, 1236, 1255, 1269, 1283, 1292, 1301, 1305, 1314, 1318, 1332, 1341] ?_
      show (r137 = r139 → gj_Goes E om0 mt_295 1346 [some (.ref 140), some (.ref 0), some (.ref 81), some (.int x3)] [] SI140 SJ140 (QI Q)) ∧ (¬ r137 = r139 → ((i3 0) = 0 ∨ (i3 0) = 1) ∧ (QI Q (some (.int (i3 0))) SI140 SJ140))
      refine ⟨fun c171 => ?_, fun c171 => ?_⟩
      · refine gj_goq gj_clT ok_295 [18, 229, 258, 272, 281, 295, 304, 323, 337, 351, 360, 379, 393, 412, 426, 435, 439, 458, 472, 486, 495, 509, 518, 533, 542, 561, 575, 594, 608, 628, 642, 661, 675, 694, 708, 727, 741, 756, 765, 785, 799, 824, 843, 872, 896, 931, 960, 975, 984, 999, 1008, 1023, 1032, 1046, 1055, 1070, 1079, 1099, 1113, 1127, 1136, 1155, 1169, 1193, 1212, 1227, 1236, 1255, 1269, 1283, 1292, 1301, 1305, 1314, 1318, 1332, 1341] ?_
        show gj_Goes E om0 mt_295 18 [some (.ref 140), some (.ref 0), some (.ref 81), some (.int (x3 + (i3 6)))] [] SI140 SJ140 (QI Q)
        exact (q170.1 c171)
      · refine ⟨(Or.inl rfl), ?_⟩
        exact ⟨_, rfl, (q170.2 c171)⟩
    · refine gj_goq gj_clT ok_295 [18, 229, 258, 272, 281, 295, 304, 323, 337, 351, 360, 379, 393, 412, 426, 435, 439, 458, 472, 486, 495, 509, 518, 533, 542, 561, 575, 594, 608, 628, 642, 661, 675, 694, 708, 727, 741, 756, 765, 785, 799, 824, 843, 872, 896, 931, 960, 975, 984, 999, 1008, 1023, 1032, 1046, 1055, 1070, 1079, 1099, 1113, 1127, 1136, 1155, 1169, 1193, 1212, 1227, 1236, 1255, 1269, 1283, 1292, 1301, 1305, 1314, 1318, 1332, 1341] ?_
      show gj_Do E om0 (gj_mt 111) [(.ref 0)] SI SJ _
      refine gj_Do.mono ((h.2 c1).2.2.2.2.2.2.2.2.2.2.2.2.2.2.2.2.2.2.2.2.2.2.2.2.2.2.2.2.2.2.2.2.2.2.2.2.1 c3) (fun v_ SI142 SJ142 h_ => ?_)
      obtain ⟨r141, rfl, q172⟩ := h_
      show gj_Goes E om0 mt_295 1301 [some (.ref 140), some (.ref 0), some (.ref 81), some (.int x3)] [(.int r141)] SI142 SJ142 (QI Q)
      refine gj_goq gj_clT ok_295 [18, 229, 258, 272, 281, 295, 304, 323, 337, 351, 360, 379, 393, 412, 426, 435, 439, 458, 472, 486, 495, 509, 518, 533, 542, 561, 575, 594, 608, 628, 642, 661, 675, 694, 708, 727, 741, 756, 765, 785, 799, 824, 843, 872, 896, 931, 960, 975, 984, 999, 1008, 1023, 1032, 1046, 1055, 1070, 1079, 1099, 1113, 1127, 1136, 1155, 1169, 1193, 1212, 1227, 1236, 1255, 1269, 1283, 1292, 1301, 1305, 1314, 1318, 1332, 1341] ?_
      show gj_Do E om0 (gj_mt 281) [(.ref 81)] SI142 SJ142 _
      refine gj_Do.mono q172 (fun v_ SI144 SJ144 h_ => ?_)
      obtain ⟨r143, rfl, q173⟩ := h_
      show gj_Goes E om0 mt_295 1305 [some (.ref 140), some (.ref 0), some (.ref 81), some (.int x3)] [(.int r143), (.int r141)] SI144 SJ144 (QI Q)
      refine gj_goq gj_clT ok_295 [18, 229, 258, 272, 281, 295, 304, 323, 337, 351, 360, 379, 393, 412, 426, 435, 439, 458, 472, 486, 495, 509, 518, 533, 542, 561, 575, 594, 608, 628, 642, 661, 675, 694, 708, 727, 741, 756, 765, 785, 799, 824, 843, 872, 896, 931, 960, 975, 984, 999, 1008, 1023, 1032, 1046, 1055, 1070, 1079, 1099, 1113, 1127, 1136, 1155, 1169, 1193, 1212, 1227, 1236, 1255, 1269, 1283, 1292, 1301, 1305, 1314, 1318, 1332, 1341] ?_
      show (r141 = r143 → gj_Goes E om0 mt_295 1346 [some (.ref 140), some (.ref 0), some (.ref 81), some (.int x3)] [] SI144 SJ144 (QI Q)) ∧ (¬ r141 = r143 → ((i3 0) = 0 ∨ (i3 0) = 1) ∧ (QI Q (some (.int (i3 0))) SI144 SJ144))
      refine ⟨fun c174 => ?_, fun c174 => ?_⟩
      · refine gj_goq gj_clT ok_295 [18, 229, 258, 272, 281, 295, 304, 323, 337, 351, 360, 379, 393, 412, 426, 435, 439, 458, 472, 486, 495, 509, 518, 533, 542, 561, 575, 594, 608, 628, 642, 661, 675, 694, 708, 727, 741, 756, 765, 785, 799, 824, 843, 872, 896, 931, 960, 975, 984, 999, 1008, 1023, 1032, 1046, 1055, 1070, 1079, 1099, 1113, 1127, 1136, 1155, 1169, 1193, 1212, 1227, 1236, 1255, 1269, 1283, 1292, 1301, 1305, 1314, 1318, 1332, 1341] ?_
        show gj_Goes E om0 mt_295 18 [some (.ref 140), some (.ref 0), some (.ref 81), some (.int (x3 + (i3 6)))] [] SI144 SJ144 (QI Q)
        exact (q173.1 c174)
      · refine ⟨(Or.inl rfl), ?_⟩
        exact ⟨_, rfl, (q173.2 c174)⟩
    · refine gj_goq gj_clT ok_295 [18, 229, 258, 272, 281, 295, 304, 323, 337, 351, 360, 379, 393, 412, 426, 435, 439, 458, 472, 486, 495, 509, 518, 533, 542, 561, 575, 594, 608, 628, 642, 661, 675, 694, 708, 727, 741, 756, 765, 785, 799, 824, 843, 872, 896, 931, 960, 975, 984, 999, 1008, 1023, 1032, 1046, 1055, 1070, 1079, 1099, 1113, 1127, 1136, 1155, 1169, 1193, 1212, 1227, 1236, 1255, 1269, 1283, 1292, 1301, 1305, 1314, 1318, 1332, 1341] ?_
      show gj_Do E om0 (gj_mt 112) [(.ref 0)] SI SJ _
      refine gj_Do.mono ((h.2 c1).2.2.2.2.2.2.2.2.2.2.2.2.2.2.2.2.2.2.2.2.2.2.2.2.2.2.2.2.2.2.2.2.2.2.2.2.2.1 c3) (fun v_ SI146 SJ146 h_ => ?_)
      obtain ⟨r145, rfl, q175⟩ := h_
      show gj_Goes E om0 mt_295 1314 [some (.ref 140), some (.ref 0), some (.ref 81), some (.int x3)] [(.int r145)] SI146 SJ146 (QI Q)
      refine gj_goq gj_clT ok_295 [18, 229, 258, 272, 281, 295, 304, 323, 337, 351, 360, 379, 393, 412, 426, 435, 439, 458, 472, 486, 495, 509, 518, 533, 542, 561, 575, 594, 608, 628, 642, 661, 675, 694, 708, 727, 741, 756, 765, 785, 799, 824, 843, 872, 896, 931, 960, 975, 984, 999, 1008, 1023, 1032, 1046, 1055, 1070, 1079, 1099, 1113, 1127, 1136, 1155, 1169, 1193, 1212, 1227, 1236, 1255, 1269, 1283, 1292, 1301, 1305, 1314, 1318, 1332, 1341] ?_
      show gj_Do E om0 (gj_mt 282) [(.ref 81)] SI146 SJ146 _
      refine gj_Do.mono q175 (fun v_ SI148 SJ148 h_ => ?_)
      obtain ⟨r147, rfl, q176⟩ := h_
      show gj_Goes E om0 mt_295 1318 [some (.ref 140), some (.ref 0), some (.ref 81), some (.int x3)] [(.int r147), (.int r145)] SI148 SJ148 (QI Q)
      refine gj_goq gj_clT ok_295 [18, 229, 258, 272, 281, 295, 304, 323, 337, 351, 360, 379, 393, 412, 426, 435, 439, 458, 472, 486, 495, 509, 518, 533, 542, 561, 575, 594, 608, 628, 642, 661, 675, 694, 708, 727, 741, 756, 765, 785, 799, 824, 843, 872, 896, 931, 960, 975, 984, 999, 1008, 1023, 1032, 1046, 1055, 1070, 1079, 1099, 1113, 1127, 1136, 1155, 1169, 1193, 1212, 1227, 1236, 1255, 1269, 1283, 1292, 1301, 1305, 1314, 1318, 1332, 1341] ?_
      show (r145 = r147 → gj_Goes E om0 mt_295 1346 [some (.ref 140), some (.ref 0), some (.ref 81), some (.int x3)] [] SI148 SJ148 (QI Q)) ∧ (¬ r145 = r147 → ((i3 0) = 0 ∨ (i3 0) = 1) ∧ (QI Q (some (.int (i3 0))) SI148 SJ148))
      refine ⟨fun c177 => ?_, fun c177 => ?_⟩
      · refine gj_goq gj_clT ok_295 [18, 229, 258, 272, 281, 295, 304, 323, 337, 351, 360, 379, 393, 412, 426, 435, 439, 458, 472, 486, 495, 509, 518, 533, 542, 561, 575, 594, 608, 628, 642, 661, 675, 694, 708, 727, 741, 756, 765, 785, 799, 824, 843, 872, 896, 931, 960, 975, 984, 999, 1008, 1023, 1032, 1046, 1055, 1070, 1079, 1099, 1113, 1127, 1136, 1155, 1169, 1193, 1212, 1227, 1236, 1255, 1269, 1283, 1292, 1301, 1305, 1314, 1318, 1332, 1341] ?_
        show gj_Goes E om0 mt_295 18 [some (.ref 140), some (.ref 0), some (.ref 81), some (.int (x3 + (i3 6)))] [] SI148 SJ148 (QI Q)
        exact (q176.1 c177)
      · refine ⟨(Or.inl rfl), ?_⟩
        exact ⟨_, rfl, (q176.2 c177)⟩
    · refine gj_goq gj_clT ok_295 [18, 229, 258, 272, 281, 295, 304, 323, 337, 351, 360, 379, 393, 412, 426, 435, 439, 458, 472, 486, 495, 509, 518, 533, 542, 561, 575, 594, 608, 628, 642, 661, 675, 694, 708, 727, 741, 756, 765, 785, 799, 824, 843, 872, 896, 931, 960, 975, 984, 999, 1008, 1023, 1032, 1046, 1055, 1070, 1079, 1099, 1113, 1127, 1136, 1155, 1169, 1193, 1212, 1227, 1236, 1255, 1269, 1283, 1292, 1301, 1305, 1314, 1318, 1332, 1341] ?_
      show vp_in (x3 + (i3 1)) (gj_L E) ∧ (gj_Do E om0 (gj_mt 98) [(.ref 0), (.int (gj_stf E 12 (gj_n (x3 + (i3 1)))))] SI SJ _)
      have k178 := ((h.2 c1).2.2.2.2.2.2.2.2.2.2.2.2.2.2.2.2.2.2.2.2.2.2.2.2.2.2.2.2.2.2.2.2.2.2.2.2.2.2.1 c3).1
      refine ⟨k178, ?_⟩
      refine gj_Do.mono ((h.2 c1).2.2.2.2.2.2.2.2.2.2.2.2.2.2.2.2.2.2.2.2.2.2.2.2.2.2.2.2.2.2.2.2.2.2.2.2.2.2.1 c3).2 (fun v_ SI150 SJ150 h_ => ?_)
      obtain ⟨r149, rfl, q179⟩ := h_
      show gj_Goes E om0 mt_295 1332 [some (.ref 140), some (.ref 0), some (.ref 81), some (.int x3)] [(.int r149)] SI150 SJ150 (QI Q)
      refine gj_goq gj_clT ok_295 [18, 229, 258, 272, 281, 295, 304, 323, 337, 351, 360, 379, 393, 412, 426, 435, 439, 458, 472, 486, 495, 509, 518, 533, 542, 561, 575, 594, 608, 628, 642, 661, 675, 694, 708, 727, 741, 756, 765, 785, 799, 824, 843, 872, 896, 931, 960, 975, 984, 999, 1008, 1023, 1032, 1046, 1055, 1070, 1079, 1099, 1113, 1127, 1136, 1155, 1169, 1193, 1212, 1227, 1236, 1255, 1269, 1283, 1292, 1301, 1305, 1314, 1318, 1332, 1341] ?_
      show vp_in (x3 + (i3 1)) (gj_L E) ∧ (gj_Do E om0 (gj_mt 283) [(.ref 81), (.int (gj_stf E 12 (gj_n (x3 + (i3 1)))))] SI150 SJ150 _)
      refine ⟨k178, ?_⟩
      refine gj_Do.mono q179 (fun v_ SI152 SJ152 h_ => ?_)
      obtain ⟨r151, rfl, q180⟩ := h_
      show gj_Goes E om0 mt_295 1341 [some (.ref 140), some (.ref 0), some (.ref 81), some (.int x3)] [(.int r151), (.int r149)] SI152 SJ152 (QI Q)
      refine gj_goq gj_clT ok_295 [18, 229, 258, 272, 281, 295, 304, 323, 337, 351, 360, 379, 393, 412, 426, 435, 439, 458, 472, 486, 495, 509, 518, 533, 542, 561, 575, 594, 608, 628, 642, 661, 675, 694, 708, 727, 741, 756, 765, 785, 799, 824, 843, 872, 896, 931, 960, 975, 984, 999, 1008, 1023, 1032, 1046, 1055, 1070, 1079, 1099, 1113, 1127, 1136, 1155, 1169, 1193, 1212, 1227, 1236, 1255, 1269, 1283, 1292, 1301, 1305, 1314, 1318, 1332, 1341] ?_
      show (r149 = r151 → gj_Goes E om0 mt_295 1346 [some (.ref 140), some (.ref 0), some (.ref 81), some (.int x3)] [] SI152 SJ152 (QI Q)) ∧ (¬ r149 = r151 → ((i3 0) = 0 ∨ (i3 0) = 1) ∧ (QI Q (some (.int (i3 0))) SI152 SJ152))
      refine ⟨fun c181 => ?_, fun c181 => ?_⟩
      · refine gj_goq gj_clT ok_295 [18, 229, 258, 272, 281, 295, 304, 323, 337, 351, 360, 379, 393, 412, 426, 435, 439, 458, 472, 486, 495, 509, 518, 533, 542, 561, 575, 594, 608, 628, 642, 661, 675, 694, 708, 727, 741, 756, 765, 785, 799, 824, 843, 872, 896, 931, 960, 975, 984, 999, 1008, 1023, 1032, 1046, 1055, 1070, 1079, 1099, 1113, 1127, 1136, 1155, 1169, 1193, 1212, 1227, 1236, 1255, 1269, 1283, 1292, 1301, 1305, 1314, 1318, 1332, 1341] ?_
        show gj_Goes E om0 mt_295 18 [some (.ref 140), some (.ref 0), some (.ref 81), some (.int (x3 + (i3 6)))] [] SI152 SJ152 (QI Q)
        exact (q180.1 c181)
      · refine ⟨(Or.inl rfl), ?_⟩
        exact ⟨_, rfl, (q180.2 c181)⟩
    · refine gj_goq gj_clT ok_295 [18, 229, 258, 272, 281, 295, 304, 323, 337, 351, 360, 379, 393, 412, 426, 435, 439, 458, 472, 486, 495, 509, 518, 533, 542, 561, 575, 594, 608, 628, 642, 661, 675, 694, 708, 727, 741, 756, 765, 785, 799, 824, 843, 872, 896, 931, 960, 975, 984, 999, 1008, 1023, 1032, 1046, 1055, 1070, 1079, 1099, 1113, 1127, 1136, 1155, 1169, 1193, 1212, 1227, 1236, 1255, 1269, 1283, 1292, 1301, 1305, 1314, 1318, 1332, 1341] ?_
      show gj_Goes E om0 mt_295 18 [some (.ref 140), some (.ref 0), some (.ref 81), some (.int (x3 + (i3 6)))] [] SI SJ (QI Q)
      exact ((h.2 c1).2.2.2.2.2.2.2.2.2.2.2.2.2.2.2.2.2.2.2.2.2.2.2.2.2.2.2.2.2.2.2.2.2.2.2.2.2.2.2 c3)
