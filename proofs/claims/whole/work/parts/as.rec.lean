/-! as: CONSTRUCTION: the constructors, their words; printed by gencons.py -/
theorem gj_cn1 {w : Cond} (h : w ∈ tables_1_1) (hg : gj_isN w = true) : w ∈ gj_tn := List.mem_filter.mpr ⟨List.mem_append_right _ (List.mem_append_left _ h), hg⟩
theorem gj_cn2 {w : Cond} (h : w ∈ tables_1_2) (hg : gj_isN w = true) : w ∈ gj_tn := List.mem_filter.mpr ⟨List.mem_append_right _ (List.mem_append_right _ (List.mem_append_left _ h)), hg⟩
theorem gj_cn3 {w : Cond} (h : w ∈ tables_1_3) (hg : gj_isN w = true) : w ∈ gj_tn := List.mem_filter.mpr ⟨List.mem_append_right _ (List.mem_append_right _ (List.mem_append_right _ (List.mem_append_left _ h))), hg⟩
theorem gj_cn4 {w : Cond} (h : w ∈ tables_1_4) (hg : gj_isN w = true) : w ∈ gj_tn := List.mem_filter.mpr ⟨List.mem_append_right _ (List.mem_append_right _ (List.mem_append_right _ (List.mem_append_right _ (List.mem_append_left _ h)))), hg⟩
theorem gj_cn5 {w : Cond} (h : w ∈ tables_1_5) (hg : gj_isN w = true) : w ∈ gj_tn := List.mem_filter.mpr ⟨List.mem_append_right _ (List.mem_append_right _ (List.mem_append_right _ (List.mem_append_right _ (List.mem_append_right _ (List.mem_append_left _ h))))), hg⟩
theorem gj_cn6 {w : Cond} (h : w ∈ tables_1_6) (hg : gj_isN w = true) : w ∈ gj_tn := List.mem_filter.mpr ⟨List.mem_append_right _ (List.mem_append_right _ (List.mem_append_right _ (List.mem_append_right _ (List.mem_append_right _ (List.mem_append_right _ (List.mem_append_left _ h)))))), hg⟩
theorem gj_cn7 {w : Cond} (h : w ∈ tables_1_7) (hg : gj_isN w = true) : w ∈ gj_tn := List.mem_filter.mpr ⟨List.mem_append_right _ (List.mem_append_right _ (List.mem_append_right _ (List.mem_append_right _ (List.mem_append_right _ (List.mem_append_right _ (List.mem_append_right _ (List.mem_append_left _ h))))))), hg⟩
theorem gj_cn8 {w : Cond} (h : w ∈ tables_1_8) (hg : gj_isN w = true) : w ∈ gj_tn := List.mem_filter.mpr ⟨List.mem_append_right _ (List.mem_append_right _ (List.mem_append_right _ (List.mem_append_right _ (List.mem_append_right _ (List.mem_append_right _ (List.mem_append_right _ (List.mem_append_right _ (List.mem_append_left _ h)))))))), hg⟩
theorem gj_cn9 {w : Cond} (h : w ∈ tables_1_9) (hg : gj_isN w = true) : w ∈ gj_tn := List.mem_filter.mpr ⟨List.mem_append_right _ (List.mem_append_right _ (List.mem_append_right _ (List.mem_append_right _ (List.mem_append_right _ (List.mem_append_right _ (List.mem_append_right _ (List.mem_append_right _ (List.mem_append_right _ (h))))))))), hg⟩
def gj_ev : List (Nat × Nat × Nat) := [(1, 0, 2), (0, 0, 1), (4, 0, 5), (4, 1, 6), (4, 2, 7), (4, 3, 8), (4, 4, 9), (4, 5, 10), (4, 6, 11), (3, 0, 4), (3, 1, 12), (3, 2, 13), (3, 3, 14), (3, 4, 15), (0, 1, 3), (17, 0, 18), (17, 1, 19), (17, 2, 20), (17, 3, 21), (17, 4, 22), (17, 5, 23), (17, 6, 24), (16, 0, 17), (16, 1, 25), (16, 2, 26), (16, 3, 27), (16, 4, 28), (0, 2, 16), (29, 0, 30), (29, 1, 31), (29, 2, 32), (29, 3, 33), (29, 4, 34), (29, 5, 35), (29, 6, 36), (0, 3, 29), (37, 0, 38), (37, 1, 39), (37, 2, 40), (0, 4, 37), (0, 5, 41), (42, 0, 43), (42, 1, 44), (42, 2, 45), (42, 3, 46), (42, 4, 47), (42, 5, 48), (42, 6, 49), (42, 7, 50), (42, 8, 51), (0, 6, 42), (52, 0, 53), (52, 1, 54), (0, 7, 52), (55, 0, 56), (55, 1, 57), (55, 2, 58), (55, 3, 59), (55, 4, 60), (0, 8, 55), (61, 0, 62), (61, 1, 63), (61, 2, 64), (0, 9, 61), (66, 0, 67), (66, 1, 68), (66, 2, 69), (66, 3, 70), (66, 4, 71), (66, 5, 72), (66, 6, 73), (66, 7, 74), (66, 8, 75), (65, 0, 66), (76, 0, 77), (76, 1, 78), (65, 1, 76), (65, 2, 79), (65, 3, 80), (0, 10, 65), (81, 0, 82), (81, 1, 83), (81, 2, 84), (81, 4, 85), (81, 5, 86), (81, 6, 87), (81, 7, 88), (81, 12, 89), (81, 18, 90), (81, 20, 91), (81, 25, 92), (81, 26, 93), (81, 27, 94), (81, 28, 95), (81, 32, 96), (81, 34, 97), (81, 35, 98), (81, 36, 99), (81, 45, 100), (81, 46, 101), (81, 47, 102)]
def gj_Rq (t : Nat) : Nat → Nat → Option Nat := (gj_ev.take t).foldl gj_up (fun _ _ => none)
theorem gj_Rq_s {t : Nat} {v : Nat × Nat × Nat} (h : gj_ev[t]? = some v) : gj_Rq (t + 1) = gj_up (gj_Rq t) v := by
  unfold gj_Rq
  rw [List.take_succ, h, List.foldl_append]; rfl
theorem gj_Rq_1 {t o k v : Nat} (h : gj_ev[t]? = some (o, k, v)) : gj_Rq (t + 1) o k = some v := by rw [gj_Rq_s h]; exact gj_up_s (v := (o, k, v))
theorem gj_Rq_2 {t o k v : Nat} (h : gj_ev[t]? = some (o, k, v)) (a b : Nat) (hn : ¬ (a = o ∧ b = k)) : gj_Rq (t + 1) a b = gj_Rq t a b := by rw [gj_Rq_s h]; exact gj_up_n (v := (o, k, v)) hn
def mc_0 : gj_M := (yX0_init, cX0_init, 1, none, 1, 12, [(0, .aload_n 0, 1, 0), (1, .invokespecial 3, 3, 99), (4, .aload_n 0, 1, 0), (5, .bipush 14, 2, 0), (7, .newarray .long, 2, 2), (9, .putfield 9, 3, 0), (12, .aload_n 0, 1, 0), (13, .bipush 14, 2, 0), (15, .newarray .long, 2, 2), (17, .putfield 15, 3, 1), (20, .aload_n 0, 1, 0), (21, .bipush 14, 2, 0), (23, .newarray .long, 2, 2), (25, .putfield 18, 3, 2), (28, .aload_n 0, 1, 0), (29, .bipush 14, 2, 0), (31, .newarray .int, 2, 0), (33, .putfield 21, 3, 3), (36, .aload_n 0, 1, 0), (37, .bipush 91, 2, 0), (39, .newarray .long, 2, 2), (41, .putfield 25, 3, 4), (44, .aload_n 0, 1, 0), (45, .bipush 91, 2, 0), (47, .newarray .long, 2, 2), (49, .putfield 28, 3, 5), (52, .aload_n 0, 1, 0), (53, .bipush 91, 2, 0), (55, .newarray .long, 2, 2), (57, .putfield 31, 3, 6), (60, .aload_n 0, 1, 0), (61, .bipush 91, 2, 0), (63, .newarray .int, 2, 0), (65, .putfield 34, 3, 7), (68, .aload_n 0, 1, 0), (69, .bipush 91, 2, 0), (71, .newarray .int, 2, 0), (73, .putfield 37, 3, 8), (76, .aload_n 0, 1, 0), (77, .iconst 0, 1, 0), (78, .putfield 40, 3, 9), (81, .return_, 1, 0)])
set_option maxRecDepth 100000 in
theorem ck_0 : gj_ckc 0 mc_0 = true := by decide +kernel
def mc_1 : gj_M := (yX1_init, cX1_init, 1, none, 1, 12, [(0, .aload_n 0, 1, 0), (1, .invokespecial 1, 3, 99), (4, .aload_n 0, 1, 0), (5, .lconst 0, 1, 0), (6, .putfield 7, 3, 100), (9, .aload_n 0, 1, 0), (10, .lconst 1, 1, 0), (11, .putfield 13, 3, 101), (14, .return_, 1, 0)])
set_option maxRecDepth 100000 in
theorem ck_1 : gj_ckc 1 mc_1 = true := by decide +kernel
def mc_2 : gj_M := (yX2_init, cX2_init, 1, none, 2, 32, [(0, .aload_n 0, 1, 0), (1, .invokespecial 3, 3, 99), (4, .aload_n 0, 1, 0), (5, .new 9, 3, 1), (8, .dup, 1, 0), (9, .invokespecial 11, 3, 1), (12, .putfield 12, 3, 200), (15, .aload_n 0, 1, 0), (16, .new 9, 3, 1), (19, .dup, 1, 0), (20, .invokespecial 11, 3, 1), (23, .putfield 18, 3, 201), (26, .aload_n 0, 1, 0), (27, .iconst 3, 1, 0), (28, .newarray .int, 2, 0), (30, .putfield 21, 3, 202), (33, .aload_n 0, 1, 0), (34, .iconst 3, 1, 0), (35, .newarray .long, 2, 2), (37, .putfield 25, 3, 203), (40, .aload_n 0, 1, 0), (41, .bipush 91, 2, 0), (43, .newarray .long, 2, 2), (45, .putfield 29, 3, 204), (48, .aload_n 0, 1, 0), (49, .iconst 0, 1, 0), (50, .putfield 32, 3, 205), (53, .aload_n 0, 1, 0), (54, .lconst 1, 1, 0), (55, .putfield 36, 3, 206), (58, .aload_n 0, 1, 0), (59, .lconst 0, 1, 0), (60, .putfield 40, 3, 207), (63, .aload_n 0, 1, 0), (64, .iconst 0, 1, 0), (65, .putfield 43, 3, 208), (68, .aload_n 0, 1, 0), (69, .lconst 0, 1, 0), (70, .putfield 47, 3, 209), (73, .aload_n 0, 1, 0), (74, .lconst 0, 1, 0), (75, .putfield 50, 3, 210), (78, .aload_n 0, 1, 0), (79, .lconst 0, 1, 0), (80, .putfield 53, 3, 211), (83, .return_, 1, 0)])
set_option maxRecDepth 100000 in
theorem ck_2 : gj_ckc 2 mc_2 = true := by decide +kernel
def mc_3 : gj_M := (yX3_init, cX3_init, 1, none, 1, 12, [(0, .aload_n 0, 1, 0), (1, .invokespecial 3, 3, 99), (4, .aload_n 0, 1, 0), (5, .bipush 12, 2, 0), (7, .newarray .int, 2, 0), (9, .putfield 9, 3, 300), (12, .aload_n 0, 1, 0), (13, .bipush 12, 2, 0), (15, .newarray .int, 2, 0), (17, .putfield 15, 3, 301), (20, .aload_n 0, 1, 0), (21, .bipush 12, 2, 0), (23, .newarray .int, 2, 0), (25, .putfield 18, 3, 302), (28, .aload_n 0, 1, 0), (29, .iconst 0, 1, 0), (30, .putfield 21, 3, 303), (33, .return_, 1, 0)])
set_option maxRecDepth 100000 in
theorem ck_3 : gj_ckc 3 mc_3 = true := by decide +kernel
def mc_4 : gj_M := (yX4_init, cX4_init, 1, none, 3, 95, [(0, .aload_n 0, 1, 0), (1, .invokespecial 3, 3, 99), (4, .aload_n 0, 1, 0), (5, .bipush 8, 2, 0), (7, .newarray .int, 2, 0), (9, .putfield 9, 3, 400), (12, .aload_n 0, 1, 0), (13, .bipush 8, 2, 0), (15, .newarray .int, 2, 0), (17, .putfield 15, 3, 401), (20, .aload_n 0, 1, 0), (21, .bipush 8, 2, 0), (23, .newarray .int, 2, 0), (25, .putfield 18, 3, 402), (28, .aload_n 0, 1, 0), (29, .bipush 8, 2, 0), (31, .newarray .int, 2, 0), (33, .putfield 21, 3, 403), (36, .aload_n 0, 1, 0), (37, .bipush 8, 2, 0), (39, .newarray .int, 2, 0), (41, .putfield 24, 3, 404), (44, .aload_n 0, 1, 0), (45, .bipush 72, 2, 0), (47, .newarray .int, 2, 0), (49, .putfield 27, 3, 405), (52, .aload_n 0, 1, 0), (53, .bipush 72, 2, 0), (55, .newarray .int, 2, 0), (57, .putfield 30, 3, 406), (60, .aload_n 0, 1, 0), (61, .iconst 4, 1, 0), (62, .putfield 33, 3, 407), (65, .aload_n 0, 1, 0), (66, .iconst 0, 1, 0), (67, .putfield 37, 3, 408), (70, .aload_n 0, 1, 0), (71, .getfield 9, 3, 400), (74, .iconst 1, 1, 0), (75, .iconst 4, 1, 0), (76, .iastore, 1, 0), (77, .aload_n 0, 1, 0), (78, .getfield 9, 3, 400), (81, .iconst 2, 1, 0), (82, .iconst 4, 1, 0), (83, .iastore, 1, 0), (84, .aload_n 0, 1, 0), (85, .getfield 15, 3, 401), (88, .iconst 2, 1, 0), (89, .iconst 4, 1, 0), (90, .iastore, 1, 0), (91, .aload_n 0, 1, 0), (92, .getfield 15, 3, 401), (95, .iconst 3, 1, 0), (96, .iconst 4, 1, 0), (97, .iastore, 1, 0), (98, .aload_n 0, 1, 0), (99, .invokevirtual 40, 3, 402801), (102, .return_, 1, 0)])
set_option maxRecDepth 100000 in
theorem ck_4 : gj_ckc 4 mc_4 = true := by decide +kernel
def mc_5 : gj_M := (yX5_init, cX5_init, 1, none, 1, 12, [(0, .aload_n 0, 1, 0), (1, .invokespecial 3, 3, 99), (4, .aload_n 0, 1, 0), (5, .bipush 14, 2, 0), (7, .newarray .long, 2, 2), (9, .putfield 9, 3, 500), (12, .aload_n 0, 1, 0), (13, .bipush 14, 2, 0), (15, .newarray .long, 2, 2), (17, .putfield 15, 3, 501), (20, .aload_n 0, 1, 0), (21, .bipush 14, 2, 0), (23, .newarray .long, 2, 2), (25, .putfield 18, 3, 502), (28, .aload_n 0, 1, 0), (29, .iconst 0, 1, 0), (30, .putfield 21, 3, 503), (33, .aload_n 0, 1, 0), (34, .lconst 0, 1, 0), (35, .putfield 25, 3, 504), (38, .aload_n 0, 1, 0), (39, .lconst 0, 1, 0), (40, .putfield 29, 3, 505), (43, .aload_n 0, 1, 0), (44, .lconst 0, 1, 0), (45, .putfield 32, 3, 506), (48, .aload_n 0, 1, 0), (49, .lconst 0, 1, 0), (50, .putfield 35, 3, 507), (53, .aload_n 0, 1, 0), (54, .lconst 0, 1, 0), (55, .putfield 38, 3, 508), (58, .aload_n 0, 1, 0), (59, .lconst 0, 1, 0), (60, .putfield 41, 3, 509), (63, .return_, 1, 0)])
set_option maxRecDepth 100000 in
theorem ck_5 : gj_ckc 5 mc_5 = true := by decide +kernel
def mc_6 : gj_M := (yX6_init, cX6_init, 1, none, 2, 32, [(0, .aload_n 0, 1, 0), (1, .invokespecial 3, 3, 99), (4, .aload_n 0, 1, 0), (5, .new 9, 3, 1), (8, .dup, 1, 0), (9, .invokespecial 11, 3, 1), (12, .putfield 12, 3, 600), (15, .aload_n 0, 1, 0), (16, .bipush 24, 2, 0), (18, .newarray .int, 2, 0), (20, .putfield 18, 3, 601), (23, .aload_n 0, 1, 0), (24, .iconst 0, 1, 0), (25, .putfield 22, 3, 602), (28, .aload_n 0, 1, 0), (29, .lconst 0, 1, 0), (30, .putfield 26, 3, 603), (33, .aload_n 0, 1, 0), (34, .lconst 0, 1, 0), (35, .putfield 30, 3, 604), (38, .aload_n 0, 1, 0), (39, .lconst 0, 1, 0), (40, .putfield 33, 3, 605), (43, .aload_n 0, 1, 0), (44, .lconst 0, 1, 0), (45, .putfield 36, 3, 606), (48, .aload_n 0, 1, 0), (49, .lconst 0, 1, 0), (50, .putfield 39, 3, 607), (53, .aload_n 0, 1, 0), (54, .lconst 0, 1, 0), (55, .putfield 42, 3, 608), (58, .aload_n 0, 1, 0), (59, .lconst 0, 1, 0), (60, .putfield 45, 3, 609), (63, .aload_n 0, 1, 0), (64, .lconst 0, 1, 0), (65, .putfield 48, 3, 610), (68, .aload_n 0, 1, 0), (69, .lconst 0, 1, 0), (70, .putfield 51, 3, 611), (73, .aload_n 0, 1, 0), (74, .lconst 0, 1, 0), (75, .putfield 54, 3, 612), (78, .return_, 1, 0)])
set_option maxRecDepth 100000 in
theorem ck_6 : gj_ckc 6 mc_6 = true := by decide +kernel
def mc_7 : gj_M := (yX7_init, cX7_init, 1, none, 4, 115, [(0, .aload_n 0, 1, 0), (1, .invokespecial 3, 3, 99), (4, .aload_n 0, 1, 0), (5, .new 9, 3, 4), (8, .dup, 1, 0), (9, .invokespecial 11, 3, 4), (12, .putfield 12, 3, 700), (15, .aload_n 0, 1, 0), (16, .bipush 6, 2, 0), (18, .newarray .int, 2, 0), (20, .putfield 18, 3, 701), (23, .aload_n 0, 1, 0), (24, .bipush 6, 2, 0), (26, .newarray .int, 2, 0), (28, .putfield 22, 3, 702), (31, .aload_n 0, 1, 0), (32, .bipush 80, 2, 0), (34, .newarray .int, 2, 0), (36, .putfield 25, 3, 703), (39, .aload_n 0, 1, 0), (40, .bipush 18, 2, 0), (42, .newarray .int, 2, 0), (44, .putfield 28, 3, 704), (47, .aload_n 0, 1, 0), (48, .iconst 0, 1, 0), (49, .putfield 31, 3, 705), (52, .aload_n 0, 1, 0), (53, .iconst 1, 1, 0), (54, .putfield 35, 3, 706), (57, .aload_n 0, 1, 0), (58, .iconst 1, 1, 0), (59, .putfield 38, 3, 707), (62, .aload_n 0, 1, 0), (63, .iconst 2, 1, 0), (64, .putfield 41, 3, 708), (67, .aload_n 0, 1, 0), (68, .iconst 2, 1, 0), (69, .putfield 44, 3, 709), (72, .aload_n 0, 1, 0), (73, .iconst 1, 1, 0), (74, .putfield 47, 3, 710), (77, .aload_n 0, 1, 0), (78, .iconst 0, 1, 0), (79, .putfield 50, 3, 711), (82, .aload_n 0, 1, 0), (83, .iconst 0, 1, 0), (84, .putfield 53, 3, 712), (87, .return_, 1, 0)])
set_option maxRecDepth 100000 in
theorem ck_7 : gj_ckc 7 mc_7 = true := by decide +kernel
def mc_8 : gj_M := (yX8_init, cX8_init, 1, none, 1, 12, [(0, .aload_n 0, 1, 0), (1, .invokespecial 3, 3, 99), (4, .aload_n 0, 1, 0), (5, .sipush 240, 3, 0), (8, .newarray .int, 2, 0), (10, .putfield 9, 3, 800), (13, .aload_n 0, 1, 0), (14, .iconst 0, 1, 0), (15, .putfield 15, 3, 801), (18, .aload_n 0, 1, 0), (19, .iconst 0, 1, 0), (20, .putfield 19, 3, 802), (23, .aload_n 0, 1, 0), (24, .iconst 0, 1, 0), (25, .putfield 22, 3, 803), (28, .return_, 1, 0)])
set_option maxRecDepth 100000 in
theorem ck_8 : gj_ckc 8 mc_8 = true := by decide +kernel
def mc_9 : gj_M := (yX9_init, cX9_init, 1, none, 3, 52, [(0, .aload_n 0, 1, 0), (1, .invokespecial 3, 3, 99), (4, .aload_n 0, 1, 0), (5, .new 9, 3, 0), (8, .dup, 1, 0), (9, .invokespecial 11, 3, 0), (12, .putfield 12, 3, 900), (15, .aload_n 0, 1, 0), (16, .new 18, 3, 6), (19, .dup, 1, 0), (20, .invokespecial 20, 3, 6), (23, .putfield 21, 3, 901), (26, .aload_n 0, 1, 0), (27, .new 25, 3, 1), (30, .dup, 1, 0), (31, .invokespecial 27, 3, 1), (34, .putfield 28, 3, 902), (37, .aload_n 0, 1, 0), (38, .new 25, 3, 1), (41, .dup, 1, 0), (42, .invokespecial 27, 3, 1), (45, .putfield 32, 3, 903), (48, .aload_n 0, 1, 0), (49, .iconst 0, 1, 0), (50, .putfield 35, 3, 904), (53, .aload_n 0, 1, 0), (54, .iconst 0, 1, 0), (55, .putfield 39, 3, 905), (58, .aload_n 0, 1, 0), (59, .iconst (-1), 1, 0), (60, .putfield 42, 3, 906), (63, .aload_n 0, 1, 0), (64, .iconst 0, 1, 0), (65, .putfield 46, 3, 907), (68, .aload_n 0, 1, 0), (69, .iconst (-1), 1, 0), (70, .putfield 49, 3, 908), (73, .aload_n 0, 1, 0), (74, .iconst (-1), 1, 0), (75, .putfield 52, 3, 909), (78, .return_, 1, 0)])
set_option maxRecDepth 100000 in
theorem ck_9 : gj_ckc 9 mc_9 = true := by decide +kernel
def mc_10 : gj_M := (yX10_init, cX10_init, 1, none, 5, 135, [(0, .aload_n 0, 1, 0), (1, .invokespecial 1, 3, 99), (4, .aload_n 0, 1, 0), (5, .new 7, 3, 8), (8, .dup, 1, 0), (9, .invokespecial 9, 3, 8), (12, .putfield 10, 3, 1000), (15, .aload_n 0, 1, 0), (16, .new 16, 3, 7), (19, .dup, 1, 0), (20, .invokespecial 18, 3, 7), (23, .putfield 19, 3, 1001), (26, .aload_n 0, 1, 0), (27, .new 16, 3, 7), (30, .dup, 1, 0), (31, .invokespecial 18, 3, 7), (34, .putfield 23, 3, 1002), (37, .aload_n 0, 1, 0), (38, .new 26, 3, 4), (41, .dup, 1, 0), (42, .invokespecial 28, 3, 4), (45, .putfield 29, 3, 1003), (48, .aload_n 0, 1, 0), (49, .new 33, 3, 3), (52, .dup, 1, 0), (53, .invokespecial 35, 3, 3), (56, .putfield 36, 3, 1004), (59, .aload_n 0, 1, 0), (60, .bipush 18, 2, 0), (62, .newarray .int, 2, 0), (64, .putfield 40, 3, 1005), (67, .aload_n 0, 1, 0), (68, .new 44, 3, 0), (71, .dup, 1, 0), (72, .invokespecial 46, 3, 0), (75, .putfield 47, 3, 1006), (78, .aload_n 0, 1, 0), (79, .new 51, 3, 6), (82, .dup, 1, 0), (83, .invokespecial 53, 3, 6), (86, .putfield 54, 3, 1007), (89, .aload_n 0, 1, 0), (90, .new 58, 3, 2), (93, .dup, 1, 0), (94, .invokespecial 60, 3, 2), (97, .putfield 61, 3, 1008), (100, .aload_n 0, 1, 0), (101, .new 65, 3, 5), (104, .dup, 1, 0), (105, .invokespecial 67, 3, 5), (108, .putfield 68, 3, 1009), (111, .aload_n 0, 1, 0), (112, .new 72, 3, 9), (115, .dup, 1, 0), (116, .invokespecial 74, 3, 9), (119, .putfield 75, 3, 1010), (122, .aload_n 0, 1, 0), (123, .iconst 0, 1, 0), (124, .putfield 79, 3, 1011), (127, .aload_n 0, 1, 0), (128, .iconst 0, 1, 0), (129, .putfield 83, 3, 1012), (132, .aload_n 0, 1, 0), (133, .iconst 0, 1, 0), (134, .putfield 87, 3, 1013), (137, .return_, 1, 0)])
set_option maxRecDepth 100000 in
theorem ck_10 : gj_ckc 10 mc_10 = true := by decide +kernel
def mc_11 : gj_M := (yX11_init, cX11_init, 1, none, 1, 12, [(0, .aload_n 0, 1, 0), (1, .invokespecial 1, 3, 99), (4, .aload_n 0, 1, 0), (5, .sipush 135, 3, 0), (8, .newarray .int, 2, 0), (10, .putfield 7, 3, 1100), (13, .aload_n 0, 1, 0), (14, .sipush 135, 3, 0), (17, .newarray .int, 2, 0), (19, .putfield 13, 3, 1101), (22, .aload_n 0, 1, 0), (23, .sipush 135, 3, 0), (26, .newarray .int, 2, 0), (28, .putfield 16, 3, 1102), (31, .aload_n 0, 1, 0), (32, .bipush 16, 2, 0), (34, .newarray .long, 2, 2), (36, .putfield 19, 3, 1104), (39, .aload_n 0, 1, 0), (40, .bipush 16, 2, 0), (42, .newarray .long, 2, 2), (44, .putfield 23, 3, 1105), (47, .aload_n 0, 1, 0), (48, .bipush 16, 2, 0), (50, .newarray .long, 2, 2), (52, .putfield 26, 3, 1106), (55, .aload_n 0, 1, 0), (56, .bipush 16, 2, 0), (58, .newarray .int, 2, 0), (60, .putfield 29, 3, 1107), (63, .aload_n 0, 1, 0), (64, .sipush 240, 3, 0), (67, .newarray .byte, 2, 1), (69, .putfield 32, 3, 1112), (72, .aload_n 0, 1, 0), (73, .bipush 40, 2, 0), (75, .newarray .int, 2, 0), (77, .putfield 36, 3, 1118), (80, .aload_n 0, 1, 0), (81, .bipush 12, 2, 0), (83, .newarray .long, 2, 2), (85, .putfield 39, 3, 1120), (88, .aload_n 0, 1, 0), (89, .iconst 3, 1, 0), (90, .newarray .long, 2, 2), (92, .putfield 42, 3, 1125), (95, .aload_n 0, 1, 0), (96, .iconst 3, 1, 0), (97, .newarray .int, 2, 0), (99, .putfield 45, 3, 1126), (102, .aload_n 0, 1, 0), (103, .iconst 3, 1, 0), (104, .newarray .int, 2, 0), (106, .putfield 48, 3, 1127), (109, .aload_n 0, 1, 0), (110, .iconst 3, 1, 0), (111, .newarray .long, 2, 2), (113, .putfield 51, 3, 1128), (116, .aload_n 0, 1, 0), (117, .iconst 3, 1, 0), (118, .newarray .long, 2, 2), (120, .putfield 54, 3, 1132), (123, .aload_n 0, 1, 0), (124, .bipush 70, 2, 0), (126, .newarray .long, 2, 2), (128, .putfield 57, 3, 1134), (131, .aload_n 0, 1, 0), (132, .bipush 70, 2, 0), (134, .newarray .long, 2, 2), (136, .putfield 60, 3, 1135), (139, .aload_n 0, 1, 0), (140, .bipush 70, 2, 0), (142, .newarray .long, 2, 2), (144, .putfield 63, 3, 1136), (147, .aload_n 0, 1, 0), (148, .sipush 400, 3, 0), (151, .newarray .long, 2, 2), (153, .putfield 66, 3, 1145), (156, .aload_n 0, 1, 0), (157, .sipush 400, 3, 0), (160, .newarray .long, 2, 2), (162, .putfield 69, 3, 1146), (165, .aload_n 0, 1, 0), (166, .sipush 400, 3, 0), (169, .newarray .long, 2, 2), (171, .putfield 72, 3, 1147), (174, .aload_n 0, 1, 0), (175, .getfield 7, 3, 1100), (178, .iconst 0, 1, 0), (179, .iconst 4, 1, 0), (180, .iastore, 1, 0), (181, .aload_n 0, 1, 0), (182, .getfield 7, 3, 1100), (185, .iconst 2, 1, 0), (186, .iconst 4, 1, 0), (187, .iastore, 1, 0), (188, .aload_n 0, 1, 0), (189, .getfield 7, 3, 1100), (192, .iconst 3, 1, 0), (193, .iconst 4, 1, 0), (194, .iastore, 1, 0), (195, .aload_n 0, 1, 0), (196, .getfield 7, 3, 1100), (199, .bipush 11, 2, 0), (201, .iconst 4, 1, 0), (202, .iastore, 1, 0), (203, .aload_n 0, 1, 0), (204, .getfield 7, 3, 1100), (207, .bipush 12, 2, 0), (209, .iconst 4, 1, 0), (210, .iastore, 1, 0), (211, .aload_n 0, 1, 0), (212, .getfield 7, 3, 1100), (215, .bipush 30, 2, 0), (217, .iconst 1, 1, 0), (218, .iastore, 1, 0), (219, .aload_n 0, 1, 0), (220, .getfield 7, 3, 1100), (223, .bipush 31, 2, 0), (225, .iconst 1, 1, 0), (226, .iastore, 1, 0), (227, .aload_n 0, 1, 0), (228, .getfield 7, 3, 1100), (231, .bipush 32, 2, 0), (233, .iconst 2, 1, 0), (234, .iastore, 1, 0), (235, .aload_n 0, 1, 0), (236, .getfield 7, 3, 1100), (239, .bipush 33, 2, 0), (241, .iconst 2, 1, 0), (242, .iastore, 1, 0), (243, .aload_n 0, 1, 0), (244, .getfield 7, 3, 1100), (247, .bipush 34, 2, 0), (249, .iconst 1, 1, 0), (250, .iastore, 1, 0), (251, .return_, 1, 0)])
set_option maxRecDepth 100000 in
theorem ck_11 : gj_ckc 11 mc_11 = true := by decide +kernel
set_option maxRecDepth 100000 in
theorem wobI : Cond.instanceMethod Lib.objectInit ∈ gj_tb := gj_ch1 (List.mem_of_getElem? (i := 27) rfl) rfl
set_option maxRecDepth 100000 in
theorem wobC : Cond.code Lib.objectInit ⟨#[0xb1]⟩ 1 none ∈ gj_tb := gj_ch1 (List.mem_of_getElem? (i := 28) rfl) rfl
set_option maxRecDepth 100000 in
theorem war_int : Cond.arrayClass .int ∈ gj_tb := gj_ch1 (List.mem_of_getElem? (i := 51) rfl) rfl
set_option maxRecDepth 100000 in
theorem war_byte : Cond.arrayClass .byte ∈ gj_tb := gj_ch4 (List.mem_of_getElem? (i := 90) rfl) rfl
set_option maxRecDepth 100000 in
theorem war_long : Cond.arrayClass .long ∈ gj_tb := gj_ch2 (List.mem_of_getElem? (i := 27) rfl) rfl
set_option maxRecDepth 100000 in
theorem wob_X0 : Cond.methodLink RX0 3 Lib.objectInit ∈ gj_tb := gj_ch1 (List.mem_of_getElem? (i := 208) rfl) rfl
set_option maxRecDepth 100000 in
theorem wob_X1 : Cond.methodLink RX1 1 Lib.objectInit ∈ gj_tb := gj_ch2 (List.mem_of_getElem? (i := 39) rfl) rfl
set_option maxRecDepth 100000 in
theorem wob_X2 : Cond.methodLink RX2 3 Lib.objectInit ∈ gj_tb := gj_ch2 (List.mem_of_getElem? (i := 103) rfl) rfl
set_option maxRecDepth 100000 in
theorem wcl_X2_9 : Cond.classLink RX2 9 RX1 ∈ gj_tb := gj_ch2 (List.mem_of_getElem? (i := 104) rfl) rfl
set_option maxRecDepth 100000 in
theorem win_1 : Cond.instantiable RX1 2 ∈ gj_tb := gj_ch2 (List.mem_of_getElem? (i := 35) rfl) rfl
set_option maxRecDepth 100000 in
theorem wii_1 : Cond.initialized RX1 ∈ gj_tb := gj_ch1 (List.mem_of_getElem? (i := 8) rfl) rfl
set_option maxRecDepth 100000 in
theorem wml_X2_11 : Cond.methodLinkNest RX2 11 yX1_init "GraspJudge" ∈ gj_tn := gj_cn2 (List.mem_of_getElem? (i := 105) rfl) rfl
set_option maxRecDepth 100000 in
theorem wim_1 : Cond.instanceMethod yX1_init ∈ gj_tb := gj_ch2 (List.mem_of_getElem? (i := 37) rfl) rfl
set_option maxRecDepth 100000 in
theorem wcd_1 : Cond.code yX1_init cX1_init 1 none ∈ gj_tb := gj_ch2 (List.mem_of_getElem? (i := 38) rfl) rfl
set_option maxRecDepth 100000 in
theorem wob_X3 : Cond.methodLink RX3 3 Lib.objectInit ∈ gj_tb := gj_ch1 (List.mem_of_getElem? (i := 185) rfl) rfl
set_option maxRecDepth 100000 in
theorem wob_X4 : Cond.methodLink RX4 3 Lib.objectInit ∈ gj_tb := gj_ch1 (List.mem_of_getElem? (i := 63) rfl) rfl
set_option maxRecDepth 100000 in
theorem wob_X5 : Cond.methodLink RX5 3 Lib.objectInit ∈ gj_tb := gj_ch2 (List.mem_of_getElem? (i := 154) rfl) rfl
set_option maxRecDepth 100000 in
theorem wob_X6 : Cond.methodLink RX6 3 Lib.objectInit ∈ gj_tb := gj_ch2 (List.mem_of_getElem? (i := 33) rfl) rfl
set_option maxRecDepth 100000 in
theorem wcl_X6_9 : Cond.classLink RX6 9 RX1 ∈ gj_tb := gj_ch2 (List.mem_of_getElem? (i := 34) rfl) rfl
set_option maxRecDepth 100000 in
theorem wml_X6_11 : Cond.methodLinkNest RX6 11 yX1_init "GraspJudge" ∈ gj_tn := gj_cn2 (List.mem_of_getElem? (i := 36) rfl) rfl
set_option maxRecDepth 100000 in
theorem wob_X7 : Cond.methodLink RX7 3 Lib.objectInit ∈ gj_tb := gj_ch1 (List.mem_of_getElem? (i := 57) rfl) rfl
set_option maxRecDepth 100000 in
theorem wcl_X7_9 : Cond.classLink RX7 9 RX4 ∈ gj_tb := gj_ch1 (List.mem_of_getElem? (i := 58) rfl) rfl
set_option maxRecDepth 100000 in
theorem win_4 : Cond.instantiable RX4 9 ∈ gj_tb := gj_ch1 (List.mem_of_getElem? (i := 59) rfl) rfl
set_option maxRecDepth 100000 in
theorem wii_4 : Cond.initialized RX4 ∈ gj_tb := gj_ch1 (List.mem_of_getElem? (i := 4) rfl) rfl
set_option maxRecDepth 100000 in
theorem wml_X7_11 : Cond.methodLink RX7 11 yX4_init ∈ gj_tb := gj_ch1 (List.mem_of_getElem? (i := 60) rfl) rfl
set_option maxRecDepth 100000 in
theorem wim_4 : Cond.instanceMethod yX4_init ∈ gj_tb := gj_ch1 (List.mem_of_getElem? (i := 61) rfl) rfl
set_option maxRecDepth 100000 in
theorem wcd_4 : Cond.code yX4_init cX4_init 1 none ∈ gj_tb := gj_ch1 (List.mem_of_getElem? (i := 62) rfl) rfl
set_option maxRecDepth 100000 in
theorem wob_X8 : Cond.methodLink RX8 3 Lib.objectInit ∈ gj_tb := gj_ch1 (List.mem_of_getElem? (i := 34) rfl) rfl
set_option maxRecDepth 100000 in
theorem wob_X9 : Cond.methodLink RX9 3 Lib.objectInit ∈ gj_tb := gj_ch2 (List.mem_of_getElem? (i := 198) rfl) rfl
set_option maxRecDepth 100000 in
theorem wcl_X9_9 : Cond.classLink RX9 9 RX0 ∈ gj_tb := gj_ch2 (List.mem_of_getElem? (i := 199) rfl) rfl
set_option maxRecDepth 100000 in
theorem win_0 : Cond.instantiable RX0 10 ∈ gj_tb := gj_ch1 (List.mem_of_getElem? (i := 204) rfl) rfl
set_option maxRecDepth 100000 in
theorem wii_0 : Cond.initialized RX0 ∈ gj_tb := gj_ch1 (List.mem_of_getElem? (i := 6) rfl) rfl
set_option maxRecDepth 100000 in
theorem wml_X9_11 : Cond.methodLinkNest RX9 11 yX0_init "GraspJudge" ∈ gj_tn := gj_cn2 (List.mem_of_getElem? (i := 200) rfl) rfl
set_option maxRecDepth 100000 in
theorem wim_0 : Cond.instanceMethod yX0_init ∈ gj_tb := gj_ch1 (List.mem_of_getElem? (i := 206) rfl) rfl
set_option maxRecDepth 100000 in
theorem wcd_0 : Cond.code yX0_init cX0_init 1 none ∈ gj_tb := gj_ch1 (List.mem_of_getElem? (i := 207) rfl) rfl
set_option maxRecDepth 100000 in
theorem wcl_X9_18 : Cond.classLink RX9 18 RX6 ∈ gj_tb := gj_ch2 (List.mem_of_getElem? (i := 201) rfl) rfl
set_option maxRecDepth 100000 in
theorem win_6 : Cond.instantiable RX6 13 ∈ gj_tb := gj_ch2 (List.mem_of_getElem? (i := 29) rfl) rfl
set_option maxRecDepth 100000 in
theorem wii_6 : Cond.initialized RX6 ∈ gj_tb := gj_ch1 (List.mem_of_getElem? (i := 7) rfl) rfl
set_option maxRecDepth 100000 in
theorem wml_X9_20 : Cond.methodLinkNest RX9 20 yX6_init "GraspJudge" ∈ gj_tn := gj_cn2 (List.mem_of_getElem? (i := 202) rfl) rfl
set_option maxRecDepth 100000 in
theorem wim_6 : Cond.instanceMethod yX6_init ∈ gj_tb := gj_ch2 (List.mem_of_getElem? (i := 31) rfl) rfl
set_option maxRecDepth 100000 in
theorem wcd_6 : Cond.code yX6_init cX6_init 1 none ∈ gj_tb := gj_ch2 (List.mem_of_getElem? (i := 32) rfl) rfl
set_option maxRecDepth 100000 in
theorem wcl_X9_25 : Cond.classLink RX9 25 RX1 ∈ gj_tb := gj_ch2 (List.mem_of_getElem? (i := 203) rfl) rfl
set_option maxRecDepth 100000 in
theorem wml_X9_27 : Cond.methodLinkNest RX9 27 yX1_init "GraspJudge" ∈ gj_tn := gj_cn2 (List.mem_of_getElem? (i := 204) rfl) rfl
set_option maxRecDepth 100000 in
theorem wob_X10 : Cond.methodLink RX10 1 Lib.objectInit ∈ gj_tb := gj_ch1 (List.mem_of_getElem? (i := 26) rfl) rfl
set_option maxRecDepth 100000 in
theorem wcl_X10_7 : Cond.classLink RX10 7 RX8 ∈ gj_tb := gj_ch1 (List.mem_of_getElem? (i := 29) rfl) rfl
set_option maxRecDepth 100000 in
theorem win_8 : Cond.instantiable RX8 4 ∈ gj_tb := gj_ch1 (List.mem_of_getElem? (i := 30) rfl) rfl
set_option maxRecDepth 100000 in
theorem wii_8 : Cond.initialized RX8 ∈ gj_tb := gj_ch1 (List.mem_of_getElem? (i := 2) rfl) rfl
set_option maxRecDepth 100000 in
theorem wml_X10_9 : Cond.methodLinkNest RX10 9 yX8_init "GraspJudge" ∈ gj_tn := gj_cn1 (List.mem_of_getElem? (i := 31) rfl) rfl
set_option maxRecDepth 100000 in
theorem wim_8 : Cond.instanceMethod yX8_init ∈ gj_tb := gj_ch1 (List.mem_of_getElem? (i := 32) rfl) rfl
set_option maxRecDepth 100000 in
theorem wcd_8 : Cond.code yX8_init cX8_init 1 none ∈ gj_tb := gj_ch1 (List.mem_of_getElem? (i := 33) rfl) rfl
set_option maxRecDepth 100000 in
theorem wcl_X10_16 : Cond.classLink RX10 16 RX7 ∈ gj_tb := gj_ch1 (List.mem_of_getElem? (i := 52) rfl) rfl
set_option maxRecDepth 100000 in
theorem win_7 : Cond.instantiable RX7 13 ∈ gj_tb := gj_ch1 (List.mem_of_getElem? (i := 53) rfl) rfl
set_option maxRecDepth 100000 in
theorem wii_7 : Cond.initialized RX7 ∈ gj_tb := gj_ch1 (List.mem_of_getElem? (i := 3) rfl) rfl
set_option maxRecDepth 100000 in
theorem wml_X10_18 : Cond.methodLinkNest RX10 18 yX7_init "GraspJudge" ∈ gj_tn := gj_cn1 (List.mem_of_getElem? (i := 54) rfl) rfl
set_option maxRecDepth 100000 in
theorem wim_7 : Cond.instanceMethod yX7_init ∈ gj_tb := gj_ch1 (List.mem_of_getElem? (i := 55) rfl) rfl
set_option maxRecDepth 100000 in
theorem wcd_7 : Cond.code yX7_init cX7_init 1 none ∈ gj_tb := gj_ch1 (List.mem_of_getElem? (i := 56) rfl) rfl
set_option maxRecDepth 100000 in
theorem wcl_X10_26 : Cond.classLink RX10 26 RX4 ∈ gj_tb := gj_ch1 (List.mem_of_getElem? (i := 178) rfl) rfl
set_option maxRecDepth 100000 in
theorem wml_X10_28 : Cond.methodLink RX10 28 yX4_init ∈ gj_tb := gj_ch1 (List.mem_of_getElem? (i := 179) rfl) rfl
set_option maxRecDepth 100000 in
theorem wcl_X10_33 : Cond.classLink RX10 33 RX3 ∈ gj_tb := gj_ch1 (List.mem_of_getElem? (i := 180) rfl) rfl
set_option maxRecDepth 100000 in
theorem win_3 : Cond.instantiable RX3 4 ∈ gj_tb := gj_ch1 (List.mem_of_getElem? (i := 181) rfl) rfl
set_option maxRecDepth 100000 in
theorem wii_3 : Cond.initialized RX3 ∈ gj_tb := gj_ch1 (List.mem_of_getElem? (i := 5) rfl) rfl
set_option maxRecDepth 100000 in
theorem wml_X10_35 : Cond.methodLinkNest RX10 35 yX3_init "GraspJudge" ∈ gj_tn := gj_cn1 (List.mem_of_getElem? (i := 182) rfl) rfl
set_option maxRecDepth 100000 in
theorem wim_3 : Cond.instanceMethod yX3_init ∈ gj_tb := gj_ch1 (List.mem_of_getElem? (i := 183) rfl) rfl
set_option maxRecDepth 100000 in
theorem wcd_3 : Cond.code yX3_init cX3_init 1 none ∈ gj_tb := gj_ch1 (List.mem_of_getElem? (i := 184) rfl) rfl
set_option maxRecDepth 100000 in
theorem wcl_X10_44 : Cond.classLink RX10 44 RX0 ∈ gj_tb := gj_ch1 (List.mem_of_getElem? (i := 203) rfl) rfl
set_option maxRecDepth 100000 in
theorem wml_X10_46 : Cond.methodLinkNest RX10 46 yX0_init "GraspJudge" ∈ gj_tn := gj_cn1 (List.mem_of_getElem? (i := 205) rfl) rfl
set_option maxRecDepth 100000 in
theorem wcl_X10_51 : Cond.classLink RX10 51 RX6 ∈ gj_tb := gj_ch2 (List.mem_of_getElem? (i := 28) rfl) rfl
set_option maxRecDepth 100000 in
theorem wml_X10_53 : Cond.methodLinkNest RX10 53 yX6_init "GraspJudge" ∈ gj_tn := gj_cn2 (List.mem_of_getElem? (i := 30) rfl) rfl
set_option maxRecDepth 100000 in
theorem wcl_X10_58 : Cond.classLink RX10 58 RX2 ∈ gj_tb := gj_ch2 (List.mem_of_getElem? (i := 98) rfl) rfl
set_option maxRecDepth 100000 in
theorem win_2 : Cond.instantiable RX2 12 ∈ gj_tb := gj_ch2 (List.mem_of_getElem? (i := 99) rfl) rfl
set_option maxRecDepth 100000 in
theorem wii_2 : Cond.initialized RX2 ∈ gj_tb := gj_ch1 (List.mem_of_getElem? (i := 9) rfl) rfl
set_option maxRecDepth 100000 in
theorem wml_X10_60 : Cond.methodLinkNest RX10 60 yX2_init "GraspJudge" ∈ gj_tn := gj_cn2 (List.mem_of_getElem? (i := 100) rfl) rfl
set_option maxRecDepth 100000 in
theorem wim_2 : Cond.instanceMethod yX2_init ∈ gj_tb := gj_ch2 (List.mem_of_getElem? (i := 101) rfl) rfl
set_option maxRecDepth 100000 in
theorem wcd_2 : Cond.code yX2_init cX2_init 1 none ∈ gj_tb := gj_ch2 (List.mem_of_getElem? (i := 102) rfl) rfl
set_option maxRecDepth 100000 in
theorem wcl_X10_65 : Cond.classLink RX10 65 RX5 ∈ gj_tb := gj_ch2 (List.mem_of_getElem? (i := 149) rfl) rfl
set_option maxRecDepth 100000 in
theorem win_5 : Cond.instantiable RX5 10 ∈ gj_tb := gj_ch2 (List.mem_of_getElem? (i := 150) rfl) rfl
set_option maxRecDepth 100000 in
theorem wii_5 : Cond.initialized RX5 ∈ gj_tb := gj_ch1 (List.mem_of_getElem? (i := 10) rfl) rfl
set_option maxRecDepth 100000 in
theorem wml_X10_67 : Cond.methodLinkNest RX10 67 yX5_init "GraspJudge" ∈ gj_tn := gj_cn2 (List.mem_of_getElem? (i := 151) rfl) rfl
set_option maxRecDepth 100000 in
theorem wim_5 : Cond.instanceMethod yX5_init ∈ gj_tb := gj_ch2 (List.mem_of_getElem? (i := 152) rfl) rfl
set_option maxRecDepth 100000 in
theorem wcd_5 : Cond.code yX5_init cX5_init 1 none ∈ gj_tb := gj_ch2 (List.mem_of_getElem? (i := 153) rfl) rfl
set_option maxRecDepth 100000 in
theorem wcl_X10_72 : Cond.classLink RX10 72 RX9 ∈ gj_tb := gj_ch2 (List.mem_of_getElem? (i := 193) rfl) rfl
set_option maxRecDepth 100000 in
theorem win_9 : Cond.instantiable RX9 10 ∈ gj_tb := gj_ch2 (List.mem_of_getElem? (i := 194) rfl) rfl
set_option maxRecDepth 100000 in
theorem wii_9 : Cond.initialized RX9 ∈ gj_tb := gj_ch1 (List.mem_of_getElem? (i := 11) rfl) rfl
set_option maxRecDepth 100000 in
theorem wml_X10_74 : Cond.methodLinkNest RX10 74 yX9_init "GraspJudge" ∈ gj_tn := gj_cn2 (List.mem_of_getElem? (i := 195) rfl) rfl
set_option maxRecDepth 100000 in
theorem wim_9 : Cond.instanceMethod yX9_init ∈ gj_tb := gj_ch2 (List.mem_of_getElem? (i := 196) rfl) rfl
set_option maxRecDepth 100000 in
theorem wcd_9 : Cond.code yX9_init cX9_init 1 none ∈ gj_tb := gj_ch2 (List.mem_of_getElem? (i := 197) rfl) rfl
set_option maxRecDepth 100000 in
theorem wob_X11 : Cond.methodLink RX11 1 Lib.objectInit ∈ gj_tb := gj_ch6 (List.mem_of_getElem? (i := 76) rfl) rfl
set_option maxRecDepth 100000 in
theorem wcl_L_7 : Cond.classLink RL 7 RX10 ∈ gj_tb := gj_ch1 (List.mem_of_getElem? (i := 21) rfl) rfl
set_option maxRecDepth 100000 in
theorem win_10 : Cond.instantiable RX10 14 ∈ gj_tb := gj_ch1 (List.mem_of_getElem? (i := 22) rfl) rfl
set_option maxRecDepth 100000 in
theorem wii_10 : Cond.initialized RX10 ∈ gj_tb := gj_ch1 (List.mem_of_getElem? (i := 1) rfl) rfl
set_option maxRecDepth 100000 in
theorem wcl_L_10 : Cond.classLink RL 10 RX11 ∈ gj_tb := gj_ch6 (List.mem_of_getElem? (i := 71) rfl) rfl
set_option maxRecDepth 100000 in
theorem win_11 : Cond.instantiable RX11 49 ∈ gj_tb := gj_ch6 (List.mem_of_getElem? (i := 72) rfl) rfl
set_option maxRecDepth 100000 in
theorem wii_11 : Cond.initialized RX11 ∈ gj_tb := gj_ch1 (List.mem_of_getElem? (i := 12) rfl) rfl
set_option maxRecDepth 100000 in
theorem wml_L_9 : Cond.methodLink RL 9 yX10_init ∈ gj_tb := gj_ch1 (List.mem_of_getElem? (i := 23) rfl) rfl
set_option maxRecDepth 100000 in
theorem wim_10 : Cond.instanceMethod yX10_init ∈ gj_tb := gj_ch1 (List.mem_of_getElem? (i := 24) rfl) rfl
set_option maxRecDepth 100000 in
theorem wcd_10 : Cond.code yX10_init cX10_init 1 none ∈ gj_tb := gj_ch1 (List.mem_of_getElem? (i := 25) rfl) rfl
set_option maxRecDepth 100000 in
theorem wml_L_12 : Cond.methodLink RL 12 yX11_init ∈ gj_tb := gj_ch6 (List.mem_of_getElem? (i := 73) rfl) rfl
set_option maxRecDepth 100000 in
theorem wim_11 : Cond.instanceMethod yX11_init ∈ gj_tb := gj_ch6 (List.mem_of_getElem? (i := 74) rfl) rfl
set_option maxRecDepth 100000 in
theorem wcd_11 : Cond.code yX11_init cX11_init 1 none ∈ gj_tb := gj_ch6 (List.mem_of_getElem? (i := 75) rfl) rfl
theorem wfl_share : Cond.fieldLink RX2 18 (TX2 1).1 (TX2 1).2.1 (TX2 1).2.2.1 ∈ gj_tb := gj_ch2 (List.mem_of_getElem? (i := 108) rfl) rfl
theorem mok_2_11 : gj_mok mc_2 mc_1 11 0 := ⟨Or.inr wml_X2_11, wcd_1, wii_1, ⟨by decide, by decide, by decide +kernel⟩, by decide, by decide⟩
theorem mok_6_11 : gj_mok mc_6 mc_1 11 0 := ⟨Or.inr wml_X6_11, wcd_1, wii_1, ⟨by decide, by decide, by decide +kernel⟩, by decide, by decide⟩
theorem mok_7_11 : gj_mok mc_7 mc_4 11 0 := ⟨Or.inl wml_X7_11, wcd_4, wii_4, ⟨by decide, by decide, by decide +kernel⟩, by decide, by decide⟩
theorem mok_9_11 : gj_mok mc_9 mc_0 11 0 := ⟨Or.inr wml_X9_11, wcd_0, wii_0, ⟨by decide, by decide, by decide +kernel⟩, by decide, by decide⟩
theorem mok_9_20 : gj_mok mc_9 mc_6 20 0 := ⟨Or.inr wml_X9_20, wcd_6, wii_6, ⟨by decide, by decide, by decide +kernel⟩, by decide, by decide⟩
theorem mok_9_27 : gj_mok mc_9 mc_1 27 0 := ⟨Or.inr wml_X9_27, wcd_1, wii_1, ⟨by decide, by decide, by decide +kernel⟩, by decide, by decide⟩
theorem mok_10_9 : gj_mok mc_10 mc_8 9 0 := ⟨Or.inr wml_X10_9, wcd_8, wii_8, ⟨by decide, by decide, by decide +kernel⟩, by decide, by decide⟩
theorem mok_10_18 : gj_mok mc_10 mc_7 18 0 := ⟨Or.inr wml_X10_18, wcd_7, wii_7, ⟨by decide, by decide, by decide +kernel⟩, by decide, by decide⟩
theorem mok_10_28 : gj_mok mc_10 mc_4 28 0 := ⟨Or.inl wml_X10_28, wcd_4, wii_4, ⟨by decide, by decide, by decide +kernel⟩, by decide, by decide⟩
theorem mok_10_35 : gj_mok mc_10 mc_3 35 0 := ⟨Or.inr wml_X10_35, wcd_3, wii_3, ⟨by decide, by decide, by decide +kernel⟩, by decide, by decide⟩
theorem mok_10_46 : gj_mok mc_10 mc_0 46 0 := ⟨Or.inr wml_X10_46, wcd_0, wii_0, ⟨by decide, by decide, by decide +kernel⟩, by decide, by decide⟩
theorem mok_10_53 : gj_mok mc_10 mc_6 53 0 := ⟨Or.inr wml_X10_53, wcd_6, wii_6, ⟨by decide, by decide, by decide +kernel⟩, by decide, by decide⟩
theorem mok_10_60 : gj_mok mc_10 mc_2 60 0 := ⟨Or.inr wml_X10_60, wcd_2, wii_2, ⟨by decide, by decide, by decide +kernel⟩, by decide, by decide⟩
theorem mok_10_67 : gj_mok mc_10 mc_5 67 0 := ⟨Or.inr wml_X10_67, wcd_5, wii_5, ⟨by decide, by decide, by decide +kernel⟩, by decide, by decide⟩
theorem mok_10_74 : gj_mok mc_10 mc_9 74 0 := ⟨Or.inr wml_X10_74, wcd_9, wii_9, ⟨by decide, by decide, by decide +kernel⟩, by decide, by decide⟩
theorem mok_L_9 : gj_mok mt_295 mc_10 9 0 := ⟨Or.inl wml_L_9, wcd_10, wii_10, ⟨by decide, by decide, by decide +kernel⟩, by decide, by decide⟩
theorem mok_L_12 : gj_mok mt_295 mc_11 12 0 := ⟨Or.inl wml_L_12, wcd_11, wii_11, ⟨by decide, by decide, by decide +kernel⟩, by decide, by decide⟩
