/-! av: CONSTRUCTION: the contracts of the constructors, printed by genctor.py -/
set_option maxHeartbeats 4000000 in
set_option maxRecDepth 20000 in
theorem mk_8_1 {E : gj_E} {SI : gj_I} {SJ : gj_J} (hz : ZZ 2 SI SJ) : gj_Mk E (2, gj_Rq 0) (3, gj_Rq 1) mc_8 1 240 [.ref 1] SI SJ (fun A B => ZZ 3 A B ∧ FI (Lk 1 2 3) SI A ∧ FJ (Lk 1 2 3) SJ B ∧ A 1 1 = i3 0 ∧ ∀ k, A 2 k = 0) := by
  refine cs_start (M := mc_8) rfl rfl rfl rfl ?_
  intro p e s m args below meth c hin F0
  refine cs_ord F0 (gj_ckc_o ck_8 rfl (j := 0) (q := (0, .aload_n 0, 1, 0)) rfl rfl) ?_
  show gj_G E _ mc_8 p e s m args below meth c _ 1 [some (.ref 1)] [(.ref 1)] SI SJ
  refine cs_obj (idx := 3) (pc := 1) (o := 1) F0 (gj_ckc_d ck_8 (j := 1) (q := (1, .invokespecial 3, 3, 99)) rfl) wob_X8 wobI wobC (by decide) (by decide) ?_
  show gj_G E _ mc_8 p e s m args below meth c _ 4 [some (.ref 1)] [] SI SJ
  refine cs_ord F0 (gj_ckc_o ck_8 rfl (j := 2) (q := (4, .aload_n 0, 1, 0)) rfl rfl) ?_
  show gj_G E _ mc_8 p e s m args below meth c _ 5 [some (.ref 1)] [(.ref 1)] SI SJ
  refine cs_ord F0 (gj_ckc_o ck_8 rfl (j := 3) (q := (5, .sipush 240, 3, 0)) rfl rfl) ?_
  show gj_G E _ mc_8 p e s m args below meth c _ 8 [some (.ref 1)] [(.int (i3 240)), (.ref 1)] SI SJ
  refine cs_arrI (n := 2) (N := 240) (pc := 8) F0 (gj_ckc_d ck_8 (j := 4) (q := (8, .newarray .int, 2, 0)) rfl) war_int rfl (by decide) (by decide) (by decide) rfl (fun k => hz 2 k (by omega)) (by decide) (by decide) (fun F1 => ?_)
  show gj_G E _ mc_8 p e s m args below meth c _ 10 [some (.ref 1)] [(.ref 2), (.ref 1)] SI SJ
  refine cs_ref (ci := 8) (q := (RX8, TX8, 4)) (o := 1) (k := 0) (v := 2) (idx := 9) (pc := 10) (r2 := gj_Rq 1) F1 hin (gj_ckc_d ck_8 (j := 5) (q := (10, .putfield 9, 3, 800)) rfl) rfl (gj_wF_in 800090800 (gj_ct rfl)) rfl (by decide) rfl (by decide) rfl rfl rfl (fun _ => rfl) (fun _ => rfl) (gj_Rq_1 (t := 0) rfl) (gj_Rq_2 (t := 0) rfl) (fun F2 => ?_)
  show gj_G E _ mc_8 p e s m args below meth c _ 13 [some (.ref 1)] [] SI SJ
  refine cs_ord F2 (gj_ckc_o ck_8 rfl (j := 6) (q := (13, .aload_n 0, 1, 0)) rfl rfl) ?_
  show gj_G E _ mc_8 p e s m args below meth c _ 14 [some (.ref 1)] [(.ref 1)] SI SJ
  refine cs_ord F2 (gj_ckc_o ck_8 rfl (j := 7) (q := (14, .iconst 0, 1, 0)) rfl rfl) ?_
  show gj_G E _ mc_8 p e s m args below meth c _ 15 [some (.ref 1)] [(.int (i3 0)), (.ref 1)] SI SJ
  refine cs_ord F2 (gj_ckc_o ck_8 rfl (j := 8) (q := (15, .putfield 15, 3, 801)) rfl rfl) ?_
  show gj_G E _ mc_8 p e s m args below meth c _ 18 [some (.ref 1)] [] (gj_u2 SI 1 1 (i3 0)) SJ
  refine cs_ord F2 (gj_ckc_o ck_8 rfl (j := 9) (q := (18, .aload_n 0, 1, 0)) rfl rfl) ?_
  show gj_G E _ mc_8 p e s m args below meth c _ 19 [some (.ref 1)] [(.ref 1)] (gj_u2 SI 1 1 (i3 0)) SJ
  refine cs_ord F2 (gj_ckc_o ck_8 rfl (j := 10) (q := (19, .iconst 0, 1, 0)) rfl rfl) ?_
  show gj_G E _ mc_8 p e s m args below meth c _ 20 [some (.ref 1)] [(.int (i3 0)), (.ref 1)] (gj_u2 SI 1 1 (i3 0)) SJ
  refine cs_ord F2 (gj_ckc_o ck_8 rfl (j := 11) (q := (20, .putfield 19, 3, 802)) rfl rfl) ?_
  show gj_G E _ mc_8 p e s m args below meth c _ 23 [some (.ref 1)] [] (gj_u2 (gj_u2 SI 1 1 (i3 0)) 1 2 (i3 0)) SJ
  refine cs_ord F2 (gj_ckc_o ck_8 rfl (j := 12) (q := (23, .aload_n 0, 1, 0)) rfl rfl) ?_
  show gj_G E _ mc_8 p e s m args below meth c _ 24 [some (.ref 1)] [(.ref 1)] (gj_u2 (gj_u2 SI 1 1 (i3 0)) 1 2 (i3 0)) SJ
  refine cs_ord F2 (gj_ckc_o ck_8 rfl (j := 13) (q := (24, .iconst 0, 1, 0)) rfl rfl) ?_
  show gj_G E _ mc_8 p e s m args below meth c _ 25 [some (.ref 1)] [(.int (i3 0)), (.ref 1)] (gj_u2 (gj_u2 SI 1 1 (i3 0)) 1 2 (i3 0)) SJ
  refine cs_ord F2 (gj_ckc_o ck_8 rfl (j := 14) (q := (25, .putfield 22, 3, 803)) rfl rfl) ?_
  show gj_G E _ mc_8 p e s m args below meth c _ 28 [some (.ref 1)] [] (gj_u2 (gj_u2 (gj_u2 SI 1 1 (i3 0)) 1 2 (i3 0)) 1 3 (i3 0)) SJ
  refine cs_ret F2 (gj_ckc_d ck_8 (j := 15) (q := (28, .return_, 1, 0)) rfl) rfl ?_
  have fF : FI (Lk 1 2 3) SI (gj_u2 (gj_u2 (gj_u2 SI 1 1 (i3 0)) 1 2 (i3 0)) 1 3 (i3 0)) := ((((FI.rf : FI (Lk 1 2 3) SI SI).u (by unfold Lk; omega)).u (by unfold Lk; omega)).u (by unfold Lk; omega))
  have gF : FJ (Lk 1 2 3) SJ SJ := (FJ.rf : FJ (Lk 1 2 3) SJ SJ)
  have zF : ZZ 3 (gj_u2 (gj_u2 (gj_u2 SI 1 1 (i3 0)) 1 2 (i3 0)) 1 3 (i3 0)) SJ := ((((hz.le (by omega) : ZZ 3 SI SJ).u (by omega)).u (by omega)).u (by omega))
  exact ⟨zF, fF, gF, rfl, fun k => (hz 2 k (by omega)).1⟩
set_option maxHeartbeats 4000000 in
set_option maxRecDepth 20000 in
theorem mk_4_4 {E : gj_E} {SI : gj_I} {SJ : gj_J} (hz : ZZ 5 SI SJ) : gj_Mk E (5, gj_Rq 2) (12, gj_Rq 9) mc_4 7 184 [.ref 4] SI SJ (fun A B => ZZ 12 A B ∧ FI (Lk 4 5 12) SI A ∧ FJ (Lk 4 5 12) SJ B ∧ PX4 FZ A ∧ PD4 FZ A) := by
  refine cs_start (M := mc_4) rfl rfl rfl rfl ?_
  intro p e s m args below meth c hin F0
  refine cs_ord F0 (gj_ckc_o ck_4 rfl (j := 0) (q := (0, .aload_n 0, 1, 0)) rfl rfl) ?_
  show gj_G E _ mc_4 p e s m args below meth c _ 1 [some (.ref 4)] [(.ref 4)] SI SJ
  refine cs_obj (idx := 3) (pc := 1) (o := 4) F0 (gj_ckc_d ck_4 (j := 1) (q := (1, .invokespecial 3, 3, 99)) rfl) wob_X4 wobI wobC (by decide) (by decide) ?_
  show gj_G E _ mc_4 p e s m args below meth c _ 4 [some (.ref 4)] [] SI SJ
  refine cs_ord F0 (gj_ckc_o ck_4 rfl (j := 2) (q := (4, .aload_n 0, 1, 0)) rfl rfl) ?_
  show gj_G E _ mc_4 p e s m args below meth c _ 5 [some (.ref 4)] [(.ref 4)] SI SJ
  refine cs_ord F0 (gj_ckc_o ck_4 rfl (j := 3) (q := (5, .bipush 8, 2, 0)) rfl rfl) ?_
  show gj_G E _ mc_4 p e s m args below meth c _ 7 [some (.ref 4)] [(.int (i3 8)), (.ref 4)] SI SJ
  refine cs_arrI (n := 5) (N := 8) (pc := 7) F0 (gj_ckc_d ck_4 (j := 4) (q := (7, .newarray .int, 2, 0)) rfl) war_int rfl (by decide) (by decide) (by decide) rfl (fun k => hz 5 k (by omega)) (by decide) (by decide) (fun F1 => ?_)
  show gj_G E _ mc_4 p e s m args below meth c _ 9 [some (.ref 4)] [(.ref 5), (.ref 4)] SI SJ
  refine cs_ref (ci := 4) (q := (RX4, TX4, 9)) (o := 4) (k := 0) (v := 5) (idx := 9) (pc := 9) (r2 := gj_Rq 3) F1 hin (gj_ckc_d ck_4 (j := 5) (q := (9, .putfield 9, 3, 400)) rfl) rfl (gj_wF_in 400090400 (gj_ct rfl)) rfl (by decide) rfl (by decide) rfl rfl rfl (fun _ => rfl) (fun _ => rfl) (gj_Rq_1 (t := 2) rfl) (gj_Rq_2 (t := 2) rfl) (fun F2 => ?_)
  show gj_G E _ mc_4 p e s m args below meth c _ 12 [some (.ref 4)] [] SI SJ
  refine cs_ord F2 (gj_ckc_o ck_4 rfl (j := 6) (q := (12, .aload_n 0, 1, 0)) rfl rfl) ?_
  show gj_G E _ mc_4 p e s m args below meth c _ 13 [some (.ref 4)] [(.ref 4)] SI SJ
  refine cs_ord F2 (gj_ckc_o ck_4 rfl (j := 7) (q := (13, .bipush 8, 2, 0)) rfl rfl) ?_
  show gj_G E _ mc_4 p e s m args below meth c _ 15 [some (.ref 4)] [(.int (i3 8)), (.ref 4)] SI SJ
  refine cs_arrI (n := 6) (N := 8) (pc := 15) F2 (gj_ckc_d ck_4 (j := 8) (q := (15, .newarray .int, 2, 0)) rfl) war_int rfl (by decide) (by decide) (by decide) rfl (fun k => hz 6 k (by omega)) (by decide) (by decide) (fun F3 => ?_)
  show gj_G E _ mc_4 p e s m args below meth c _ 17 [some (.ref 4)] [(.ref 6), (.ref 4)] SI SJ
  refine cs_ref (ci := 4) (q := (RX4, TX4, 9)) (o := 4) (k := 1) (v := 6) (idx := 15) (pc := 17) (r2 := gj_Rq 4) F3 hin (gj_ckc_d ck_4 (j := 9) (q := (17, .putfield 15, 3, 401)) rfl) rfl (gj_wF_in 400150401 (gj_ct rfl)) rfl (by decide) rfl (by decide) rfl rfl rfl (fun _ => rfl) (fun _ => rfl) (gj_Rq_1 (t := 3) rfl) (gj_Rq_2 (t := 3) rfl) (fun F4 => ?_)
  show gj_G E _ mc_4 p e s m args below meth c _ 20 [some (.ref 4)] [] SI SJ
  refine cs_ord F4 (gj_ckc_o ck_4 rfl (j := 10) (q := (20, .aload_n 0, 1, 0)) rfl rfl) ?_
  show gj_G E _ mc_4 p e s m args below meth c _ 21 [some (.ref 4)] [(.ref 4)] SI SJ
  refine cs_ord F4 (gj_ckc_o ck_4 rfl (j := 11) (q := (21, .bipush 8, 2, 0)) rfl rfl) ?_
  show gj_G E _ mc_4 p e s m args below meth c _ 23 [some (.ref 4)] [(.int (i3 8)), (.ref 4)] SI SJ
  refine cs_arrI (n := 7) (N := 8) (pc := 23) F4 (gj_ckc_d ck_4 (j := 12) (q := (23, .newarray .int, 2, 0)) rfl) war_int rfl (by decide) (by decide) (by decide) rfl (fun k => hz 7 k (by omega)) (by decide) (by decide) (fun F5 => ?_)
  show gj_G E _ mc_4 p e s m args below meth c _ 25 [some (.ref 4)] [(.ref 7), (.ref 4)] SI SJ
  refine cs_ref (ci := 4) (q := (RX4, TX4, 9)) (o := 4) (k := 2) (v := 7) (idx := 18) (pc := 25) (r2 := gj_Rq 5) F5 hin (gj_ckc_d ck_4 (j := 13) (q := (25, .putfield 18, 3, 402)) rfl) rfl (gj_wF_in 400180402 (gj_ct rfl)) rfl (by decide) rfl (by decide) rfl rfl rfl (fun _ => rfl) (fun _ => rfl) (gj_Rq_1 (t := 4) rfl) (gj_Rq_2 (t := 4) rfl) (fun F6 => ?_)
  show gj_G E _ mc_4 p e s m args below meth c _ 28 [some (.ref 4)] [] SI SJ
  refine cs_ord F6 (gj_ckc_o ck_4 rfl (j := 14) (q := (28, .aload_n 0, 1, 0)) rfl rfl) ?_
  show gj_G E _ mc_4 p e s m args below meth c _ 29 [some (.ref 4)] [(.ref 4)] SI SJ
  refine cs_ord F6 (gj_ckc_o ck_4 rfl (j := 15) (q := (29, .bipush 8, 2, 0)) rfl rfl) ?_
  show gj_G E _ mc_4 p e s m args below meth c _ 31 [some (.ref 4)] [(.int (i3 8)), (.ref 4)] SI SJ
  refine cs_arrI (n := 8) (N := 8) (pc := 31) F6 (gj_ckc_d ck_4 (j := 16) (q := (31, .newarray .int, 2, 0)) rfl) war_int rfl (by decide) (by decide) (by decide) rfl (fun k => hz 8 k (by omega)) (by decide) (by decide) (fun F7 => ?_)
  show gj_G E _ mc_4 p e s m args below meth c _ 33 [some (.ref 4)] [(.ref 8), (.ref 4)] SI SJ
  refine cs_ref (ci := 4) (q := (RX4, TX4, 9)) (o := 4) (k := 3) (v := 8) (idx := 21) (pc := 33) (r2 := gj_Rq 6) F7 hin (gj_ckc_d ck_4 (j := 17) (q := (33, .putfield 21, 3, 403)) rfl) rfl (gj_wF_in 400210403 (gj_ct rfl)) rfl (by decide) rfl (by decide) rfl rfl rfl (fun _ => rfl) (fun _ => rfl) (gj_Rq_1 (t := 5) rfl) (gj_Rq_2 (t := 5) rfl) (fun F8 => ?_)
  show gj_G E _ mc_4 p e s m args below meth c _ 36 [some (.ref 4)] [] SI SJ
  refine cs_ord F8 (gj_ckc_o ck_4 rfl (j := 18) (q := (36, .aload_n 0, 1, 0)) rfl rfl) ?_
  show gj_G E _ mc_4 p e s m args below meth c _ 37 [some (.ref 4)] [(.ref 4)] SI SJ
  refine cs_ord F8 (gj_ckc_o ck_4 rfl (j := 19) (q := (37, .bipush 8, 2, 0)) rfl rfl) ?_
  show gj_G E _ mc_4 p e s m args below meth c _ 39 [some (.ref 4)] [(.int (i3 8)), (.ref 4)] SI SJ
  refine cs_arrI (n := 9) (N := 8) (pc := 39) F8 (gj_ckc_d ck_4 (j := 20) (q := (39, .newarray .int, 2, 0)) rfl) war_int rfl (by decide) (by decide) (by decide) rfl (fun k => hz 9 k (by omega)) (by decide) (by decide) (fun F9 => ?_)
  show gj_G E _ mc_4 p e s m args below meth c _ 41 [some (.ref 4)] [(.ref 9), (.ref 4)] SI SJ
  refine cs_ref (ci := 4) (q := (RX4, TX4, 9)) (o := 4) (k := 4) (v := 9) (idx := 24) (pc := 41) (r2 := gj_Rq 7) F9 hin (gj_ckc_d ck_4 (j := 21) (q := (41, .putfield 24, 3, 404)) rfl) rfl (gj_wF_in 400240404 (gj_ct rfl)) rfl (by decide) rfl (by decide) rfl rfl rfl (fun _ => rfl) (fun _ => rfl) (gj_Rq_1 (t := 6) rfl) (gj_Rq_2 (t := 6) rfl) (fun F10 => ?_)
  show gj_G E _ mc_4 p e s m args below meth c _ 44 [some (.ref 4)] [] SI SJ
  refine cs_ord F10 (gj_ckc_o ck_4 rfl (j := 22) (q := (44, .aload_n 0, 1, 0)) rfl rfl) ?_
  show gj_G E _ mc_4 p e s m args below meth c _ 45 [some (.ref 4)] [(.ref 4)] SI SJ
  refine cs_ord F10 (gj_ckc_o ck_4 rfl (j := 23) (q := (45, .bipush 72, 2, 0)) rfl rfl) ?_
  show gj_G E _ mc_4 p e s m args below meth c _ 47 [some (.ref 4)] [(.int (i3 72)), (.ref 4)] SI SJ
  refine cs_arrI (n := 10) (N := 72) (pc := 47) F10 (gj_ckc_d ck_4 (j := 24) (q := (47, .newarray .int, 2, 0)) rfl) war_int rfl (by decide) (by decide) (by decide) rfl (fun k => hz 10 k (by omega)) (by decide) (by decide) (fun F11 => ?_)
  show gj_G E _ mc_4 p e s m args below meth c _ 49 [some (.ref 4)] [(.ref 10), (.ref 4)] SI SJ
  refine cs_ref (ci := 4) (q := (RX4, TX4, 9)) (o := 4) (k := 5) (v := 10) (idx := 27) (pc := 49) (r2 := gj_Rq 8) F11 hin (gj_ckc_d ck_4 (j := 25) (q := (49, .putfield 27, 3, 405)) rfl) rfl (gj_wF_in 400270405 (gj_ct rfl)) rfl (by decide) rfl (by decide) rfl rfl rfl (fun _ => rfl) (fun _ => rfl) (gj_Rq_1 (t := 7) rfl) (gj_Rq_2 (t := 7) rfl) (fun F12 => ?_)
  show gj_G E _ mc_4 p e s m args below meth c _ 52 [some (.ref 4)] [] SI SJ
  refine cs_ord F12 (gj_ckc_o ck_4 rfl (j := 26) (q := (52, .aload_n 0, 1, 0)) rfl rfl) ?_
  show gj_G E _ mc_4 p e s m args below meth c _ 53 [some (.ref 4)] [(.ref 4)] SI SJ
  refine cs_ord F12 (gj_ckc_o ck_4 rfl (j := 27) (q := (53, .bipush 72, 2, 0)) rfl rfl) ?_
  show gj_G E _ mc_4 p e s m args below meth c _ 55 [some (.ref 4)] [(.int (i3 72)), (.ref 4)] SI SJ
  refine cs_arrI (n := 11) (N := 72) (pc := 55) F12 (gj_ckc_d ck_4 (j := 28) (q := (55, .newarray .int, 2, 0)) rfl) war_int rfl (by decide) (by decide) (by decide) rfl (fun k => hz 11 k (by omega)) (by decide) (by decide) (fun F13 => ?_)
  show gj_G E _ mc_4 p e s m args below meth c _ 57 [some (.ref 4)] [(.ref 11), (.ref 4)] SI SJ
  refine cs_ref (ci := 4) (q := (RX4, TX4, 9)) (o := 4) (k := 6) (v := 11) (idx := 30) (pc := 57) (r2 := gj_Rq 9) F13 hin (gj_ckc_d ck_4 (j := 29) (q := (57, .putfield 30, 3, 406)) rfl) rfl (gj_wF_in 400300406 (gj_ct rfl)) rfl (by decide) rfl (by decide) rfl rfl rfl (fun _ => rfl) (fun _ => rfl) (gj_Rq_1 (t := 8) rfl) (gj_Rq_2 (t := 8) rfl) (fun F14 => ?_)
  show gj_G E _ mc_4 p e s m args below meth c _ 60 [some (.ref 4)] [] SI SJ
  refine cs_ord F14 (gj_ckc_o ck_4 rfl (j := 30) (q := (60, .aload_n 0, 1, 0)) rfl rfl) ?_
  show gj_G E _ mc_4 p e s m args below meth c _ 61 [some (.ref 4)] [(.ref 4)] SI SJ
  refine cs_ord F14 (gj_ckc_o ck_4 rfl (j := 31) (q := (61, .iconst 4, 1, 0)) rfl rfl) ?_
  show gj_G E _ mc_4 p e s m args below meth c _ 62 [some (.ref 4)] [(.int (i3 4)), (.ref 4)] SI SJ
  refine cs_ord F14 (gj_ckc_o ck_4 rfl (j := 32) (q := (62, .putfield 33, 3, 407)) rfl rfl) ?_
  show gj_G E _ mc_4 p e s m args below meth c _ 65 [some (.ref 4)] [] (gj_u2 SI 4 7 (i3 4)) SJ
  refine cs_ord F14 (gj_ckc_o ck_4 rfl (j := 33) (q := (65, .aload_n 0, 1, 0)) rfl rfl) ?_
  show gj_G E _ mc_4 p e s m args below meth c _ 66 [some (.ref 4)] [(.ref 4)] (gj_u2 SI 4 7 (i3 4)) SJ
  refine cs_ord F14 (gj_ckc_o ck_4 rfl (j := 34) (q := (66, .iconst 0, 1, 0)) rfl rfl) ?_
  show gj_G E _ mc_4 p e s m args below meth c _ 67 [some (.ref 4)] [(.int (i3 0)), (.ref 4)] (gj_u2 SI 4 7 (i3 4)) SJ
  refine cs_ord F14 (gj_ckc_o ck_4 rfl (j := 35) (q := (67, .putfield 37, 3, 408)) rfl rfl) ?_
  show gj_G E _ mc_4 p e s m args below meth c _ 70 [some (.ref 4)] [] (gj_u2 (gj_u2 SI 4 7 (i3 4)) 4 8 (i3 0)) SJ
  refine cs_ord F14 (gj_ckc_o ck_4 rfl (j := 36) (q := (70, .aload_n 0, 1, 0)) rfl rfl) ?_
  show gj_G E _ mc_4 p e s m args below meth c _ 71 [some (.ref 4)] [(.ref 4)] (gj_u2 (gj_u2 SI 4 7 (i3 4)) 4 8 (i3 0)) SJ
  refine cs_ord F14 (gj_ckc_o ck_4 rfl (j := 37) (q := (71, .getfield 9, 3, 400)) rfl rfl) ?_
  show gj_G E _ mc_4 p e s m args below meth c _ 74 [some (.ref 4)] [(.ref 5)] (gj_u2 (gj_u2 SI 4 7 (i3 4)) 4 8 (i3 0)) SJ
  refine cs_ord F14 (gj_ckc_o ck_4 rfl (j := 38) (q := (74, .iconst 1, 1, 0)) rfl rfl) ?_
  show gj_G E _ mc_4 p e s m args below meth c _ 75 [some (.ref 4)] [(.int (i3 1)), (.ref 5)] (gj_u2 (gj_u2 SI 4 7 (i3 4)) 4 8 (i3 0)) SJ
  refine cs_ord F14 (gj_ckc_o ck_4 rfl (j := 39) (q := (75, .iconst 4, 1, 0)) rfl rfl) ?_
  show gj_G E _ mc_4 p e s m args below meth c _ 76 [some (.ref 4)] [(.int (i3 4)), (.int (i3 1)), (.ref 5)] (gj_u2 (gj_u2 SI 4 7 (i3 4)) 4 8 (i3 0)) SJ
  refine cs_ord F14 (gj_ckc_o ck_4 rfl (j := 40) (q := (76, .iastore, 1, 0)) rfl rfl) ?_
  refine And.intro ((i3_in (by omega) (by omega)).mpr (by omega) : vp_in (i3 1) 8) ?_
  show gj_G E _ mc_4 p e s m args below meth c _ 77 [some (.ref 4)] [] (gj_u2 (gj_u2 (gj_u2 SI 4 7 (i3 4)) 4 8 (i3 0)) 5 1 (i3 4)) SJ
  refine cs_ord F14 (gj_ckc_o ck_4 rfl (j := 41) (q := (77, .aload_n 0, 1, 0)) rfl rfl) ?_
  show gj_G E _ mc_4 p e s m args below meth c _ 78 [some (.ref 4)] [(.ref 4)] (gj_u2 (gj_u2 (gj_u2 SI 4 7 (i3 4)) 4 8 (i3 0)) 5 1 (i3 4)) SJ
  refine cs_ord F14 (gj_ckc_o ck_4 rfl (j := 42) (q := (78, .getfield 9, 3, 400)) rfl rfl) ?_
  show gj_G E _ mc_4 p e s m args below meth c _ 81 [some (.ref 4)] [(.ref 5)] (gj_u2 (gj_u2 (gj_u2 SI 4 7 (i3 4)) 4 8 (i3 0)) 5 1 (i3 4)) SJ
  refine cs_ord F14 (gj_ckc_o ck_4 rfl (j := 43) (q := (81, .iconst 2, 1, 0)) rfl rfl) ?_
  show gj_G E _ mc_4 p e s m args below meth c _ 82 [some (.ref 4)] [(.int (i3 2)), (.ref 5)] (gj_u2 (gj_u2 (gj_u2 SI 4 7 (i3 4)) 4 8 (i3 0)) 5 1 (i3 4)) SJ
  refine cs_ord F14 (gj_ckc_o ck_4 rfl (j := 44) (q := (82, .iconst 4, 1, 0)) rfl rfl) ?_
  show gj_G E _ mc_4 p e s m args below meth c _ 83 [some (.ref 4)] [(.int (i3 4)), (.int (i3 2)), (.ref 5)] (gj_u2 (gj_u2 (gj_u2 SI 4 7 (i3 4)) 4 8 (i3 0)) 5 1 (i3 4)) SJ
  refine cs_ord F14 (gj_ckc_o ck_4 rfl (j := 45) (q := (83, .iastore, 1, 0)) rfl rfl) ?_
  refine And.intro ((i3_in (by omega) (by omega)).mpr (by omega) : vp_in (i3 2) 8) ?_
  show gj_G E _ mc_4 p e s m args below meth c _ 84 [some (.ref 4)] [] (gj_u2 (gj_u2 (gj_u2 (gj_u2 SI 4 7 (i3 4)) 4 8 (i3 0)) 5 1 (i3 4)) 5 2 (i3 4)) SJ
  refine cs_ord F14 (gj_ckc_o ck_4 rfl (j := 46) (q := (84, .aload_n 0, 1, 0)) rfl rfl) ?_
  show gj_G E _ mc_4 p e s m args below meth c _ 85 [some (.ref 4)] [(.ref 4)] (gj_u2 (gj_u2 (gj_u2 (gj_u2 SI 4 7 (i3 4)) 4 8 (i3 0)) 5 1 (i3 4)) 5 2 (i3 4)) SJ
  refine cs_ord F14 (gj_ckc_o ck_4 rfl (j := 47) (q := (85, .getfield 15, 3, 401)) rfl rfl) ?_
  show gj_G E _ mc_4 p e s m args below meth c _ 88 [some (.ref 4)] [(.ref 6)] (gj_u2 (gj_u2 (gj_u2 (gj_u2 SI 4 7 (i3 4)) 4 8 (i3 0)) 5 1 (i3 4)) 5 2 (i3 4)) SJ
  refine cs_ord F14 (gj_ckc_o ck_4 rfl (j := 48) (q := (88, .iconst 2, 1, 0)) rfl rfl) ?_
  show gj_G E _ mc_4 p e s m args below meth c _ 89 [some (.ref 4)] [(.int (i3 2)), (.ref 6)] (gj_u2 (gj_u2 (gj_u2 (gj_u2 SI 4 7 (i3 4)) 4 8 (i3 0)) 5 1 (i3 4)) 5 2 (i3 4)) SJ
  refine cs_ord F14 (gj_ckc_o ck_4 rfl (j := 49) (q := (89, .iconst 4, 1, 0)) rfl rfl) ?_
  show gj_G E _ mc_4 p e s m args below meth c _ 90 [some (.ref 4)] [(.int (i3 4)), (.int (i3 2)), (.ref 6)] (gj_u2 (gj_u2 (gj_u2 (gj_u2 SI 4 7 (i3 4)) 4 8 (i3 0)) 5 1 (i3 4)) 5 2 (i3 4)) SJ
  refine cs_ord F14 (gj_ckc_o ck_4 rfl (j := 50) (q := (90, .iastore, 1, 0)) rfl rfl) ?_
  refine And.intro ((i3_in (by omega) (by omega)).mpr (by omega) : vp_in (i3 2) 8) ?_
  show gj_G E _ mc_4 p e s m args below meth c _ 91 [some (.ref 4)] [] (gj_u2 (gj_u2 (gj_u2 (gj_u2 (gj_u2 SI 4 7 (i3 4)) 4 8 (i3 0)) 5 1 (i3 4)) 5 2 (i3 4)) 6 2 (i3 4)) SJ
  refine cs_ord F14 (gj_ckc_o ck_4 rfl (j := 51) (q := (91, .aload_n 0, 1, 0)) rfl rfl) ?_
  show gj_G E _ mc_4 p e s m args below meth c _ 92 [some (.ref 4)] [(.ref 4)] (gj_u2 (gj_u2 (gj_u2 (gj_u2 (gj_u2 SI 4 7 (i3 4)) 4 8 (i3 0)) 5 1 (i3 4)) 5 2 (i3 4)) 6 2 (i3 4)) SJ
  refine cs_ord F14 (gj_ckc_o ck_4 rfl (j := 52) (q := (92, .getfield 15, 3, 401)) rfl rfl) ?_
  show gj_G E _ mc_4 p e s m args below meth c _ 95 [some (.ref 4)] [(.ref 6)] (gj_u2 (gj_u2 (gj_u2 (gj_u2 (gj_u2 SI 4 7 (i3 4)) 4 8 (i3 0)) 5 1 (i3 4)) 5 2 (i3 4)) 6 2 (i3 4)) SJ
  refine cs_ord F14 (gj_ckc_o ck_4 rfl (j := 53) (q := (95, .iconst 3, 1, 0)) rfl rfl) ?_
  show gj_G E _ mc_4 p e s m args below meth c _ 96 [some (.ref 4)] [(.int (i3 3)), (.ref 6)] (gj_u2 (gj_u2 (gj_u2 (gj_u2 (gj_u2 SI 4 7 (i3 4)) 4 8 (i3 0)) 5 1 (i3 4)) 5 2 (i3 4)) 6 2 (i3 4)) SJ
  refine cs_ord F14 (gj_ckc_o ck_4 rfl (j := 54) (q := (96, .iconst 4, 1, 0)) rfl rfl) ?_
  show gj_G E _ mc_4 p e s m args below meth c _ 97 [some (.ref 4)] [(.int (i3 4)), (.int (i3 3)), (.ref 6)] (gj_u2 (gj_u2 (gj_u2 (gj_u2 (gj_u2 SI 4 7 (i3 4)) 4 8 (i3 0)) 5 1 (i3 4)) 5 2 (i3 4)) 6 2 (i3 4)) SJ
  refine cs_ord F14 (gj_ckc_o ck_4 rfl (j := 55) (q := (97, .iastore, 1, 0)) rfl rfl) ?_
  refine And.intro ((i3_in (by omega) (by omega)).mpr (by omega) : vp_in (i3 3) 8) ?_
  show gj_G E _ mc_4 p e s m args below meth c _ 98 [some (.ref 4)] [] (gj_u2 (gj_u2 (gj_u2 (gj_u2 (gj_u2 (gj_u2 SI 4 7 (i3 4)) 4 8 (i3 0)) 5 1 (i3 4)) 5 2 (i3 4)) 6 2 (i3 4)) 6 3 (i3 4)) SJ
  refine cs_ord F14 (gj_ckc_o ck_4 rfl (j := 56) (q := (98, .aload_n 0, 1, 0)) rfl rfl) ?_
  show gj_G E _ mc_4 p e s m args below meth c _ 99 [some (.ref 4)] [(.ref 4)] (gj_u2 (gj_u2 (gj_u2 (gj_u2 (gj_u2 (gj_u2 SI 4 7 (i3 4)) 4 8 (i3 0)) 5 1 (i3 4)) 5 2 (i3 4)) 6 2 (i3 4)) 6 3 (i3 4)) SJ
  refine cs_ord F14 (gj_ckc_o ck_4 rfl (j := 57) (q := (99, .invokevirtual 40, 3, 402801)) rfl rfl) ?_
  have hX0 : PX4 FZ (gj_u2 (gj_u2 (gj_u2 (gj_u2 (gj_u2 (gj_u2 SI 4 7 (i3 4)) 4 8 (i3 0)) 5 1 (i3 4)) 5 2 (i3 4)) 6 2 (i3 4)) 6 3 (i3 4)) := by
    refine ⟨rfl, ?_⟩
    rw [FZ_nC]
    intro i hi
    have c0 : i = 0 ∨ i = 1 ∨ i = 2 ∨ i = 3 := by omega
    rcases c0 with rfl | rfl | rfl | rfl
    · exact ⟨(hz 5 0 (by omega)).1, (hz 6 0 (by omega)).1⟩
    · exact ⟨rfl, (hz 6 1 (by omega)).1⟩
    · exact ⟨rfl, rfl⟩
    · exact ⟨(hz 5 3 (by omega)).1, rfl⟩
  refine gj_Do.mono (sp_derive4q (E := E) (Q := fun A B => (FI LD4 (gj_u2 (gj_u2 (gj_u2 (gj_u2 (gj_u2 (gj_u2 SI 4 7 (i3 4)) 4 8 (i3 0)) 5 1 (i3 4)) 5 2 (i3 4)) 6 2 (i3 4)) 6 3 (i3 4)) A ∧ PD4 FZ A) ∧ B = SJ) hX0 FZ_Wp (fun A fA hD => ⟨⟨fA, hD⟩, rfl⟩)) (fun v_ A B hv => ?_)
  obtain ⟨rfl, ⟨fD, hD⟩, rfl⟩ := hv
  show gj_G E _ mc_4 p e s m args below meth c _ 102 [some (.ref 4)] [] A B
  refine cs_ret F14 (gj_ckc_d ck_4 (j := 58) (q := (102, .return_, 1, 0)) rfl) rfl ?_
  have fF : FI (Lk 4 5 12) SI A := ((((((((FI.rf : FI (Lk 4 5 12) SI SI).u (by unfold Lk; omega)).u (by unfold Lk; omega)).u (by unfold Lk; omega)).u (by unfold Lk; omega)).u (by unfold Lk; omega)).u (by unfold Lk; omega))).tr (fD.le (fun o k z => by unfold LD4 at z; unfold Lk; omega))
  have hzA : ZZ 12 A B := fun o k ho => ⟨by rw [fF o k (by unfold Lk; omega)]; exact (hz o k (by omega)).1, (hz o k (by omega)).2⟩
  exact ⟨hzA, fF, FJ.rf, hX0.f fD (by unfold LD4; exact ⟨by omega, fun k => by omega⟩), hD⟩
set_option maxHeartbeats 4000000 in
set_option maxRecDepth 20000 in
theorem mk_7_3 {E : gj_E} {SI : gj_I} {SJ : gj_J} (hz : ZZ 4 SI SJ) : gj_Mk E (4, gj_Rq 2) (16, gj_Rq 14) mc_7 12 303 [.ref 3] SI SJ (fun A B => ZZ 16 A B ∧ FI (Lk 3 4 16) SI A ∧ FJ (Lk 3 4 16) SJ B ∧ PX4 FZ A ∧ PD4 FZ A ∧ A 3 5 = i3 0 ∧ A 3 6 = i3 1 ∧ A 3 7 = i3 1 ∧ A 3 8 = i3 2 ∧ A 3 9 = i3 2 ∧ A 3 10 = i3 1 ∧ A 3 11 = i3 0 ∧ A 3 12 = i3 0) := by
  refine cs_start (M := mc_7) rfl rfl rfl rfl ?_
  intro p e s m args below meth c hin F0
  refine cs_ord F0 (gj_ckc_o ck_7 rfl (j := 0) (q := (0, .aload_n 0, 1, 0)) rfl rfl) ?_
  show gj_G E _ mc_7 p e s m args below meth c _ 1 [some (.ref 3)] [(.ref 3)] SI SJ
  refine cs_obj (idx := 3) (pc := 1) (o := 3) F0 (gj_ckc_d ck_7 (j := 1) (q := (1, .invokespecial 3, 3, 99)) rfl) wob_X7 wobI wobC (by decide) (by decide) ?_
  show gj_G E _ mc_7 p e s m args below meth c _ 4 [some (.ref 3)] [] SI SJ
  refine cs_ord F0 (gj_ckc_o ck_7 rfl (j := 2) (q := (4, .aload_n 0, 1, 0)) rfl rfl) ?_
  show gj_G E _ mc_7 p e s m args below meth c _ 5 [some (.ref 3)] [(.ref 3)] SI SJ
  refine cs_new (ci := 4) (q := (RX4, TX4, 9)) (n := 4) (idx := 9) (pc := 5) F0 (gj_ckc_d ck_7 (j := 3) (q := (5, .new 9, 3, 4)) rfl) rfl wcl_X7_9 win_4 wii_4 (by decide) rfl rfl (fun k => hz 4 k (by omega)) (fun k _ => rfl) (by decide) (by decide) (fun F1 => ?_)
  show gj_G E _ mc_7 p e s m args below meth c _ 8 [some (.ref 3)] [(.ref 4), (.ref 3)] SI SJ
  refine cs_ord F1 (gj_ckc_o ck_7 rfl (j := 4) (q := (8, .dup, 1, 0)) rfl rfl) ?_
  show gj_G E _ mc_7 p e s m args below meth c _ 9 [some (.ref 3)] [(.ref 4), (.ref 4), (.ref 3)] SI SJ
  refine cs_init (M2 := mc_4) (idx := 11) (pc := 9) (o := 4) F1 (gj_ckc_d ck_7 (j := 5) (q := (9, .invokespecial 11, 3, 4)) rfl) mok_7_11 rfl wim_4 rfl (mk_4_4 (E := E) (hz.le (by omega))) rfl (by decide) (by decide) (by decide) (fun A2 B2 h2 F2 => ?_)
  obtain ⟨z2, f2, g2, k2⟩ := h2
  show gj_G E _ mc_7 p e s m args below meth c _ 12 [some (.ref 3)] [(.ref 4), (.ref 3)] A2 B2
  refine cs_ref (ci := 7) (q := (RX7, TX7, 13)) (o := 3) (k := 0) (v := 4) (idx := 12) (pc := 12) (r2 := gj_Rq 10) F2 hin (gj_ckc_d ck_7 (j := 6) (q := (12, .putfield 12, 3, 700)) rfl) rfl (gj_wF_in 700120700 (gj_ct rfl)) rfl (by decide) rfl (by decide) rfl rfl rfl (fun _ => rfl) (fun _ => rfl) (gj_Rq_1 (t := 9) rfl) (gj_Rq_2 (t := 9) rfl) (fun F3 => ?_)
  show gj_G E _ mc_7 p e s m args below meth c _ 15 [some (.ref 3)] [] A2 B2
  refine cs_ord F3 (gj_ckc_o ck_7 rfl (j := 7) (q := (15, .aload_n 0, 1, 0)) rfl rfl) ?_
  show gj_G E _ mc_7 p e s m args below meth c _ 16 [some (.ref 3)] [(.ref 3)] A2 B2
  refine cs_ord F3 (gj_ckc_o ck_7 rfl (j := 8) (q := (16, .bipush 6, 2, 0)) rfl rfl) ?_
  show gj_G E _ mc_7 p e s m args below meth c _ 18 [some (.ref 3)] [(.int (i3 6)), (.ref 3)] A2 B2
  refine cs_arrI (n := 12) (N := 6) (pc := 18) F3 (gj_ckc_d ck_7 (j := 9) (q := (18, .newarray .int, 2, 0)) rfl) war_int rfl (by decide) (by decide) (by decide) rfl (fun k => z2 12 k (by omega)) (by decide) (by decide) (fun F4 => ?_)
  show gj_G E _ mc_7 p e s m args below meth c _ 20 [some (.ref 3)] [(.ref 12), (.ref 3)] A2 B2
  refine cs_ref (ci := 7) (q := (RX7, TX7, 13)) (o := 3) (k := 1) (v := 12) (idx := 18) (pc := 20) (r2 := gj_Rq 11) F4 hin (gj_ckc_d ck_7 (j := 10) (q := (20, .putfield 18, 3, 701)) rfl) rfl (gj_wF_in 700180701 (gj_ct rfl)) rfl (by decide) rfl (by decide) rfl rfl rfl (fun _ => rfl) (fun _ => rfl) (gj_Rq_1 (t := 10) rfl) (gj_Rq_2 (t := 10) rfl) (fun F5 => ?_)
  show gj_G E _ mc_7 p e s m args below meth c _ 23 [some (.ref 3)] [] A2 B2
  refine cs_ord F5 (gj_ckc_o ck_7 rfl (j := 11) (q := (23, .aload_n 0, 1, 0)) rfl rfl) ?_
  show gj_G E _ mc_7 p e s m args below meth c _ 24 [some (.ref 3)] [(.ref 3)] A2 B2
  refine cs_ord F5 (gj_ckc_o ck_7 rfl (j := 12) (q := (24, .bipush 6, 2, 0)) rfl rfl) ?_
  show gj_G E _ mc_7 p e s m args below meth c _ 26 [some (.ref 3)] [(.int (i3 6)), (.ref 3)] A2 B2
  refine cs_arrI (n := 13) (N := 6) (pc := 26) F5 (gj_ckc_d ck_7 (j := 13) (q := (26, .newarray .int, 2, 0)) rfl) war_int rfl (by decide) (by decide) (by decide) rfl (fun k => z2 13 k (by omega)) (by decide) (by decide) (fun F6 => ?_)
  show gj_G E _ mc_7 p e s m args below meth c _ 28 [some (.ref 3)] [(.ref 13), (.ref 3)] A2 B2
  refine cs_ref (ci := 7) (q := (RX7, TX7, 13)) (o := 3) (k := 2) (v := 13) (idx := 22) (pc := 28) (r2 := gj_Rq 12) F6 hin (gj_ckc_d ck_7 (j := 14) (q := (28, .putfield 22, 3, 702)) rfl) rfl (gj_wF_in 700220702 (gj_ct rfl)) rfl (by decide) rfl (by decide) rfl rfl rfl (fun _ => rfl) (fun _ => rfl) (gj_Rq_1 (t := 11) rfl) (gj_Rq_2 (t := 11) rfl) (fun F7 => ?_)
  show gj_G E _ mc_7 p e s m args below meth c _ 31 [some (.ref 3)] [] A2 B2
  refine cs_ord F7 (gj_ckc_o ck_7 rfl (j := 15) (q := (31, .aload_n 0, 1, 0)) rfl rfl) ?_
  show gj_G E _ mc_7 p e s m args below meth c _ 32 [some (.ref 3)] [(.ref 3)] A2 B2
  refine cs_ord F7 (gj_ckc_o ck_7 rfl (j := 16) (q := (32, .bipush 80, 2, 0)) rfl rfl) ?_
  show gj_G E _ mc_7 p e s m args below meth c _ 34 [some (.ref 3)] [(.int (i3 80)), (.ref 3)] A2 B2
  refine cs_arrI (n := 14) (N := 80) (pc := 34) F7 (gj_ckc_d ck_7 (j := 17) (q := (34, .newarray .int, 2, 0)) rfl) war_int rfl (by decide) (by decide) (by decide) rfl (fun k => z2 14 k (by omega)) (by decide) (by decide) (fun F8 => ?_)
  show gj_G E _ mc_7 p e s m args below meth c _ 36 [some (.ref 3)] [(.ref 14), (.ref 3)] A2 B2
  refine cs_ref (ci := 7) (q := (RX7, TX7, 13)) (o := 3) (k := 3) (v := 14) (idx := 25) (pc := 36) (r2 := gj_Rq 13) F8 hin (gj_ckc_d ck_7 (j := 18) (q := (36, .putfield 25, 3, 703)) rfl) rfl (gj_wF_in 700250703 (gj_ct rfl)) rfl (by decide) rfl (by decide) rfl rfl rfl (fun _ => rfl) (fun _ => rfl) (gj_Rq_1 (t := 12) rfl) (gj_Rq_2 (t := 12) rfl) (fun F9 => ?_)
  show gj_G E _ mc_7 p e s m args below meth c _ 39 [some (.ref 3)] [] A2 B2
  refine cs_ord F9 (gj_ckc_o ck_7 rfl (j := 19) (q := (39, .aload_n 0, 1, 0)) rfl rfl) ?_
  show gj_G E _ mc_7 p e s m args below meth c _ 40 [some (.ref 3)] [(.ref 3)] A2 B2
  refine cs_ord F9 (gj_ckc_o ck_7 rfl (j := 20) (q := (40, .bipush 18, 2, 0)) rfl rfl) ?_
  show gj_G E _ mc_7 p e s m args below meth c _ 42 [some (.ref 3)] [(.int (i3 18)), (.ref 3)] A2 B2
  refine cs_arrI (n := 15) (N := 18) (pc := 42) F9 (gj_ckc_d ck_7 (j := 21) (q := (42, .newarray .int, 2, 0)) rfl) war_int rfl (by decide) (by decide) (by decide) rfl (fun k => z2 15 k (by omega)) (by decide) (by decide) (fun F10 => ?_)
  show gj_G E _ mc_7 p e s m args below meth c _ 44 [some (.ref 3)] [(.ref 15), (.ref 3)] A2 B2
  refine cs_ref (ci := 7) (q := (RX7, TX7, 13)) (o := 3) (k := 4) (v := 15) (idx := 28) (pc := 44) (r2 := gj_Rq 14) F10 hin (gj_ckc_d ck_7 (j := 22) (q := (44, .putfield 28, 3, 704)) rfl) rfl (gj_wF_in 700280704 (gj_ct rfl)) rfl (by decide) rfl (by decide) rfl rfl rfl (fun _ => rfl) (fun _ => rfl) (gj_Rq_1 (t := 13) rfl) (gj_Rq_2 (t := 13) rfl) (fun F11 => ?_)
  show gj_G E _ mc_7 p e s m args below meth c _ 47 [some (.ref 3)] [] A2 B2
  refine cs_ord F11 (gj_ckc_o ck_7 rfl (j := 23) (q := (47, .aload_n 0, 1, 0)) rfl rfl) ?_
  show gj_G E _ mc_7 p e s m args below meth c _ 48 [some (.ref 3)] [(.ref 3)] A2 B2
  refine cs_ord F11 (gj_ckc_o ck_7 rfl (j := 24) (q := (48, .iconst 0, 1, 0)) rfl rfl) ?_
  show gj_G E _ mc_7 p e s m args below meth c _ 49 [some (.ref 3)] [(.int (i3 0)), (.ref 3)] A2 B2
  refine cs_ord F11 (gj_ckc_o ck_7 rfl (j := 25) (q := (49, .putfield 31, 3, 705)) rfl rfl) ?_
  show gj_G E _ mc_7 p e s m args below meth c _ 52 [some (.ref 3)] [] (gj_u2 A2 3 5 (i3 0)) B2
  refine cs_ord F11 (gj_ckc_o ck_7 rfl (j := 26) (q := (52, .aload_n 0, 1, 0)) rfl rfl) ?_
  show gj_G E _ mc_7 p e s m args below meth c _ 53 [some (.ref 3)] [(.ref 3)] (gj_u2 A2 3 5 (i3 0)) B2
  refine cs_ord F11 (gj_ckc_o ck_7 rfl (j := 27) (q := (53, .iconst 1, 1, 0)) rfl rfl) ?_
  show gj_G E _ mc_7 p e s m args below meth c _ 54 [some (.ref 3)] [(.int (i3 1)), (.ref 3)] (gj_u2 A2 3 5 (i3 0)) B2
  refine cs_ord F11 (gj_ckc_o ck_7 rfl (j := 28) (q := (54, .putfield 35, 3, 706)) rfl rfl) ?_
  show gj_G E _ mc_7 p e s m args below meth c _ 57 [some (.ref 3)] [] (gj_u2 (gj_u2 A2 3 5 (i3 0)) 3 6 (i3 1)) B2
  refine cs_ord F11 (gj_ckc_o ck_7 rfl (j := 29) (q := (57, .aload_n 0, 1, 0)) rfl rfl) ?_
  show gj_G E _ mc_7 p e s m args below meth c _ 58 [some (.ref 3)] [(.ref 3)] (gj_u2 (gj_u2 A2 3 5 (i3 0)) 3 6 (i3 1)) B2
  refine cs_ord F11 (gj_ckc_o ck_7 rfl (j := 30) (q := (58, .iconst 1, 1, 0)) rfl rfl) ?_
  show gj_G E _ mc_7 p e s m args below meth c _ 59 [some (.ref 3)] [(.int (i3 1)), (.ref 3)] (gj_u2 (gj_u2 A2 3 5 (i3 0)) 3 6 (i3 1)) B2
  refine cs_ord F11 (gj_ckc_o ck_7 rfl (j := 31) (q := (59, .putfield 38, 3, 707)) rfl rfl) ?_
  show gj_G E _ mc_7 p e s m args below meth c _ 62 [some (.ref 3)] [] (gj_u2 (gj_u2 (gj_u2 A2 3 5 (i3 0)) 3 6 (i3 1)) 3 7 (i3 1)) B2
  refine cs_ord F11 (gj_ckc_o ck_7 rfl (j := 32) (q := (62, .aload_n 0, 1, 0)) rfl rfl) ?_
  show gj_G E _ mc_7 p e s m args below meth c _ 63 [some (.ref 3)] [(.ref 3)] (gj_u2 (gj_u2 (gj_u2 A2 3 5 (i3 0)) 3 6 (i3 1)) 3 7 (i3 1)) B2
  refine cs_ord F11 (gj_ckc_o ck_7 rfl (j := 33) (q := (63, .iconst 2, 1, 0)) rfl rfl) ?_
  show gj_G E _ mc_7 p e s m args below meth c _ 64 [some (.ref 3)] [(.int (i3 2)), (.ref 3)] (gj_u2 (gj_u2 (gj_u2 A2 3 5 (i3 0)) 3 6 (i3 1)) 3 7 (i3 1)) B2
  refine cs_ord F11 (gj_ckc_o ck_7 rfl (j := 34) (q := (64, .putfield 41, 3, 708)) rfl rfl) ?_
  show gj_G E _ mc_7 p e s m args below meth c _ 67 [some (.ref 3)] [] (gj_u2 (gj_u2 (gj_u2 (gj_u2 A2 3 5 (i3 0)) 3 6 (i3 1)) 3 7 (i3 1)) 3 8 (i3 2)) B2
  refine cs_ord F11 (gj_ckc_o ck_7 rfl (j := 35) (q := (67, .aload_n 0, 1, 0)) rfl rfl) ?_
  show gj_G E _ mc_7 p e s m args below meth c _ 68 [some (.ref 3)] [(.ref 3)] (gj_u2 (gj_u2 (gj_u2 (gj_u2 A2 3 5 (i3 0)) 3 6 (i3 1)) 3 7 (i3 1)) 3 8 (i3 2)) B2
  refine cs_ord F11 (gj_ckc_o ck_7 rfl (j := 36) (q := (68, .iconst 2, 1, 0)) rfl rfl) ?_
  show gj_G E _ mc_7 p e s m args below meth c _ 69 [some (.ref 3)] [(.int (i3 2)), (.ref 3)] (gj_u2 (gj_u2 (gj_u2 (gj_u2 A2 3 5 (i3 0)) 3 6 (i3 1)) 3 7 (i3 1)) 3 8 (i3 2)) B2
  refine cs_ord F11 (gj_ckc_o ck_7 rfl (j := 37) (q := (69, .putfield 44, 3, 709)) rfl rfl) ?_
  show gj_G E _ mc_7 p e s m args below meth c _ 72 [some (.ref 3)] [] (gj_u2 (gj_u2 (gj_u2 (gj_u2 (gj_u2 A2 3 5 (i3 0)) 3 6 (i3 1)) 3 7 (i3 1)) 3 8 (i3 2)) 3 9 (i3 2)) B2
  refine cs_ord F11 (gj_ckc_o ck_7 rfl (j := 38) (q := (72, .aload_n 0, 1, 0)) rfl rfl) ?_
  show gj_G E _ mc_7 p e s m args below meth c _ 73 [some (.ref 3)] [(.ref 3)] (gj_u2 (gj_u2 (gj_u2 (gj_u2 (gj_u2 A2 3 5 (i3 0)) 3 6 (i3 1)) 3 7 (i3 1)) 3 8 (i3 2)) 3 9 (i3 2)) B2
  refine cs_ord F11 (gj_ckc_o ck_7 rfl (j := 39) (q := (73, .iconst 1, 1, 0)) rfl rfl) ?_
  show gj_G E _ mc_7 p e s m args below meth c _ 74 [some (.ref 3)] [(.int (i3 1)), (.ref 3)] (gj_u2 (gj_u2 (gj_u2 (gj_u2 (gj_u2 A2 3 5 (i3 0)) 3 6 (i3 1)) 3 7 (i3 1)) 3 8 (i3 2)) 3 9 (i3 2)) B2
  refine cs_ord F11 (gj_ckc_o ck_7 rfl (j := 40) (q := (74, .putfield 47, 3, 710)) rfl rfl) ?_
  show gj_G E _ mc_7 p e s m args below meth c _ 77 [some (.ref 3)] [] (gj_u2 (gj_u2 (gj_u2 (gj_u2 (gj_u2 (gj_u2 A2 3 5 (i3 0)) 3 6 (i3 1)) 3 7 (i3 1)) 3 8 (i3 2)) 3 9 (i3 2)) 3 10 (i3 1)) B2
  refine cs_ord F11 (gj_ckc_o ck_7 rfl (j := 41) (q := (77, .aload_n 0, 1, 0)) rfl rfl) ?_
  show gj_G E _ mc_7 p e s m args below meth c _ 78 [some (.ref 3)] [(.ref 3)] (gj_u2 (gj_u2 (gj_u2 (gj_u2 (gj_u2 (gj_u2 A2 3 5 (i3 0)) 3 6 (i3 1)) 3 7 (i3 1)) 3 8 (i3 2)) 3 9 (i3 2)) 3 10 (i3 1)) B2
  refine cs_ord F11 (gj_ckc_o ck_7 rfl (j := 42) (q := (78, .iconst 0, 1, 0)) rfl rfl) ?_
  show gj_G E _ mc_7 p e s m args below meth c _ 79 [some (.ref 3)] [(.int (i3 0)), (.ref 3)] (gj_u2 (gj_u2 (gj_u2 (gj_u2 (gj_u2 (gj_u2 A2 3 5 (i3 0)) 3 6 (i3 1)) 3 7 (i3 1)) 3 8 (i3 2)) 3 9 (i3 2)) 3 10 (i3 1)) B2
  refine cs_ord F11 (gj_ckc_o ck_7 rfl (j := 43) (q := (79, .putfield 50, 3, 711)) rfl rfl) ?_
  show gj_G E _ mc_7 p e s m args below meth c _ 82 [some (.ref 3)] [] (gj_u2 (gj_u2 (gj_u2 (gj_u2 (gj_u2 (gj_u2 (gj_u2 A2 3 5 (i3 0)) 3 6 (i3 1)) 3 7 (i3 1)) 3 8 (i3 2)) 3 9 (i3 2)) 3 10 (i3 1)) 3 11 (i3 0)) B2
  refine cs_ord F11 (gj_ckc_o ck_7 rfl (j := 44) (q := (82, .aload_n 0, 1, 0)) rfl rfl) ?_
  show gj_G E _ mc_7 p e s m args below meth c _ 83 [some (.ref 3)] [(.ref 3)] (gj_u2 (gj_u2 (gj_u2 (gj_u2 (gj_u2 (gj_u2 (gj_u2 A2 3 5 (i3 0)) 3 6 (i3 1)) 3 7 (i3 1)) 3 8 (i3 2)) 3 9 (i3 2)) 3 10 (i3 1)) 3 11 (i3 0)) B2
  refine cs_ord F11 (gj_ckc_o ck_7 rfl (j := 45) (q := (83, .iconst 0, 1, 0)) rfl rfl) ?_
  show gj_G E _ mc_7 p e s m args below meth c _ 84 [some (.ref 3)] [(.int (i3 0)), (.ref 3)] (gj_u2 (gj_u2 (gj_u2 (gj_u2 (gj_u2 (gj_u2 (gj_u2 A2 3 5 (i3 0)) 3 6 (i3 1)) 3 7 (i3 1)) 3 8 (i3 2)) 3 9 (i3 2)) 3 10 (i3 1)) 3 11 (i3 0)) B2
  refine cs_ord F11 (gj_ckc_o ck_7 rfl (j := 46) (q := (84, .putfield 53, 3, 712)) rfl rfl) ?_
  show gj_G E _ mc_7 p e s m args below meth c _ 87 [some (.ref 3)] [] (gj_u2 (gj_u2 (gj_u2 (gj_u2 (gj_u2 (gj_u2 (gj_u2 (gj_u2 A2 3 5 (i3 0)) 3 6 (i3 1)) 3 7 (i3 1)) 3 8 (i3 2)) 3 9 (i3 2)) 3 10 (i3 1)) 3 11 (i3 0)) 3 12 (i3 0)) B2
  refine cs_ret F11 (gj_ckc_d ck_7 (j := 47) (q := (87, .return_, 1, 0)) rfl) rfl ?_
  have fF : FI (Lk 3 4 16) SI (gj_u2 (gj_u2 (gj_u2 (gj_u2 (gj_u2 (gj_u2 (gj_u2 (gj_u2 A2 3 5 (i3 0)) 3 6 (i3 1)) 3 7 (i3 1)) 3 8 (i3 2)) 3 9 (i3 2)) 3 10 (i3 1)) 3 11 (i3 0)) 3 12 (i3 0)) := ((((((((((FI.rf : FI (Lk 3 4 16) SI SI).tr (f2.le (fun o k z => by unfold Lk at z; unfold Lk; omega))).u (by unfold Lk; omega)).u (by unfold Lk; omega)).u (by unfold Lk; omega)).u (by unfold Lk; omega)).u (by unfold Lk; omega)).u (by unfold Lk; omega)).u (by unfold Lk; omega)).u (by unfold Lk; omega))
  have gF : FJ (Lk 3 4 16) SJ B2 := ((FJ.rf : FJ (Lk 3 4 16) SJ SJ).tr (g2.le (fun o k z => by unfold Lk at z; unfold Lk; omega)))
  have zF : ZZ 16 (gj_u2 (gj_u2 (gj_u2 (gj_u2 (gj_u2 (gj_u2 (gj_u2 (gj_u2 A2 3 5 (i3 0)) 3 6 (i3 1)) 3 7 (i3 1)) 3 8 (i3 2)) 3 9 (i3 2)) 3 10 (i3 1)) 3 11 (i3 0)) 3 12 (i3 0)) B2 := (((((((((z2.le (by omega) : ZZ 16 A2 B2).u (by omega)).u (by omega)).u (by omega)).u (by omega)).u (by omega)).u (by omega)).u (by omega)).u (by omega))
  have cF : FI (fun a _ => a = 3) A2 (gj_u2 (gj_u2 (gj_u2 (gj_u2 (gj_u2 (gj_u2 (gj_u2 (gj_u2 A2 3 5 (i3 0)) 3 6 (i3 1)) 3 7 (i3 1)) 3 8 (i3 2)) 3 9 (i3 2)) 3 10 (i3 1)) 3 11 (i3 0)) 3 12 (i3 0)) := (((((((((FI.rf : FI (fun a _ => a = 3) A2 A2).u rfl).u rfl).u rfl).u rfl).u rfl).u rfl).u rfl).u rfl)
  exact ⟨zF, fF, gF, k2.1.f cF ⟨by omega, fun k => by omega⟩, k2.2.f cF ⟨by omega, fun k => by omega⟩, rfl, rfl, rfl, rfl, rfl, rfl, rfl, rfl⟩
set_option maxHeartbeats 4000000 in
set_option maxRecDepth 20000 in
theorem mk_4_17 {E : gj_E} {SI : gj_I} {SJ : gj_J} (hz : ZZ 18 SI SJ) : gj_Mk E (18, gj_Rq 15) (25, gj_Rq 22) mc_4 7 184 [.ref 17] SI SJ (fun A B => ZZ 25 A B ∧ FI (Lk 17 18 25) SI A ∧ FJ (Lk 17 18 25) SJ B ∧ PX17 FZ A ∧ PD17 FZ A) := by
  refine cs_start (M := mc_4) rfl rfl rfl rfl ?_
  intro p e s m args below meth c hin F0
  refine cs_ord F0 (gj_ckc_o ck_4 rfl (j := 0) (q := (0, .aload_n 0, 1, 0)) rfl rfl) ?_
  show gj_G E _ mc_4 p e s m args below meth c _ 1 [some (.ref 17)] [(.ref 17)] SI SJ
  refine cs_obj (idx := 3) (pc := 1) (o := 17) F0 (gj_ckc_d ck_4 (j := 1) (q := (1, .invokespecial 3, 3, 99)) rfl) wob_X4 wobI wobC (by decide) (by decide) ?_
  show gj_G E _ mc_4 p e s m args below meth c _ 4 [some (.ref 17)] [] SI SJ
  refine cs_ord F0 (gj_ckc_o ck_4 rfl (j := 2) (q := (4, .aload_n 0, 1, 0)) rfl rfl) ?_
  show gj_G E _ mc_4 p e s m args below meth c _ 5 [some (.ref 17)] [(.ref 17)] SI SJ
  refine cs_ord F0 (gj_ckc_o ck_4 rfl (j := 3) (q := (5, .bipush 8, 2, 0)) rfl rfl) ?_
  show gj_G E _ mc_4 p e s m args below meth c _ 7 [some (.ref 17)] [(.int (i3 8)), (.ref 17)] SI SJ
  refine cs_arrI (n := 18) (N := 8) (pc := 7) F0 (gj_ckc_d ck_4 (j := 4) (q := (7, .newarray .int, 2, 0)) rfl) war_int rfl (by decide) (by decide) (by decide) rfl (fun k => hz 18 k (by omega)) (by decide) (by decide) (fun F1 => ?_)
  show gj_G E _ mc_4 p e s m args below meth c _ 9 [some (.ref 17)] [(.ref 18), (.ref 17)] SI SJ
  refine cs_ref (ci := 4) (q := (RX4, TX4, 9)) (o := 17) (k := 0) (v := 18) (idx := 9) (pc := 9) (r2 := gj_Rq 16) F1 hin (gj_ckc_d ck_4 (j := 5) (q := (9, .putfield 9, 3, 400)) rfl) rfl (gj_wF_in 400090400 (gj_ct rfl)) rfl (by decide) rfl (by decide) rfl rfl rfl (fun _ => rfl) (fun _ => rfl) (gj_Rq_1 (t := 15) rfl) (gj_Rq_2 (t := 15) rfl) (fun F2 => ?_)
  show gj_G E _ mc_4 p e s m args below meth c _ 12 [some (.ref 17)] [] SI SJ
  refine cs_ord F2 (gj_ckc_o ck_4 rfl (j := 6) (q := (12, .aload_n 0, 1, 0)) rfl rfl) ?_
  show gj_G E _ mc_4 p e s m args below meth c _ 13 [some (.ref 17)] [(.ref 17)] SI SJ
  refine cs_ord F2 (gj_ckc_o ck_4 rfl (j := 7) (q := (13, .bipush 8, 2, 0)) rfl rfl) ?_
  show gj_G E _ mc_4 p e s m args below meth c _ 15 [some (.ref 17)] [(.int (i3 8)), (.ref 17)] SI SJ
  refine cs_arrI (n := 19) (N := 8) (pc := 15) F2 (gj_ckc_d ck_4 (j := 8) (q := (15, .newarray .int, 2, 0)) rfl) war_int rfl (by decide) (by decide) (by decide) rfl (fun k => hz 19 k (by omega)) (by decide) (by decide) (fun F3 => ?_)
  show gj_G E _ mc_4 p e s m args below meth c _ 17 [some (.ref 17)] [(.ref 19), (.ref 17)] SI SJ
  refine cs_ref (ci := 4) (q := (RX4, TX4, 9)) (o := 17) (k := 1) (v := 19) (idx := 15) (pc := 17) (r2 := gj_Rq 17) F3 hin (gj_ckc_d ck_4 (j := 9) (q := (17, .putfield 15, 3, 401)) rfl) rfl (gj_wF_in 400150401 (gj_ct rfl)) rfl (by decide) rfl (by decide) rfl rfl rfl (fun _ => rfl) (fun _ => rfl) (gj_Rq_1 (t := 16) rfl) (gj_Rq_2 (t := 16) rfl) (fun F4 => ?_)
  show gj_G E _ mc_4 p e s m args below meth c _ 20 [some (.ref 17)] [] SI SJ
  refine cs_ord F4 (gj_ckc_o ck_4 rfl (j := 10) (q := (20, .aload_n 0, 1, 0)) rfl rfl) ?_
  show gj_G E _ mc_4 p e s m args below meth c _ 21 [some (.ref 17)] [(.ref 17)] SI SJ
  refine cs_ord F4 (gj_ckc_o ck_4 rfl (j := 11) (q := (21, .bipush 8, 2, 0)) rfl rfl) ?_
  show gj_G E _ mc_4 p e s m args below meth c _ 23 [some (.ref 17)] [(.int (i3 8)), (.ref 17)] SI SJ
  refine cs_arrI (n := 20) (N := 8) (pc := 23) F4 (gj_ckc_d ck_4 (j := 12) (q := (23, .newarray .int, 2, 0)) rfl) war_int rfl (by decide) (by decide) (by decide) rfl (fun k => hz 20 k (by omega)) (by decide) (by decide) (fun F5 => ?_)
  show gj_G E _ mc_4 p e s m args below meth c _ 25 [some (.ref 17)] [(.ref 20), (.ref 17)] SI SJ
  refine cs_ref (ci := 4) (q := (RX4, TX4, 9)) (o := 17) (k := 2) (v := 20) (idx := 18) (pc := 25) (r2 := gj_Rq 18) F5 hin (gj_ckc_d ck_4 (j := 13) (q := (25, .putfield 18, 3, 402)) rfl) rfl (gj_wF_in 400180402 (gj_ct rfl)) rfl (by decide) rfl (by decide) rfl rfl rfl (fun _ => rfl) (fun _ => rfl) (gj_Rq_1 (t := 17) rfl) (gj_Rq_2 (t := 17) rfl) (fun F6 => ?_)
  show gj_G E _ mc_4 p e s m args below meth c _ 28 [some (.ref 17)] [] SI SJ
  refine cs_ord F6 (gj_ckc_o ck_4 rfl (j := 14) (q := (28, .aload_n 0, 1, 0)) rfl rfl) ?_
  show gj_G E _ mc_4 p e s m args below meth c _ 29 [some (.ref 17)] [(.ref 17)] SI SJ
  refine cs_ord F6 (gj_ckc_o ck_4 rfl (j := 15) (q := (29, .bipush 8, 2, 0)) rfl rfl) ?_
  show gj_G E _ mc_4 p e s m args below meth c _ 31 [some (.ref 17)] [(.int (i3 8)), (.ref 17)] SI SJ
  refine cs_arrI (n := 21) (N := 8) (pc := 31) F6 (gj_ckc_d ck_4 (j := 16) (q := (31, .newarray .int, 2, 0)) rfl) war_int rfl (by decide) (by decide) (by decide) rfl (fun k => hz 21 k (by omega)) (by decide) (by decide) (fun F7 => ?_)
  show gj_G E _ mc_4 p e s m args below meth c _ 33 [some (.ref 17)] [(.ref 21), (.ref 17)] SI SJ
  refine cs_ref (ci := 4) (q := (RX4, TX4, 9)) (o := 17) (k := 3) (v := 21) (idx := 21) (pc := 33) (r2 := gj_Rq 19) F7 hin (gj_ckc_d ck_4 (j := 17) (q := (33, .putfield 21, 3, 403)) rfl) rfl (gj_wF_in 400210403 (gj_ct rfl)) rfl (by decide) rfl (by decide) rfl rfl rfl (fun _ => rfl) (fun _ => rfl) (gj_Rq_1 (t := 18) rfl) (gj_Rq_2 (t := 18) rfl) (fun F8 => ?_)
  show gj_G E _ mc_4 p e s m args below meth c _ 36 [some (.ref 17)] [] SI SJ
  refine cs_ord F8 (gj_ckc_o ck_4 rfl (j := 18) (q := (36, .aload_n 0, 1, 0)) rfl rfl) ?_
  show gj_G E _ mc_4 p e s m args below meth c _ 37 [some (.ref 17)] [(.ref 17)] SI SJ
  refine cs_ord F8 (gj_ckc_o ck_4 rfl (j := 19) (q := (37, .bipush 8, 2, 0)) rfl rfl) ?_
  show gj_G E _ mc_4 p e s m args below meth c _ 39 [some (.ref 17)] [(.int (i3 8)), (.ref 17)] SI SJ
  refine cs_arrI (n := 22) (N := 8) (pc := 39) F8 (gj_ckc_d ck_4 (j := 20) (q := (39, .newarray .int, 2, 0)) rfl) war_int rfl (by decide) (by decide) (by decide) rfl (fun k => hz 22 k (by omega)) (by decide) (by decide) (fun F9 => ?_)
  show gj_G E _ mc_4 p e s m args below meth c _ 41 [some (.ref 17)] [(.ref 22), (.ref 17)] SI SJ
  refine cs_ref (ci := 4) (q := (RX4, TX4, 9)) (o := 17) (k := 4) (v := 22) (idx := 24) (pc := 41) (r2 := gj_Rq 20) F9 hin (gj_ckc_d ck_4 (j := 21) (q := (41, .putfield 24, 3, 404)) rfl) rfl (gj_wF_in 400240404 (gj_ct rfl)) rfl (by decide) rfl (by decide) rfl rfl rfl (fun _ => rfl) (fun _ => rfl) (gj_Rq_1 (t := 19) rfl) (gj_Rq_2 (t := 19) rfl) (fun F10 => ?_)
  show gj_G E _ mc_4 p e s m args below meth c _ 44 [some (.ref 17)] [] SI SJ
  refine cs_ord F10 (gj_ckc_o ck_4 rfl (j := 22) (q := (44, .aload_n 0, 1, 0)) rfl rfl) ?_
  show gj_G E _ mc_4 p e s m args below meth c _ 45 [some (.ref 17)] [(.ref 17)] SI SJ
  refine cs_ord F10 (gj_ckc_o ck_4 rfl (j := 23) (q := (45, .bipush 72, 2, 0)) rfl rfl) ?_
  show gj_G E _ mc_4 p e s m args below meth c _ 47 [some (.ref 17)] [(.int (i3 72)), (.ref 17)] SI SJ
  refine cs_arrI (n := 23) (N := 72) (pc := 47) F10 (gj_ckc_d ck_4 (j := 24) (q := (47, .newarray .int, 2, 0)) rfl) war_int rfl (by decide) (by decide) (by decide) rfl (fun k => hz 23 k (by omega)) (by decide) (by decide) (fun F11 => ?_)
  show gj_G E _ mc_4 p e s m args below meth c _ 49 [some (.ref 17)] [(.ref 23), (.ref 17)] SI SJ
  refine cs_ref (ci := 4) (q := (RX4, TX4, 9)) (o := 17) (k := 5) (v := 23) (idx := 27) (pc := 49) (r2 := gj_Rq 21) F11 hin (gj_ckc_d ck_4 (j := 25) (q := (49, .putfield 27, 3, 405)) rfl) rfl (gj_wF_in 400270405 (gj_ct rfl)) rfl (by decide) rfl (by decide) rfl rfl rfl (fun _ => rfl) (fun _ => rfl) (gj_Rq_1 (t := 20) rfl) (gj_Rq_2 (t := 20) rfl) (fun F12 => ?_)
  show gj_G E _ mc_4 p e s m args below meth c _ 52 [some (.ref 17)] [] SI SJ
  refine cs_ord F12 (gj_ckc_o ck_4 rfl (j := 26) (q := (52, .aload_n 0, 1, 0)) rfl rfl) ?_
  show gj_G E _ mc_4 p e s m args below meth c _ 53 [some (.ref 17)] [(.ref 17)] SI SJ
  refine cs_ord F12 (gj_ckc_o ck_4 rfl (j := 27) (q := (53, .bipush 72, 2, 0)) rfl rfl) ?_
  show gj_G E _ mc_4 p e s m args below meth c _ 55 [some (.ref 17)] [(.int (i3 72)), (.ref 17)] SI SJ
  refine cs_arrI (n := 24) (N := 72) (pc := 55) F12 (gj_ckc_d ck_4 (j := 28) (q := (55, .newarray .int, 2, 0)) rfl) war_int rfl (by decide) (by decide) (by decide) rfl (fun k => hz 24 k (by omega)) (by decide) (by decide) (fun F13 => ?_)
  show gj_G E _ mc_4 p e s m args below meth c _ 57 [some (.ref 17)] [(.ref 24), (.ref 17)] SI SJ
  refine cs_ref (ci := 4) (q := (RX4, TX4, 9)) (o := 17) (k := 6) (v := 24) (idx := 30) (pc := 57) (r2 := gj_Rq 22) F13 hin (gj_ckc_d ck_4 (j := 29) (q := (57, .putfield 30, 3, 406)) rfl) rfl (gj_wF_in 400300406 (gj_ct rfl)) rfl (by decide) rfl (by decide) rfl rfl rfl (fun _ => rfl) (fun _ => rfl) (gj_Rq_1 (t := 21) rfl) (gj_Rq_2 (t := 21) rfl) (fun F14 => ?_)
  show gj_G E _ mc_4 p e s m args below meth c _ 60 [some (.ref 17)] [] SI SJ
  refine cs_ord F14 (gj_ckc_o ck_4 rfl (j := 30) (q := (60, .aload_n 0, 1, 0)) rfl rfl) ?_
  show gj_G E _ mc_4 p e s m args below meth c _ 61 [some (.ref 17)] [(.ref 17)] SI SJ
  refine cs_ord F14 (gj_ckc_o ck_4 rfl (j := 31) (q := (61, .iconst 4, 1, 0)) rfl rfl) ?_
  show gj_G E _ mc_4 p e s m args below meth c _ 62 [some (.ref 17)] [(.int (i3 4)), (.ref 17)] SI SJ
  refine cs_ord F14 (gj_ckc_o ck_4 rfl (j := 32) (q := (62, .putfield 33, 3, 407)) rfl rfl) ?_
  show gj_G E _ mc_4 p e s m args below meth c _ 65 [some (.ref 17)] [] (gj_u2 SI 17 7 (i3 4)) SJ
  refine cs_ord F14 (gj_ckc_o ck_4 rfl (j := 33) (q := (65, .aload_n 0, 1, 0)) rfl rfl) ?_
  show gj_G E _ mc_4 p e s m args below meth c _ 66 [some (.ref 17)] [(.ref 17)] (gj_u2 SI 17 7 (i3 4)) SJ
  refine cs_ord F14 (gj_ckc_o ck_4 rfl (j := 34) (q := (66, .iconst 0, 1, 0)) rfl rfl) ?_
  show gj_G E _ mc_4 p e s m args below meth c _ 67 [some (.ref 17)] [(.int (i3 0)), (.ref 17)] (gj_u2 SI 17 7 (i3 4)) SJ
  refine cs_ord F14 (gj_ckc_o ck_4 rfl (j := 35) (q := (67, .putfield 37, 3, 408)) rfl rfl) ?_
  show gj_G E _ mc_4 p e s m args below meth c _ 70 [some (.ref 17)] [] (gj_u2 (gj_u2 SI 17 7 (i3 4)) 17 8 (i3 0)) SJ
  refine cs_ord F14 (gj_ckc_o ck_4 rfl (j := 36) (q := (70, .aload_n 0, 1, 0)) rfl rfl) ?_
  show gj_G E _ mc_4 p e s m args below meth c _ 71 [some (.ref 17)] [(.ref 17)] (gj_u2 (gj_u2 SI 17 7 (i3 4)) 17 8 (i3 0)) SJ
  refine cs_ord F14 (gj_ckc_o ck_4 rfl (j := 37) (q := (71, .getfield 9, 3, 400)) rfl rfl) ?_
  show gj_G E _ mc_4 p e s m args below meth c _ 74 [some (.ref 17)] [(.ref 18)] (gj_u2 (gj_u2 SI 17 7 (i3 4)) 17 8 (i3 0)) SJ
  refine cs_ord F14 (gj_ckc_o ck_4 rfl (j := 38) (q := (74, .iconst 1, 1, 0)) rfl rfl) ?_
  show gj_G E _ mc_4 p e s m args below meth c _ 75 [some (.ref 17)] [(.int (i3 1)), (.ref 18)] (gj_u2 (gj_u2 SI 17 7 (i3 4)) 17 8 (i3 0)) SJ
  refine cs_ord F14 (gj_ckc_o ck_4 rfl (j := 39) (q := (75, .iconst 4, 1, 0)) rfl rfl) ?_
  show gj_G E _ mc_4 p e s m args below meth c _ 76 [some (.ref 17)] [(.int (i3 4)), (.int (i3 1)), (.ref 18)] (gj_u2 (gj_u2 SI 17 7 (i3 4)) 17 8 (i3 0)) SJ
  refine cs_ord F14 (gj_ckc_o ck_4 rfl (j := 40) (q := (76, .iastore, 1, 0)) rfl rfl) ?_
  refine And.intro ((i3_in (by omega) (by omega)).mpr (by omega) : vp_in (i3 1) 8) ?_
  show gj_G E _ mc_4 p e s m args below meth c _ 77 [some (.ref 17)] [] (gj_u2 (gj_u2 (gj_u2 SI 17 7 (i3 4)) 17 8 (i3 0)) 18 1 (i3 4)) SJ
  refine cs_ord F14 (gj_ckc_o ck_4 rfl (j := 41) (q := (77, .aload_n 0, 1, 0)) rfl rfl) ?_
  show gj_G E _ mc_4 p e s m args below meth c _ 78 [some (.ref 17)] [(.ref 17)] (gj_u2 (gj_u2 (gj_u2 SI 17 7 (i3 4)) 17 8 (i3 0)) 18 1 (i3 4)) SJ
  refine cs_ord F14 (gj_ckc_o ck_4 rfl (j := 42) (q := (78, .getfield 9, 3, 400)) rfl rfl) ?_
  show gj_G E _ mc_4 p e s m args below meth c _ 81 [some (.ref 17)] [(.ref 18)] (gj_u2 (gj_u2 (gj_u2 SI 17 7 (i3 4)) 17 8 (i3 0)) 18 1 (i3 4)) SJ
  refine cs_ord F14 (gj_ckc_o ck_4 rfl (j := 43) (q := (81, .iconst 2, 1, 0)) rfl rfl) ?_
  show gj_G E _ mc_4 p e s m args below meth c _ 82 [some (.ref 17)] [(.int (i3 2)), (.ref 18)] (gj_u2 (gj_u2 (gj_u2 SI 17 7 (i3 4)) 17 8 (i3 0)) 18 1 (i3 4)) SJ
  refine cs_ord F14 (gj_ckc_o ck_4 rfl (j := 44) (q := (82, .iconst 4, 1, 0)) rfl rfl) ?_
  show gj_G E _ mc_4 p e s m args below meth c _ 83 [some (.ref 17)] [(.int (i3 4)), (.int (i3 2)), (.ref 18)] (gj_u2 (gj_u2 (gj_u2 SI 17 7 (i3 4)) 17 8 (i3 0)) 18 1 (i3 4)) SJ
  refine cs_ord F14 (gj_ckc_o ck_4 rfl (j := 45) (q := (83, .iastore, 1, 0)) rfl rfl) ?_
  refine And.intro ((i3_in (by omega) (by omega)).mpr (by omega) : vp_in (i3 2) 8) ?_
  show gj_G E _ mc_4 p e s m args below meth c _ 84 [some (.ref 17)] [] (gj_u2 (gj_u2 (gj_u2 (gj_u2 SI 17 7 (i3 4)) 17 8 (i3 0)) 18 1 (i3 4)) 18 2 (i3 4)) SJ
  refine cs_ord F14 (gj_ckc_o ck_4 rfl (j := 46) (q := (84, .aload_n 0, 1, 0)) rfl rfl) ?_
  show gj_G E _ mc_4 p e s m args below meth c _ 85 [some (.ref 17)] [(.ref 17)] (gj_u2 (gj_u2 (gj_u2 (gj_u2 SI 17 7 (i3 4)) 17 8 (i3 0)) 18 1 (i3 4)) 18 2 (i3 4)) SJ
  refine cs_ord F14 (gj_ckc_o ck_4 rfl (j := 47) (q := (85, .getfield 15, 3, 401)) rfl rfl) ?_
  show gj_G E _ mc_4 p e s m args below meth c _ 88 [some (.ref 17)] [(.ref 19)] (gj_u2 (gj_u2 (gj_u2 (gj_u2 SI 17 7 (i3 4)) 17 8 (i3 0)) 18 1 (i3 4)) 18 2 (i3 4)) SJ
  refine cs_ord F14 (gj_ckc_o ck_4 rfl (j := 48) (q := (88, .iconst 2, 1, 0)) rfl rfl) ?_
  show gj_G E _ mc_4 p e s m args below meth c _ 89 [some (.ref 17)] [(.int (i3 2)), (.ref 19)] (gj_u2 (gj_u2 (gj_u2 (gj_u2 SI 17 7 (i3 4)) 17 8 (i3 0)) 18 1 (i3 4)) 18 2 (i3 4)) SJ
  refine cs_ord F14 (gj_ckc_o ck_4 rfl (j := 49) (q := (89, .iconst 4, 1, 0)) rfl rfl) ?_
  show gj_G E _ mc_4 p e s m args below meth c _ 90 [some (.ref 17)] [(.int (i3 4)), (.int (i3 2)), (.ref 19)] (gj_u2 (gj_u2 (gj_u2 (gj_u2 SI 17 7 (i3 4)) 17 8 (i3 0)) 18 1 (i3 4)) 18 2 (i3 4)) SJ
  refine cs_ord F14 (gj_ckc_o ck_4 rfl (j := 50) (q := (90, .iastore, 1, 0)) rfl rfl) ?_
  refine And.intro ((i3_in (by omega) (by omega)).mpr (by omega) : vp_in (i3 2) 8) ?_
  show gj_G E _ mc_4 p e s m args below meth c _ 91 [some (.ref 17)] [] (gj_u2 (gj_u2 (gj_u2 (gj_u2 (gj_u2 SI 17 7 (i3 4)) 17 8 (i3 0)) 18 1 (i3 4)) 18 2 (i3 4)) 19 2 (i3 4)) SJ
  refine cs_ord F14 (gj_ckc_o ck_4 rfl (j := 51) (q := (91, .aload_n 0, 1, 0)) rfl rfl) ?_
  show gj_G E _ mc_4 p e s m args below meth c _ 92 [some (.ref 17)] [(.ref 17)] (gj_u2 (gj_u2 (gj_u2 (gj_u2 (gj_u2 SI 17 7 (i3 4)) 17 8 (i3 0)) 18 1 (i3 4)) 18 2 (i3 4)) 19 2 (i3 4)) SJ
  refine cs_ord F14 (gj_ckc_o ck_4 rfl (j := 52) (q := (92, .getfield 15, 3, 401)) rfl rfl) ?_
  show gj_G E _ mc_4 p e s m args below meth c _ 95 [some (.ref 17)] [(.ref 19)] (gj_u2 (gj_u2 (gj_u2 (gj_u2 (gj_u2 SI 17 7 (i3 4)) 17 8 (i3 0)) 18 1 (i3 4)) 18 2 (i3 4)) 19 2 (i3 4)) SJ
  refine cs_ord F14 (gj_ckc_o ck_4 rfl (j := 53) (q := (95, .iconst 3, 1, 0)) rfl rfl) ?_
  show gj_G E _ mc_4 p e s m args below meth c _ 96 [some (.ref 17)] [(.int (i3 3)), (.ref 19)] (gj_u2 (gj_u2 (gj_u2 (gj_u2 (gj_u2 SI 17 7 (i3 4)) 17 8 (i3 0)) 18 1 (i3 4)) 18 2 (i3 4)) 19 2 (i3 4)) SJ
  refine cs_ord F14 (gj_ckc_o ck_4 rfl (j := 54) (q := (96, .iconst 4, 1, 0)) rfl rfl) ?_
  show gj_G E _ mc_4 p e s m args below meth c _ 97 [some (.ref 17)] [(.int (i3 4)), (.int (i3 3)), (.ref 19)] (gj_u2 (gj_u2 (gj_u2 (gj_u2 (gj_u2 SI 17 7 (i3 4)) 17 8 (i3 0)) 18 1 (i3 4)) 18 2 (i3 4)) 19 2 (i3 4)) SJ
  refine cs_ord F14 (gj_ckc_o ck_4 rfl (j := 55) (q := (97, .iastore, 1, 0)) rfl rfl) ?_
  refine And.intro ((i3_in (by omega) (by omega)).mpr (by omega) : vp_in (i3 3) 8) ?_
  show gj_G E _ mc_4 p e s m args below meth c _ 98 [some (.ref 17)] [] (gj_u2 (gj_u2 (gj_u2 (gj_u2 (gj_u2 (gj_u2 SI 17 7 (i3 4)) 17 8 (i3 0)) 18 1 (i3 4)) 18 2 (i3 4)) 19 2 (i3 4)) 19 3 (i3 4)) SJ
  refine cs_ord F14 (gj_ckc_o ck_4 rfl (j := 56) (q := (98, .aload_n 0, 1, 0)) rfl rfl) ?_
  show gj_G E _ mc_4 p e s m args below meth c _ 99 [some (.ref 17)] [(.ref 17)] (gj_u2 (gj_u2 (gj_u2 (gj_u2 (gj_u2 (gj_u2 SI 17 7 (i3 4)) 17 8 (i3 0)) 18 1 (i3 4)) 18 2 (i3 4)) 19 2 (i3 4)) 19 3 (i3 4)) SJ
  refine cs_ord F14 (gj_ckc_o ck_4 rfl (j := 57) (q := (99, .invokevirtual 40, 3, 402801)) rfl rfl) ?_
  have hX0 : PX17 FZ (gj_u2 (gj_u2 (gj_u2 (gj_u2 (gj_u2 (gj_u2 SI 17 7 (i3 4)) 17 8 (i3 0)) 18 1 (i3 4)) 18 2 (i3 4)) 19 2 (i3 4)) 19 3 (i3 4)) := by
    refine ⟨rfl, ?_⟩
    rw [FZ_nC]
    intro i hi
    have c0 : i = 0 ∨ i = 1 ∨ i = 2 ∨ i = 3 := by omega
    rcases c0 with rfl | rfl | rfl | rfl
    · exact ⟨(hz 18 0 (by omega)).1, (hz 19 0 (by omega)).1⟩
    · exact ⟨rfl, (hz 19 1 (by omega)).1⟩
    · exact ⟨rfl, rfl⟩
    · exact ⟨(hz 18 3 (by omega)).1, rfl⟩
  refine gj_Do.mono (sp_derive17q (E := E) (Q := fun A B => (FI LD17 (gj_u2 (gj_u2 (gj_u2 (gj_u2 (gj_u2 (gj_u2 SI 17 7 (i3 4)) 17 8 (i3 0)) 18 1 (i3 4)) 18 2 (i3 4)) 19 2 (i3 4)) 19 3 (i3 4)) A ∧ PD17 FZ A) ∧ B = SJ) hX0 FZ_Wp (fun A fA hD => ⟨⟨fA, hD⟩, rfl⟩)) (fun v_ A B hv => ?_)
  obtain ⟨rfl, ⟨fD, hD⟩, rfl⟩ := hv
  show gj_G E _ mc_4 p e s m args below meth c _ 102 [some (.ref 17)] [] A B
  refine cs_ret F14 (gj_ckc_d ck_4 (j := 58) (q := (102, .return_, 1, 0)) rfl) rfl ?_
  have fF : FI (Lk 17 18 25) SI A := ((((((((FI.rf : FI (Lk 17 18 25) SI SI).u (by unfold Lk; omega)).u (by unfold Lk; omega)).u (by unfold Lk; omega)).u (by unfold Lk; omega)).u (by unfold Lk; omega)).u (by unfold Lk; omega))).tr (fD.le (fun o k z => by unfold LD17 at z; unfold Lk; omega))
  have hzA : ZZ 25 A B := fun o k ho => ⟨by rw [fF o k (by unfold Lk; omega)]; exact (hz o k (by omega)).1, (hz o k (by omega)).2⟩
  exact ⟨hzA, fF, FJ.rf, hX0.f fD (by unfold LD17; exact ⟨by omega, fun k => by omega⟩), hD⟩
set_option maxHeartbeats 4000000 in
set_option maxRecDepth 20000 in
theorem mk_7_16 {E : gj_E} {SI : gj_I} {SJ : gj_J} (hz : ZZ 17 SI SJ) : gj_Mk E (17, gj_Rq 15) (29, gj_Rq 27) mc_7 12 303 [.ref 16] SI SJ (fun A B => ZZ 29 A B ∧ FI (Lk 16 17 29) SI A ∧ FJ (Lk 16 17 29) SJ B ∧ True) := by
  refine cs_start (M := mc_7) rfl rfl rfl rfl ?_
  intro p e s m args below meth c hin F0
  refine cs_ord F0 (gj_ckc_o ck_7 rfl (j := 0) (q := (0, .aload_n 0, 1, 0)) rfl rfl) ?_
  show gj_G E _ mc_7 p e s m args below meth c _ 1 [some (.ref 16)] [(.ref 16)] SI SJ
  refine cs_obj (idx := 3) (pc := 1) (o := 16) F0 (gj_ckc_d ck_7 (j := 1) (q := (1, .invokespecial 3, 3, 99)) rfl) wob_X7 wobI wobC (by decide) (by decide) ?_
  show gj_G E _ mc_7 p e s m args below meth c _ 4 [some (.ref 16)] [] SI SJ
  refine cs_ord F0 (gj_ckc_o ck_7 rfl (j := 2) (q := (4, .aload_n 0, 1, 0)) rfl rfl) ?_
  show gj_G E _ mc_7 p e s m args below meth c _ 5 [some (.ref 16)] [(.ref 16)] SI SJ
  refine cs_new (ci := 4) (q := (RX4, TX4, 9)) (n := 17) (idx := 9) (pc := 5) F0 (gj_ckc_d ck_7 (j := 3) (q := (5, .new 9, 3, 4)) rfl) rfl wcl_X7_9 win_4 wii_4 (by decide) rfl rfl (fun k => hz 17 k (by omega)) (fun k _ => rfl) (by decide) (by decide) (fun F1 => ?_)
  show gj_G E _ mc_7 p e s m args below meth c _ 8 [some (.ref 16)] [(.ref 17), (.ref 16)] SI SJ
  refine cs_ord F1 (gj_ckc_o ck_7 rfl (j := 4) (q := (8, .dup, 1, 0)) rfl rfl) ?_
  show gj_G E _ mc_7 p e s m args below meth c _ 9 [some (.ref 16)] [(.ref 17), (.ref 17), (.ref 16)] SI SJ
  refine cs_init (M2 := mc_4) (idx := 11) (pc := 9) (o := 17) F1 (gj_ckc_d ck_7 (j := 5) (q := (9, .invokespecial 11, 3, 4)) rfl) mok_7_11 rfl wim_4 rfl (mk_4_17 (E := E) (hz.le (by omega))) rfl (by decide) (by decide) (by decide) (fun A2 B2 h2 F2 => ?_)
  obtain ⟨z2, f2, g2, k2⟩ := h2
  show gj_G E _ mc_7 p e s m args below meth c _ 12 [some (.ref 16)] [(.ref 17), (.ref 16)] A2 B2
  refine cs_ref (ci := 7) (q := (RX7, TX7, 13)) (o := 16) (k := 0) (v := 17) (idx := 12) (pc := 12) (r2 := gj_Rq 23) F2 hin (gj_ckc_d ck_7 (j := 6) (q := (12, .putfield 12, 3, 700)) rfl) rfl (gj_wF_in 700120700 (gj_ct rfl)) rfl (by decide) rfl (by decide) rfl rfl rfl (fun _ => rfl) (fun _ => rfl) (gj_Rq_1 (t := 22) rfl) (gj_Rq_2 (t := 22) rfl) (fun F3 => ?_)
  show gj_G E _ mc_7 p e s m args below meth c _ 15 [some (.ref 16)] [] A2 B2
  refine cs_ord F3 (gj_ckc_o ck_7 rfl (j := 7) (q := (15, .aload_n 0, 1, 0)) rfl rfl) ?_
  show gj_G E _ mc_7 p e s m args below meth c _ 16 [some (.ref 16)] [(.ref 16)] A2 B2
  refine cs_ord F3 (gj_ckc_o ck_7 rfl (j := 8) (q := (16, .bipush 6, 2, 0)) rfl rfl) ?_
  show gj_G E _ mc_7 p e s m args below meth c _ 18 [some (.ref 16)] [(.int (i3 6)), (.ref 16)] A2 B2
  refine cs_arrI (n := 25) (N := 6) (pc := 18) F3 (gj_ckc_d ck_7 (j := 9) (q := (18, .newarray .int, 2, 0)) rfl) war_int rfl (by decide) (by decide) (by decide) rfl (fun k => z2 25 k (by omega)) (by decide) (by decide) (fun F4 => ?_)
  show gj_G E _ mc_7 p e s m args below meth c _ 20 [some (.ref 16)] [(.ref 25), (.ref 16)] A2 B2
  refine cs_ref (ci := 7) (q := (RX7, TX7, 13)) (o := 16) (k := 1) (v := 25) (idx := 18) (pc := 20) (r2 := gj_Rq 24) F4 hin (gj_ckc_d ck_7 (j := 10) (q := (20, .putfield 18, 3, 701)) rfl) rfl (gj_wF_in 700180701 (gj_ct rfl)) rfl (by decide) rfl (by decide) rfl rfl rfl (fun _ => rfl) (fun _ => rfl) (gj_Rq_1 (t := 23) rfl) (gj_Rq_2 (t := 23) rfl) (fun F5 => ?_)
  show gj_G E _ mc_7 p e s m args below meth c _ 23 [some (.ref 16)] [] A2 B2
  refine cs_ord F5 (gj_ckc_o ck_7 rfl (j := 11) (q := (23, .aload_n 0, 1, 0)) rfl rfl) ?_
  show gj_G E _ mc_7 p e s m args below meth c _ 24 [some (.ref 16)] [(.ref 16)] A2 B2
  refine cs_ord F5 (gj_ckc_o ck_7 rfl (j := 12) (q := (24, .bipush 6, 2, 0)) rfl rfl) ?_
  show gj_G E _ mc_7 p e s m args below meth c _ 26 [some (.ref 16)] [(.int (i3 6)), (.ref 16)] A2 B2
  refine cs_arrI (n := 26) (N := 6) (pc := 26) F5 (gj_ckc_d ck_7 (j := 13) (q := (26, .newarray .int, 2, 0)) rfl) war_int rfl (by decide) (by decide) (by decide) rfl (fun k => z2 26 k (by omega)) (by decide) (by decide) (fun F6 => ?_)
  show gj_G E _ mc_7 p e s m args below meth c _ 28 [some (.ref 16)] [(.ref 26), (.ref 16)] A2 B2
  refine cs_ref (ci := 7) (q := (RX7, TX7, 13)) (o := 16) (k := 2) (v := 26) (idx := 22) (pc := 28) (r2 := gj_Rq 25) F6 hin (gj_ckc_d ck_7 (j := 14) (q := (28, .putfield 22, 3, 702)) rfl) rfl (gj_wF_in 700220702 (gj_ct rfl)) rfl (by decide) rfl (by decide) rfl rfl rfl (fun _ => rfl) (fun _ => rfl) (gj_Rq_1 (t := 24) rfl) (gj_Rq_2 (t := 24) rfl) (fun F7 => ?_)
  show gj_G E _ mc_7 p e s m args below meth c _ 31 [some (.ref 16)] [] A2 B2
  refine cs_ord F7 (gj_ckc_o ck_7 rfl (j := 15) (q := (31, .aload_n 0, 1, 0)) rfl rfl) ?_
  show gj_G E _ mc_7 p e s m args below meth c _ 32 [some (.ref 16)] [(.ref 16)] A2 B2
  refine cs_ord F7 (gj_ckc_o ck_7 rfl (j := 16) (q := (32, .bipush 80, 2, 0)) rfl rfl) ?_
  show gj_G E _ mc_7 p e s m args below meth c _ 34 [some (.ref 16)] [(.int (i3 80)), (.ref 16)] A2 B2
  refine cs_arrI (n := 27) (N := 80) (pc := 34) F7 (gj_ckc_d ck_7 (j := 17) (q := (34, .newarray .int, 2, 0)) rfl) war_int rfl (by decide) (by decide) (by decide) rfl (fun k => z2 27 k (by omega)) (by decide) (by decide) (fun F8 => ?_)
  show gj_G E _ mc_7 p e s m args below meth c _ 36 [some (.ref 16)] [(.ref 27), (.ref 16)] A2 B2
  refine cs_ref (ci := 7) (q := (RX7, TX7, 13)) (o := 16) (k := 3) (v := 27) (idx := 25) (pc := 36) (r2 := gj_Rq 26) F8 hin (gj_ckc_d ck_7 (j := 18) (q := (36, .putfield 25, 3, 703)) rfl) rfl (gj_wF_in 700250703 (gj_ct rfl)) rfl (by decide) rfl (by decide) rfl rfl rfl (fun _ => rfl) (fun _ => rfl) (gj_Rq_1 (t := 25) rfl) (gj_Rq_2 (t := 25) rfl) (fun F9 => ?_)
  show gj_G E _ mc_7 p e s m args below meth c _ 39 [some (.ref 16)] [] A2 B2
  refine cs_ord F9 (gj_ckc_o ck_7 rfl (j := 19) (q := (39, .aload_n 0, 1, 0)) rfl rfl) ?_
  show gj_G E _ mc_7 p e s m args below meth c _ 40 [some (.ref 16)] [(.ref 16)] A2 B2
  refine cs_ord F9 (gj_ckc_o ck_7 rfl (j := 20) (q := (40, .bipush 18, 2, 0)) rfl rfl) ?_
  show gj_G E _ mc_7 p e s m args below meth c _ 42 [some (.ref 16)] [(.int (i3 18)), (.ref 16)] A2 B2
  refine cs_arrI (n := 28) (N := 18) (pc := 42) F9 (gj_ckc_d ck_7 (j := 21) (q := (42, .newarray .int, 2, 0)) rfl) war_int rfl (by decide) (by decide) (by decide) rfl (fun k => z2 28 k (by omega)) (by decide) (by decide) (fun F10 => ?_)
  show gj_G E _ mc_7 p e s m args below meth c _ 44 [some (.ref 16)] [(.ref 28), (.ref 16)] A2 B2
  refine cs_ref (ci := 7) (q := (RX7, TX7, 13)) (o := 16) (k := 4) (v := 28) (idx := 28) (pc := 44) (r2 := gj_Rq 27) F10 hin (gj_ckc_d ck_7 (j := 22) (q := (44, .putfield 28, 3, 704)) rfl) rfl (gj_wF_in 700280704 (gj_ct rfl)) rfl (by decide) rfl (by decide) rfl rfl rfl (fun _ => rfl) (fun _ => rfl) (gj_Rq_1 (t := 26) rfl) (gj_Rq_2 (t := 26) rfl) (fun F11 => ?_)
  show gj_G E _ mc_7 p e s m args below meth c _ 47 [some (.ref 16)] [] A2 B2
  refine cs_ord F11 (gj_ckc_o ck_7 rfl (j := 23) (q := (47, .aload_n 0, 1, 0)) rfl rfl) ?_
  show gj_G E _ mc_7 p e s m args below meth c _ 48 [some (.ref 16)] [(.ref 16)] A2 B2
  refine cs_ord F11 (gj_ckc_o ck_7 rfl (j := 24) (q := (48, .iconst 0, 1, 0)) rfl rfl) ?_
  show gj_G E _ mc_7 p e s m args below meth c _ 49 [some (.ref 16)] [(.int (i3 0)), (.ref 16)] A2 B2
  refine cs_ord F11 (gj_ckc_o ck_7 rfl (j := 25) (q := (49, .putfield 31, 3, 705)) rfl rfl) ?_
  show gj_G E _ mc_7 p e s m args below meth c _ 52 [some (.ref 16)] [] (gj_u2 A2 16 5 (i3 0)) B2
  refine cs_ord F11 (gj_ckc_o ck_7 rfl (j := 26) (q := (52, .aload_n 0, 1, 0)) rfl rfl) ?_
  show gj_G E _ mc_7 p e s m args below meth c _ 53 [some (.ref 16)] [(.ref 16)] (gj_u2 A2 16 5 (i3 0)) B2
  refine cs_ord F11 (gj_ckc_o ck_7 rfl (j := 27) (q := (53, .iconst 1, 1, 0)) rfl rfl) ?_
  show gj_G E _ mc_7 p e s m args below meth c _ 54 [some (.ref 16)] [(.int (i3 1)), (.ref 16)] (gj_u2 A2 16 5 (i3 0)) B2
  refine cs_ord F11 (gj_ckc_o ck_7 rfl (j := 28) (q := (54, .putfield 35, 3, 706)) rfl rfl) ?_
  show gj_G E _ mc_7 p e s m args below meth c _ 57 [some (.ref 16)] [] (gj_u2 (gj_u2 A2 16 5 (i3 0)) 16 6 (i3 1)) B2
  refine cs_ord F11 (gj_ckc_o ck_7 rfl (j := 29) (q := (57, .aload_n 0, 1, 0)) rfl rfl) ?_
  show gj_G E _ mc_7 p e s m args below meth c _ 58 [some (.ref 16)] [(.ref 16)] (gj_u2 (gj_u2 A2 16 5 (i3 0)) 16 6 (i3 1)) B2
  refine cs_ord F11 (gj_ckc_o ck_7 rfl (j := 30) (q := (58, .iconst 1, 1, 0)) rfl rfl) ?_
  show gj_G E _ mc_7 p e s m args below meth c _ 59 [some (.ref 16)] [(.int (i3 1)), (.ref 16)] (gj_u2 (gj_u2 A2 16 5 (i3 0)) 16 6 (i3 1)) B2
  refine cs_ord F11 (gj_ckc_o ck_7 rfl (j := 31) (q := (59, .putfield 38, 3, 707)) rfl rfl) ?_
  show gj_G E _ mc_7 p e s m args below meth c _ 62 [some (.ref 16)] [] (gj_u2 (gj_u2 (gj_u2 A2 16 5 (i3 0)) 16 6 (i3 1)) 16 7 (i3 1)) B2
  refine cs_ord F11 (gj_ckc_o ck_7 rfl (j := 32) (q := (62, .aload_n 0, 1, 0)) rfl rfl) ?_
  show gj_G E _ mc_7 p e s m args below meth c _ 63 [some (.ref 16)] [(.ref 16)] (gj_u2 (gj_u2 (gj_u2 A2 16 5 (i3 0)) 16 6 (i3 1)) 16 7 (i3 1)) B2
  refine cs_ord F11 (gj_ckc_o ck_7 rfl (j := 33) (q := (63, .iconst 2, 1, 0)) rfl rfl) ?_
  show gj_G E _ mc_7 p e s m args below meth c _ 64 [some (.ref 16)] [(.int (i3 2)), (.ref 16)] (gj_u2 (gj_u2 (gj_u2 A2 16 5 (i3 0)) 16 6 (i3 1)) 16 7 (i3 1)) B2
  refine cs_ord F11 (gj_ckc_o ck_7 rfl (j := 34) (q := (64, .putfield 41, 3, 708)) rfl rfl) ?_
  show gj_G E _ mc_7 p e s m args below meth c _ 67 [some (.ref 16)] [] (gj_u2 (gj_u2 (gj_u2 (gj_u2 A2 16 5 (i3 0)) 16 6 (i3 1)) 16 7 (i3 1)) 16 8 (i3 2)) B2
  refine cs_ord F11 (gj_ckc_o ck_7 rfl (j := 35) (q := (67, .aload_n 0, 1, 0)) rfl rfl) ?_
  show gj_G E _ mc_7 p e s m args below meth c _ 68 [some (.ref 16)] [(.ref 16)] (gj_u2 (gj_u2 (gj_u2 (gj_u2 A2 16 5 (i3 0)) 16 6 (i3 1)) 16 7 (i3 1)) 16 8 (i3 2)) B2
  refine cs_ord F11 (gj_ckc_o ck_7 rfl (j := 36) (q := (68, .iconst 2, 1, 0)) rfl rfl) ?_
  show gj_G E _ mc_7 p e s m args below meth c _ 69 [some (.ref 16)] [(.int (i3 2)), (.ref 16)] (gj_u2 (gj_u2 (gj_u2 (gj_u2 A2 16 5 (i3 0)) 16 6 (i3 1)) 16 7 (i3 1)) 16 8 (i3 2)) B2
  refine cs_ord F11 (gj_ckc_o ck_7 rfl (j := 37) (q := (69, .putfield 44, 3, 709)) rfl rfl) ?_
  show gj_G E _ mc_7 p e s m args below meth c _ 72 [some (.ref 16)] [] (gj_u2 (gj_u2 (gj_u2 (gj_u2 (gj_u2 A2 16 5 (i3 0)) 16 6 (i3 1)) 16 7 (i3 1)) 16 8 (i3 2)) 16 9 (i3 2)) B2
  refine cs_ord F11 (gj_ckc_o ck_7 rfl (j := 38) (q := (72, .aload_n 0, 1, 0)) rfl rfl) ?_
  show gj_G E _ mc_7 p e s m args below meth c _ 73 [some (.ref 16)] [(.ref 16)] (gj_u2 (gj_u2 (gj_u2 (gj_u2 (gj_u2 A2 16 5 (i3 0)) 16 6 (i3 1)) 16 7 (i3 1)) 16 8 (i3 2)) 16 9 (i3 2)) B2
  refine cs_ord F11 (gj_ckc_o ck_7 rfl (j := 39) (q := (73, .iconst 1, 1, 0)) rfl rfl) ?_
  show gj_G E _ mc_7 p e s m args below meth c _ 74 [some (.ref 16)] [(.int (i3 1)), (.ref 16)] (gj_u2 (gj_u2 (gj_u2 (gj_u2 (gj_u2 A2 16 5 (i3 0)) 16 6 (i3 1)) 16 7 (i3 1)) 16 8 (i3 2)) 16 9 (i3 2)) B2
  refine cs_ord F11 (gj_ckc_o ck_7 rfl (j := 40) (q := (74, .putfield 47, 3, 710)) rfl rfl) ?_
  show gj_G E _ mc_7 p e s m args below meth c _ 77 [some (.ref 16)] [] (gj_u2 (gj_u2 (gj_u2 (gj_u2 (gj_u2 (gj_u2 A2 16 5 (i3 0)) 16 6 (i3 1)) 16 7 (i3 1)) 16 8 (i3 2)) 16 9 (i3 2)) 16 10 (i3 1)) B2
  refine cs_ord F11 (gj_ckc_o ck_7 rfl (j := 41) (q := (77, .aload_n 0, 1, 0)) rfl rfl) ?_
  show gj_G E _ mc_7 p e s m args below meth c _ 78 [some (.ref 16)] [(.ref 16)] (gj_u2 (gj_u2 (gj_u2 (gj_u2 (gj_u2 (gj_u2 A2 16 5 (i3 0)) 16 6 (i3 1)) 16 7 (i3 1)) 16 8 (i3 2)) 16 9 (i3 2)) 16 10 (i3 1)) B2
  refine cs_ord F11 (gj_ckc_o ck_7 rfl (j := 42) (q := (78, .iconst 0, 1, 0)) rfl rfl) ?_
  show gj_G E _ mc_7 p e s m args below meth c _ 79 [some (.ref 16)] [(.int (i3 0)), (.ref 16)] (gj_u2 (gj_u2 (gj_u2 (gj_u2 (gj_u2 (gj_u2 A2 16 5 (i3 0)) 16 6 (i3 1)) 16 7 (i3 1)) 16 8 (i3 2)) 16 9 (i3 2)) 16 10 (i3 1)) B2
  refine cs_ord F11 (gj_ckc_o ck_7 rfl (j := 43) (q := (79, .putfield 50, 3, 711)) rfl rfl) ?_
  show gj_G E _ mc_7 p e s m args below meth c _ 82 [some (.ref 16)] [] (gj_u2 (gj_u2 (gj_u2 (gj_u2 (gj_u2 (gj_u2 (gj_u2 A2 16 5 (i3 0)) 16 6 (i3 1)) 16 7 (i3 1)) 16 8 (i3 2)) 16 9 (i3 2)) 16 10 (i3 1)) 16 11 (i3 0)) B2
  refine cs_ord F11 (gj_ckc_o ck_7 rfl (j := 44) (q := (82, .aload_n 0, 1, 0)) rfl rfl) ?_
  show gj_G E _ mc_7 p e s m args below meth c _ 83 [some (.ref 16)] [(.ref 16)] (gj_u2 (gj_u2 (gj_u2 (gj_u2 (gj_u2 (gj_u2 (gj_u2 A2 16 5 (i3 0)) 16 6 (i3 1)) 16 7 (i3 1)) 16 8 (i3 2)) 16 9 (i3 2)) 16 10 (i3 1)) 16 11 (i3 0)) B2
  refine cs_ord F11 (gj_ckc_o ck_7 rfl (j := 45) (q := (83, .iconst 0, 1, 0)) rfl rfl) ?_
  show gj_G E _ mc_7 p e s m args below meth c _ 84 [some (.ref 16)] [(.int (i3 0)), (.ref 16)] (gj_u2 (gj_u2 (gj_u2 (gj_u2 (gj_u2 (gj_u2 (gj_u2 A2 16 5 (i3 0)) 16 6 (i3 1)) 16 7 (i3 1)) 16 8 (i3 2)) 16 9 (i3 2)) 16 10 (i3 1)) 16 11 (i3 0)) B2
  refine cs_ord F11 (gj_ckc_o ck_7 rfl (j := 46) (q := (84, .putfield 53, 3, 712)) rfl rfl) ?_
  show gj_G E _ mc_7 p e s m args below meth c _ 87 [some (.ref 16)] [] (gj_u2 (gj_u2 (gj_u2 (gj_u2 (gj_u2 (gj_u2 (gj_u2 (gj_u2 A2 16 5 (i3 0)) 16 6 (i3 1)) 16 7 (i3 1)) 16 8 (i3 2)) 16 9 (i3 2)) 16 10 (i3 1)) 16 11 (i3 0)) 16 12 (i3 0)) B2
  refine cs_ret F11 (gj_ckc_d ck_7 (j := 47) (q := (87, .return_, 1, 0)) rfl) rfl ?_
  have fF : FI (Lk 16 17 29) SI (gj_u2 (gj_u2 (gj_u2 (gj_u2 (gj_u2 (gj_u2 (gj_u2 (gj_u2 A2 16 5 (i3 0)) 16 6 (i3 1)) 16 7 (i3 1)) 16 8 (i3 2)) 16 9 (i3 2)) 16 10 (i3 1)) 16 11 (i3 0)) 16 12 (i3 0)) := ((((((((((FI.rf : FI (Lk 16 17 29) SI SI).tr (f2.le (fun o k z => by unfold Lk at z; unfold Lk; omega))).u (by unfold Lk; omega)).u (by unfold Lk; omega)).u (by unfold Lk; omega)).u (by unfold Lk; omega)).u (by unfold Lk; omega)).u (by unfold Lk; omega)).u (by unfold Lk; omega)).u (by unfold Lk; omega))
  have gF : FJ (Lk 16 17 29) SJ B2 := ((FJ.rf : FJ (Lk 16 17 29) SJ SJ).tr (g2.le (fun o k z => by unfold Lk at z; unfold Lk; omega)))
  have zF : ZZ 29 (gj_u2 (gj_u2 (gj_u2 (gj_u2 (gj_u2 (gj_u2 (gj_u2 (gj_u2 A2 16 5 (i3 0)) 16 6 (i3 1)) 16 7 (i3 1)) 16 8 (i3 2)) 16 9 (i3 2)) 16 10 (i3 1)) 16 11 (i3 0)) 16 12 (i3 0)) B2 := (((((((((z2.le (by omega) : ZZ 29 A2 B2).u (by omega)).u (by omega)).u (by omega)).u (by omega)).u (by omega)).u (by omega)).u (by omega)).u (by omega))
  exact ⟨zF, fF, gF, trivial⟩
set_option maxHeartbeats 4000000 in
set_option maxRecDepth 20000 in
theorem mk_4_29 {E : gj_E} {SI : gj_I} {SJ : gj_J} (hz : ZZ 30 SI SJ) : gj_Mk E (30, gj_Rq 28) (37, gj_Rq 35) mc_4 7 184 [.ref 29] SI SJ (fun A B => ZZ 37 A B ∧ FI (Lk 29 30 37) SI A ∧ FJ (Lk 29 30 37) SJ B ∧ PX29 FZ A ∧ PD29 FZ A) := by
  refine cs_start (M := mc_4) rfl rfl rfl rfl ?_
  intro p e s m args below meth c hin F0
  refine cs_ord F0 (gj_ckc_o ck_4 rfl (j := 0) (q := (0, .aload_n 0, 1, 0)) rfl rfl) ?_
  show gj_G E _ mc_4 p e s m args below meth c _ 1 [some (.ref 29)] [(.ref 29)] SI SJ
  refine cs_obj (idx := 3) (pc := 1) (o := 29) F0 (gj_ckc_d ck_4 (j := 1) (q := (1, .invokespecial 3, 3, 99)) rfl) wob_X4 wobI wobC (by decide) (by decide) ?_
  show gj_G E _ mc_4 p e s m args below meth c _ 4 [some (.ref 29)] [] SI SJ
  refine cs_ord F0 (gj_ckc_o ck_4 rfl (j := 2) (q := (4, .aload_n 0, 1, 0)) rfl rfl) ?_
  show gj_G E _ mc_4 p e s m args below meth c _ 5 [some (.ref 29)] [(.ref 29)] SI SJ
  refine cs_ord F0 (gj_ckc_o ck_4 rfl (j := 3) (q := (5, .bipush 8, 2, 0)) rfl rfl) ?_
  show gj_G E _ mc_4 p e s m args below meth c _ 7 [some (.ref 29)] [(.int (i3 8)), (.ref 29)] SI SJ
  refine cs_arrI (n := 30) (N := 8) (pc := 7) F0 (gj_ckc_d ck_4 (j := 4) (q := (7, .newarray .int, 2, 0)) rfl) war_int rfl (by decide) (by decide) (by decide) rfl (fun k => hz 30 k (by omega)) (by decide) (by decide) (fun F1 => ?_)
  show gj_G E _ mc_4 p e s m args below meth c _ 9 [some (.ref 29)] [(.ref 30), (.ref 29)] SI SJ
  refine cs_ref (ci := 4) (q := (RX4, TX4, 9)) (o := 29) (k := 0) (v := 30) (idx := 9) (pc := 9) (r2 := gj_Rq 29) F1 hin (gj_ckc_d ck_4 (j := 5) (q := (9, .putfield 9, 3, 400)) rfl) rfl (gj_wF_in 400090400 (gj_ct rfl)) rfl (by decide) rfl (by decide) rfl rfl rfl (fun _ => rfl) (fun _ => rfl) (gj_Rq_1 (t := 28) rfl) (gj_Rq_2 (t := 28) rfl) (fun F2 => ?_)
  show gj_G E _ mc_4 p e s m args below meth c _ 12 [some (.ref 29)] [] SI SJ
  refine cs_ord F2 (gj_ckc_o ck_4 rfl (j := 6) (q := (12, .aload_n 0, 1, 0)) rfl rfl) ?_
  show gj_G E _ mc_4 p e s m args below meth c _ 13 [some (.ref 29)] [(.ref 29)] SI SJ
  refine cs_ord F2 (gj_ckc_o ck_4 rfl (j := 7) (q := (13, .bipush 8, 2, 0)) rfl rfl) ?_
  show gj_G E _ mc_4 p e s m args below meth c _ 15 [some (.ref 29)] [(.int (i3 8)), (.ref 29)] SI SJ
  refine cs_arrI (n := 31) (N := 8) (pc := 15) F2 (gj_ckc_d ck_4 (j := 8) (q := (15, .newarray .int, 2, 0)) rfl) war_int rfl (by decide) (by decide) (by decide) rfl (fun k => hz 31 k (by omega)) (by decide) (by decide) (fun F3 => ?_)
  show gj_G E _ mc_4 p e s m args below meth c _ 17 [some (.ref 29)] [(.ref 31), (.ref 29)] SI SJ
  refine cs_ref (ci := 4) (q := (RX4, TX4, 9)) (o := 29) (k := 1) (v := 31) (idx := 15) (pc := 17) (r2 := gj_Rq 30) F3 hin (gj_ckc_d ck_4 (j := 9) (q := (17, .putfield 15, 3, 401)) rfl) rfl (gj_wF_in 400150401 (gj_ct rfl)) rfl (by decide) rfl (by decide) rfl rfl rfl (fun _ => rfl) (fun _ => rfl) (gj_Rq_1 (t := 29) rfl) (gj_Rq_2 (t := 29) rfl) (fun F4 => ?_)
  show gj_G E _ mc_4 p e s m args below meth c _ 20 [some (.ref 29)] [] SI SJ
  refine cs_ord F4 (gj_ckc_o ck_4 rfl (j := 10) (q := (20, .aload_n 0, 1, 0)) rfl rfl) ?_
  show gj_G E _ mc_4 p e s m args below meth c _ 21 [some (.ref 29)] [(.ref 29)] SI SJ
  refine cs_ord F4 (gj_ckc_o ck_4 rfl (j := 11) (q := (21, .bipush 8, 2, 0)) rfl rfl) ?_
  show gj_G E _ mc_4 p e s m args below meth c _ 23 [some (.ref 29)] [(.int (i3 8)), (.ref 29)] SI SJ
  refine cs_arrI (n := 32) (N := 8) (pc := 23) F4 (gj_ckc_d ck_4 (j := 12) (q := (23, .newarray .int, 2, 0)) rfl) war_int rfl (by decide) (by decide) (by decide) rfl (fun k => hz 32 k (by omega)) (by decide) (by decide) (fun F5 => ?_)
  show gj_G E _ mc_4 p e s m args below meth c _ 25 [some (.ref 29)] [(.ref 32), (.ref 29)] SI SJ
  refine cs_ref (ci := 4) (q := (RX4, TX4, 9)) (o := 29) (k := 2) (v := 32) (idx := 18) (pc := 25) (r2 := gj_Rq 31) F5 hin (gj_ckc_d ck_4 (j := 13) (q := (25, .putfield 18, 3, 402)) rfl) rfl (gj_wF_in 400180402 (gj_ct rfl)) rfl (by decide) rfl (by decide) rfl rfl rfl (fun _ => rfl) (fun _ => rfl) (gj_Rq_1 (t := 30) rfl) (gj_Rq_2 (t := 30) rfl) (fun F6 => ?_)
  show gj_G E _ mc_4 p e s m args below meth c _ 28 [some (.ref 29)] [] SI SJ
  refine cs_ord F6 (gj_ckc_o ck_4 rfl (j := 14) (q := (28, .aload_n 0, 1, 0)) rfl rfl) ?_
  show gj_G E _ mc_4 p e s m args below meth c _ 29 [some (.ref 29)] [(.ref 29)] SI SJ
  refine cs_ord F6 (gj_ckc_o ck_4 rfl (j := 15) (q := (29, .bipush 8, 2, 0)) rfl rfl) ?_
  show gj_G E _ mc_4 p e s m args below meth c _ 31 [some (.ref 29)] [(.int (i3 8)), (.ref 29)] SI SJ
  refine cs_arrI (n := 33) (N := 8) (pc := 31) F6 (gj_ckc_d ck_4 (j := 16) (q := (31, .newarray .int, 2, 0)) rfl) war_int rfl (by decide) (by decide) (by decide) rfl (fun k => hz 33 k (by omega)) (by decide) (by decide) (fun F7 => ?_)
  show gj_G E _ mc_4 p e s m args below meth c _ 33 [some (.ref 29)] [(.ref 33), (.ref 29)] SI SJ
  refine cs_ref (ci := 4) (q := (RX4, TX4, 9)) (o := 29) (k := 3) (v := 33) (idx := 21) (pc := 33) (r2 := gj_Rq 32) F7 hin (gj_ckc_d ck_4 (j := 17) (q := (33, .putfield 21, 3, 403)) rfl) rfl (gj_wF_in 400210403 (gj_ct rfl)) rfl (by decide) rfl (by decide) rfl rfl rfl (fun _ => rfl) (fun _ => rfl) (gj_Rq_1 (t := 31) rfl) (gj_Rq_2 (t := 31) rfl) (fun F8 => ?_)
  show gj_G E _ mc_4 p e s m args below meth c _ 36 [some (.ref 29)] [] SI SJ
  refine cs_ord F8 (gj_ckc_o ck_4 rfl (j := 18) (q := (36, .aload_n 0, 1, 0)) rfl rfl) ?_
  show gj_G E _ mc_4 p e s m args below meth c _ 37 [some (.ref 29)] [(.ref 29)] SI SJ
  refine cs_ord F8 (gj_ckc_o ck_4 rfl (j := 19) (q := (37, .bipush 8, 2, 0)) rfl rfl) ?_
  show gj_G E _ mc_4 p e s m args below meth c _ 39 [some (.ref 29)] [(.int (i3 8)), (.ref 29)] SI SJ
  refine cs_arrI (n := 34) (N := 8) (pc := 39) F8 (gj_ckc_d ck_4 (j := 20) (q := (39, .newarray .int, 2, 0)) rfl) war_int rfl (by decide) (by decide) (by decide) rfl (fun k => hz 34 k (by omega)) (by decide) (by decide) (fun F9 => ?_)
  show gj_G E _ mc_4 p e s m args below meth c _ 41 [some (.ref 29)] [(.ref 34), (.ref 29)] SI SJ
  refine cs_ref (ci := 4) (q := (RX4, TX4, 9)) (o := 29) (k := 4) (v := 34) (idx := 24) (pc := 41) (r2 := gj_Rq 33) F9 hin (gj_ckc_d ck_4 (j := 21) (q := (41, .putfield 24, 3, 404)) rfl) rfl (gj_wF_in 400240404 (gj_ct rfl)) rfl (by decide) rfl (by decide) rfl rfl rfl (fun _ => rfl) (fun _ => rfl) (gj_Rq_1 (t := 32) rfl) (gj_Rq_2 (t := 32) rfl) (fun F10 => ?_)
  show gj_G E _ mc_4 p e s m args below meth c _ 44 [some (.ref 29)] [] SI SJ
  refine cs_ord F10 (gj_ckc_o ck_4 rfl (j := 22) (q := (44, .aload_n 0, 1, 0)) rfl rfl) ?_
  show gj_G E _ mc_4 p e s m args below meth c _ 45 [some (.ref 29)] [(.ref 29)] SI SJ
  refine cs_ord F10 (gj_ckc_o ck_4 rfl (j := 23) (q := (45, .bipush 72, 2, 0)) rfl rfl) ?_
  show gj_G E _ mc_4 p e s m args below meth c _ 47 [some (.ref 29)] [(.int (i3 72)), (.ref 29)] SI SJ
  refine cs_arrI (n := 35) (N := 72) (pc := 47) F10 (gj_ckc_d ck_4 (j := 24) (q := (47, .newarray .int, 2, 0)) rfl) war_int rfl (by decide) (by decide) (by decide) rfl (fun k => hz 35 k (by omega)) (by decide) (by decide) (fun F11 => ?_)
  show gj_G E _ mc_4 p e s m args below meth c _ 49 [some (.ref 29)] [(.ref 35), (.ref 29)] SI SJ
  refine cs_ref (ci := 4) (q := (RX4, TX4, 9)) (o := 29) (k := 5) (v := 35) (idx := 27) (pc := 49) (r2 := gj_Rq 34) F11 hin (gj_ckc_d ck_4 (j := 25) (q := (49, .putfield 27, 3, 405)) rfl) rfl (gj_wF_in 400270405 (gj_ct rfl)) rfl (by decide) rfl (by decide) rfl rfl rfl (fun _ => rfl) (fun _ => rfl) (gj_Rq_1 (t := 33) rfl) (gj_Rq_2 (t := 33) rfl) (fun F12 => ?_)
  show gj_G E _ mc_4 p e s m args below meth c _ 52 [some (.ref 29)] [] SI SJ
  refine cs_ord F12 (gj_ckc_o ck_4 rfl (j := 26) (q := (52, .aload_n 0, 1, 0)) rfl rfl) ?_
  show gj_G E _ mc_4 p e s m args below meth c _ 53 [some (.ref 29)] [(.ref 29)] SI SJ
  refine cs_ord F12 (gj_ckc_o ck_4 rfl (j := 27) (q := (53, .bipush 72, 2, 0)) rfl rfl) ?_
  show gj_G E _ mc_4 p e s m args below meth c _ 55 [some (.ref 29)] [(.int (i3 72)), (.ref 29)] SI SJ
  refine cs_arrI (n := 36) (N := 72) (pc := 55) F12 (gj_ckc_d ck_4 (j := 28) (q := (55, .newarray .int, 2, 0)) rfl) war_int rfl (by decide) (by decide) (by decide) rfl (fun k => hz 36 k (by omega)) (by decide) (by decide) (fun F13 => ?_)
  show gj_G E _ mc_4 p e s m args below meth c _ 57 [some (.ref 29)] [(.ref 36), (.ref 29)] SI SJ
  refine cs_ref (ci := 4) (q := (RX4, TX4, 9)) (o := 29) (k := 6) (v := 36) (idx := 30) (pc := 57) (r2 := gj_Rq 35) F13 hin (gj_ckc_d ck_4 (j := 29) (q := (57, .putfield 30, 3, 406)) rfl) rfl (gj_wF_in 400300406 (gj_ct rfl)) rfl (by decide) rfl (by decide) rfl rfl rfl (fun _ => rfl) (fun _ => rfl) (gj_Rq_1 (t := 34) rfl) (gj_Rq_2 (t := 34) rfl) (fun F14 => ?_)
  show gj_G E _ mc_4 p e s m args below meth c _ 60 [some (.ref 29)] [] SI SJ
  refine cs_ord F14 (gj_ckc_o ck_4 rfl (j := 30) (q := (60, .aload_n 0, 1, 0)) rfl rfl) ?_
  show gj_G E _ mc_4 p e s m args below meth c _ 61 [some (.ref 29)] [(.ref 29)] SI SJ
  refine cs_ord F14 (gj_ckc_o ck_4 rfl (j := 31) (q := (61, .iconst 4, 1, 0)) rfl rfl) ?_
  show gj_G E _ mc_4 p e s m args below meth c _ 62 [some (.ref 29)] [(.int (i3 4)), (.ref 29)] SI SJ
  refine cs_ord F14 (gj_ckc_o ck_4 rfl (j := 32) (q := (62, .putfield 33, 3, 407)) rfl rfl) ?_
  show gj_G E _ mc_4 p e s m args below meth c _ 65 [some (.ref 29)] [] (gj_u2 SI 29 7 (i3 4)) SJ
  refine cs_ord F14 (gj_ckc_o ck_4 rfl (j := 33) (q := (65, .aload_n 0, 1, 0)) rfl rfl) ?_
  show gj_G E _ mc_4 p e s m args below meth c _ 66 [some (.ref 29)] [(.ref 29)] (gj_u2 SI 29 7 (i3 4)) SJ
  refine cs_ord F14 (gj_ckc_o ck_4 rfl (j := 34) (q := (66, .iconst 0, 1, 0)) rfl rfl) ?_
  show gj_G E _ mc_4 p e s m args below meth c _ 67 [some (.ref 29)] [(.int (i3 0)), (.ref 29)] (gj_u2 SI 29 7 (i3 4)) SJ
  refine cs_ord F14 (gj_ckc_o ck_4 rfl (j := 35) (q := (67, .putfield 37, 3, 408)) rfl rfl) ?_
  show gj_G E _ mc_4 p e s m args below meth c _ 70 [some (.ref 29)] [] (gj_u2 (gj_u2 SI 29 7 (i3 4)) 29 8 (i3 0)) SJ
  refine cs_ord F14 (gj_ckc_o ck_4 rfl (j := 36) (q := (70, .aload_n 0, 1, 0)) rfl rfl) ?_
  show gj_G E _ mc_4 p e s m args below meth c _ 71 [some (.ref 29)] [(.ref 29)] (gj_u2 (gj_u2 SI 29 7 (i3 4)) 29 8 (i3 0)) SJ
  refine cs_ord F14 (gj_ckc_o ck_4 rfl (j := 37) (q := (71, .getfield 9, 3, 400)) rfl rfl) ?_
  show gj_G E _ mc_4 p e s m args below meth c _ 74 [some (.ref 29)] [(.ref 30)] (gj_u2 (gj_u2 SI 29 7 (i3 4)) 29 8 (i3 0)) SJ
  refine cs_ord F14 (gj_ckc_o ck_4 rfl (j := 38) (q := (74, .iconst 1, 1, 0)) rfl rfl) ?_
  show gj_G E _ mc_4 p e s m args below meth c _ 75 [some (.ref 29)] [(.int (i3 1)), (.ref 30)] (gj_u2 (gj_u2 SI 29 7 (i3 4)) 29 8 (i3 0)) SJ
  refine cs_ord F14 (gj_ckc_o ck_4 rfl (j := 39) (q := (75, .iconst 4, 1, 0)) rfl rfl) ?_
  show gj_G E _ mc_4 p e s m args below meth c _ 76 [some (.ref 29)] [(.int (i3 4)), (.int (i3 1)), (.ref 30)] (gj_u2 (gj_u2 SI 29 7 (i3 4)) 29 8 (i3 0)) SJ
  refine cs_ord F14 (gj_ckc_o ck_4 rfl (j := 40) (q := (76, .iastore, 1, 0)) rfl rfl) ?_
  refine And.intro ((i3_in (by omega) (by omega)).mpr (by omega) : vp_in (i3 1) 8) ?_
  show gj_G E _ mc_4 p e s m args below meth c _ 77 [some (.ref 29)] [] (gj_u2 (gj_u2 (gj_u2 SI 29 7 (i3 4)) 29 8 (i3 0)) 30 1 (i3 4)) SJ
  refine cs_ord F14 (gj_ckc_o ck_4 rfl (j := 41) (q := (77, .aload_n 0, 1, 0)) rfl rfl) ?_
  show gj_G E _ mc_4 p e s m args below meth c _ 78 [some (.ref 29)] [(.ref 29)] (gj_u2 (gj_u2 (gj_u2 SI 29 7 (i3 4)) 29 8 (i3 0)) 30 1 (i3 4)) SJ
  refine cs_ord F14 (gj_ckc_o ck_4 rfl (j := 42) (q := (78, .getfield 9, 3, 400)) rfl rfl) ?_
  show gj_G E _ mc_4 p e s m args below meth c _ 81 [some (.ref 29)] [(.ref 30)] (gj_u2 (gj_u2 (gj_u2 SI 29 7 (i3 4)) 29 8 (i3 0)) 30 1 (i3 4)) SJ
  refine cs_ord F14 (gj_ckc_o ck_4 rfl (j := 43) (q := (81, .iconst 2, 1, 0)) rfl rfl) ?_
  show gj_G E _ mc_4 p e s m args below meth c _ 82 [some (.ref 29)] [(.int (i3 2)), (.ref 30)] (gj_u2 (gj_u2 (gj_u2 SI 29 7 (i3 4)) 29 8 (i3 0)) 30 1 (i3 4)) SJ
  refine cs_ord F14 (gj_ckc_o ck_4 rfl (j := 44) (q := (82, .iconst 4, 1, 0)) rfl rfl) ?_
  show gj_G E _ mc_4 p e s m args below meth c _ 83 [some (.ref 29)] [(.int (i3 4)), (.int (i3 2)), (.ref 30)] (gj_u2 (gj_u2 (gj_u2 SI 29 7 (i3 4)) 29 8 (i3 0)) 30 1 (i3 4)) SJ
  refine cs_ord F14 (gj_ckc_o ck_4 rfl (j := 45) (q := (83, .iastore, 1, 0)) rfl rfl) ?_
  refine And.intro ((i3_in (by omega) (by omega)).mpr (by omega) : vp_in (i3 2) 8) ?_
  show gj_G E _ mc_4 p e s m args below meth c _ 84 [some (.ref 29)] [] (gj_u2 (gj_u2 (gj_u2 (gj_u2 SI 29 7 (i3 4)) 29 8 (i3 0)) 30 1 (i3 4)) 30 2 (i3 4)) SJ
  refine cs_ord F14 (gj_ckc_o ck_4 rfl (j := 46) (q := (84, .aload_n 0, 1, 0)) rfl rfl) ?_
  show gj_G E _ mc_4 p e s m args below meth c _ 85 [some (.ref 29)] [(.ref 29)] (gj_u2 (gj_u2 (gj_u2 (gj_u2 SI 29 7 (i3 4)) 29 8 (i3 0)) 30 1 (i3 4)) 30 2 (i3 4)) SJ
  refine cs_ord F14 (gj_ckc_o ck_4 rfl (j := 47) (q := (85, .getfield 15, 3, 401)) rfl rfl) ?_
  show gj_G E _ mc_4 p e s m args below meth c _ 88 [some (.ref 29)] [(.ref 31)] (gj_u2 (gj_u2 (gj_u2 (gj_u2 SI 29 7 (i3 4)) 29 8 (i3 0)) 30 1 (i3 4)) 30 2 (i3 4)) SJ
  refine cs_ord F14 (gj_ckc_o ck_4 rfl (j := 48) (q := (88, .iconst 2, 1, 0)) rfl rfl) ?_
  show gj_G E _ mc_4 p e s m args below meth c _ 89 [some (.ref 29)] [(.int (i3 2)), (.ref 31)] (gj_u2 (gj_u2 (gj_u2 (gj_u2 SI 29 7 (i3 4)) 29 8 (i3 0)) 30 1 (i3 4)) 30 2 (i3 4)) SJ
  refine cs_ord F14 (gj_ckc_o ck_4 rfl (j := 49) (q := (89, .iconst 4, 1, 0)) rfl rfl) ?_
  show gj_G E _ mc_4 p e s m args below meth c _ 90 [some (.ref 29)] [(.int (i3 4)), (.int (i3 2)), (.ref 31)] (gj_u2 (gj_u2 (gj_u2 (gj_u2 SI 29 7 (i3 4)) 29 8 (i3 0)) 30 1 (i3 4)) 30 2 (i3 4)) SJ
  refine cs_ord F14 (gj_ckc_o ck_4 rfl (j := 50) (q := (90, .iastore, 1, 0)) rfl rfl) ?_
  refine And.intro ((i3_in (by omega) (by omega)).mpr (by omega) : vp_in (i3 2) 8) ?_
  show gj_G E _ mc_4 p e s m args below meth c _ 91 [some (.ref 29)] [] (gj_u2 (gj_u2 (gj_u2 (gj_u2 (gj_u2 SI 29 7 (i3 4)) 29 8 (i3 0)) 30 1 (i3 4)) 30 2 (i3 4)) 31 2 (i3 4)) SJ
  refine cs_ord F14 (gj_ckc_o ck_4 rfl (j := 51) (q := (91, .aload_n 0, 1, 0)) rfl rfl) ?_
  show gj_G E _ mc_4 p e s m args below meth c _ 92 [some (.ref 29)] [(.ref 29)] (gj_u2 (gj_u2 (gj_u2 (gj_u2 (gj_u2 SI 29 7 (i3 4)) 29 8 (i3 0)) 30 1 (i3 4)) 30 2 (i3 4)) 31 2 (i3 4)) SJ
  refine cs_ord F14 (gj_ckc_o ck_4 rfl (j := 52) (q := (92, .getfield 15, 3, 401)) rfl rfl) ?_
  show gj_G E _ mc_4 p e s m args below meth c _ 95 [some (.ref 29)] [(.ref 31)] (gj_u2 (gj_u2 (gj_u2 (gj_u2 (gj_u2 SI 29 7 (i3 4)) 29 8 (i3 0)) 30 1 (i3 4)) 30 2 (i3 4)) 31 2 (i3 4)) SJ
  refine cs_ord F14 (gj_ckc_o ck_4 rfl (j := 53) (q := (95, .iconst 3, 1, 0)) rfl rfl) ?_
  show gj_G E _ mc_4 p e s m args below meth c _ 96 [some (.ref 29)] [(.int (i3 3)), (.ref 31)] (gj_u2 (gj_u2 (gj_u2 (gj_u2 (gj_u2 SI 29 7 (i3 4)) 29 8 (i3 0)) 30 1 (i3 4)) 30 2 (i3 4)) 31 2 (i3 4)) SJ
  refine cs_ord F14 (gj_ckc_o ck_4 rfl (j := 54) (q := (96, .iconst 4, 1, 0)) rfl rfl) ?_
  show gj_G E _ mc_4 p e s m args below meth c _ 97 [some (.ref 29)] [(.int (i3 4)), (.int (i3 3)), (.ref 31)] (gj_u2 (gj_u2 (gj_u2 (gj_u2 (gj_u2 SI 29 7 (i3 4)) 29 8 (i3 0)) 30 1 (i3 4)) 30 2 (i3 4)) 31 2 (i3 4)) SJ
  refine cs_ord F14 (gj_ckc_o ck_4 rfl (j := 55) (q := (97, .iastore, 1, 0)) rfl rfl) ?_
  refine And.intro ((i3_in (by omega) (by omega)).mpr (by omega) : vp_in (i3 3) 8) ?_
  show gj_G E _ mc_4 p e s m args below meth c _ 98 [some (.ref 29)] [] (gj_u2 (gj_u2 (gj_u2 (gj_u2 (gj_u2 (gj_u2 SI 29 7 (i3 4)) 29 8 (i3 0)) 30 1 (i3 4)) 30 2 (i3 4)) 31 2 (i3 4)) 31 3 (i3 4)) SJ
  refine cs_ord F14 (gj_ckc_o ck_4 rfl (j := 56) (q := (98, .aload_n 0, 1, 0)) rfl rfl) ?_
  show gj_G E _ mc_4 p e s m args below meth c _ 99 [some (.ref 29)] [(.ref 29)] (gj_u2 (gj_u2 (gj_u2 (gj_u2 (gj_u2 (gj_u2 SI 29 7 (i3 4)) 29 8 (i3 0)) 30 1 (i3 4)) 30 2 (i3 4)) 31 2 (i3 4)) 31 3 (i3 4)) SJ
  refine cs_ord F14 (gj_ckc_o ck_4 rfl (j := 57) (q := (99, .invokevirtual 40, 3, 402801)) rfl rfl) ?_
  have hX0 : PX29 FZ (gj_u2 (gj_u2 (gj_u2 (gj_u2 (gj_u2 (gj_u2 SI 29 7 (i3 4)) 29 8 (i3 0)) 30 1 (i3 4)) 30 2 (i3 4)) 31 2 (i3 4)) 31 3 (i3 4)) := by
    refine ⟨rfl, ?_⟩
    rw [FZ_nC]
    intro i hi
    have c0 : i = 0 ∨ i = 1 ∨ i = 2 ∨ i = 3 := by omega
    rcases c0 with rfl | rfl | rfl | rfl
    · exact ⟨(hz 30 0 (by omega)).1, (hz 31 0 (by omega)).1⟩
    · exact ⟨rfl, (hz 31 1 (by omega)).1⟩
    · exact ⟨rfl, rfl⟩
    · exact ⟨(hz 30 3 (by omega)).1, rfl⟩
  refine gj_Do.mono (sp_derive29q (E := E) (Q := fun A B => (FI LD29 (gj_u2 (gj_u2 (gj_u2 (gj_u2 (gj_u2 (gj_u2 SI 29 7 (i3 4)) 29 8 (i3 0)) 30 1 (i3 4)) 30 2 (i3 4)) 31 2 (i3 4)) 31 3 (i3 4)) A ∧ PD29 FZ A) ∧ B = SJ) hX0 FZ_Wp (fun A fA hD => ⟨⟨fA, hD⟩, rfl⟩)) (fun v_ A B hv => ?_)
  obtain ⟨rfl, ⟨fD, hD⟩, rfl⟩ := hv
  show gj_G E _ mc_4 p e s m args below meth c _ 102 [some (.ref 29)] [] A B
  refine cs_ret F14 (gj_ckc_d ck_4 (j := 58) (q := (102, .return_, 1, 0)) rfl) rfl ?_
  have fF : FI (Lk 29 30 37) SI A := ((((((((FI.rf : FI (Lk 29 30 37) SI SI).u (by unfold Lk; omega)).u (by unfold Lk; omega)).u (by unfold Lk; omega)).u (by unfold Lk; omega)).u (by unfold Lk; omega)).u (by unfold Lk; omega))).tr (fD.le (fun o k z => by unfold LD29 at z; unfold Lk; omega))
  have hzA : ZZ 37 A B := fun o k ho => ⟨by rw [fF o k (by unfold Lk; omega)]; exact (hz o k (by omega)).1, (hz o k (by omega)).2⟩
  exact ⟨hzA, fF, FJ.rf, hX0.f fD (by unfold LD29; exact ⟨by omega, fun k => by omega⟩), hD⟩
set_option maxHeartbeats 4000000 in
set_option maxRecDepth 20000 in
theorem mk_3_37 {E : gj_E} {SI : gj_I} {SJ : gj_J} (hz : ZZ 38 SI SJ) : gj_Mk E (38, gj_Rq 36) (41, gj_Rq 39) mc_3 3 36 [.ref 37] SI SJ (fun A B => ZZ 41 A B ∧ FI (Lk 37 38 41) SI A ∧ FJ (Lk 37 38 41) SJ B ∧ True) := by
  refine cs_start (M := mc_3) rfl rfl rfl rfl ?_
  intro p e s m args below meth c hin F0
  refine cs_ord F0 (gj_ckc_o ck_3 rfl (j := 0) (q := (0, .aload_n 0, 1, 0)) rfl rfl) ?_
  show gj_G E _ mc_3 p e s m args below meth c _ 1 [some (.ref 37)] [(.ref 37)] SI SJ
  refine cs_obj (idx := 3) (pc := 1) (o := 37) F0 (gj_ckc_d ck_3 (j := 1) (q := (1, .invokespecial 3, 3, 99)) rfl) wob_X3 wobI wobC (by decide) (by decide) ?_
  show gj_G E _ mc_3 p e s m args below meth c _ 4 [some (.ref 37)] [] SI SJ
  refine cs_ord F0 (gj_ckc_o ck_3 rfl (j := 2) (q := (4, .aload_n 0, 1, 0)) rfl rfl) ?_
  show gj_G E _ mc_3 p e s m args below meth c _ 5 [some (.ref 37)] [(.ref 37)] SI SJ
  refine cs_ord F0 (gj_ckc_o ck_3 rfl (j := 3) (q := (5, .bipush 12, 2, 0)) rfl rfl) ?_
  show gj_G E _ mc_3 p e s m args below meth c _ 7 [some (.ref 37)] [(.int (i3 12)), (.ref 37)] SI SJ
  refine cs_arrI (n := 38) (N := 12) (pc := 7) F0 (gj_ckc_d ck_3 (j := 4) (q := (7, .newarray .int, 2, 0)) rfl) war_int rfl (by decide) (by decide) (by decide) rfl (fun k => hz 38 k (by omega)) (by decide) (by decide) (fun F1 => ?_)
  show gj_G E _ mc_3 p e s m args below meth c _ 9 [some (.ref 37)] [(.ref 38), (.ref 37)] SI SJ
  refine cs_ref (ci := 3) (q := (RX3, TX3, 4)) (o := 37) (k := 0) (v := 38) (idx := 9) (pc := 9) (r2 := gj_Rq 37) F1 hin (gj_ckc_d ck_3 (j := 5) (q := (9, .putfield 9, 3, 300)) rfl) rfl (gj_wF_in 300090300 (gj_ct rfl)) rfl (by decide) rfl (by decide) rfl rfl rfl (fun _ => rfl) (fun _ => rfl) (gj_Rq_1 (t := 36) rfl) (gj_Rq_2 (t := 36) rfl) (fun F2 => ?_)
  show gj_G E _ mc_3 p e s m args below meth c _ 12 [some (.ref 37)] [] SI SJ
  refine cs_ord F2 (gj_ckc_o ck_3 rfl (j := 6) (q := (12, .aload_n 0, 1, 0)) rfl rfl) ?_
  show gj_G E _ mc_3 p e s m args below meth c _ 13 [some (.ref 37)] [(.ref 37)] SI SJ
  refine cs_ord F2 (gj_ckc_o ck_3 rfl (j := 7) (q := (13, .bipush 12, 2, 0)) rfl rfl) ?_
  show gj_G E _ mc_3 p e s m args below meth c _ 15 [some (.ref 37)] [(.int (i3 12)), (.ref 37)] SI SJ
  refine cs_arrI (n := 39) (N := 12) (pc := 15) F2 (gj_ckc_d ck_3 (j := 8) (q := (15, .newarray .int, 2, 0)) rfl) war_int rfl (by decide) (by decide) (by decide) rfl (fun k => hz 39 k (by omega)) (by decide) (by decide) (fun F3 => ?_)
  show gj_G E _ mc_3 p e s m args below meth c _ 17 [some (.ref 37)] [(.ref 39), (.ref 37)] SI SJ
  refine cs_ref (ci := 3) (q := (RX3, TX3, 4)) (o := 37) (k := 1) (v := 39) (idx := 15) (pc := 17) (r2 := gj_Rq 38) F3 hin (gj_ckc_d ck_3 (j := 9) (q := (17, .putfield 15, 3, 301)) rfl) rfl (gj_wF_in 300150301 (gj_ct rfl)) rfl (by decide) rfl (by decide) rfl rfl rfl (fun _ => rfl) (fun _ => rfl) (gj_Rq_1 (t := 37) rfl) (gj_Rq_2 (t := 37) rfl) (fun F4 => ?_)
  show gj_G E _ mc_3 p e s m args below meth c _ 20 [some (.ref 37)] [] SI SJ
  refine cs_ord F4 (gj_ckc_o ck_3 rfl (j := 10) (q := (20, .aload_n 0, 1, 0)) rfl rfl) ?_
  show gj_G E _ mc_3 p e s m args below meth c _ 21 [some (.ref 37)] [(.ref 37)] SI SJ
  refine cs_ord F4 (gj_ckc_o ck_3 rfl (j := 11) (q := (21, .bipush 12, 2, 0)) rfl rfl) ?_
  show gj_G E _ mc_3 p e s m args below meth c _ 23 [some (.ref 37)] [(.int (i3 12)), (.ref 37)] SI SJ
  refine cs_arrI (n := 40) (N := 12) (pc := 23) F4 (gj_ckc_d ck_3 (j := 12) (q := (23, .newarray .int, 2, 0)) rfl) war_int rfl (by decide) (by decide) (by decide) rfl (fun k => hz 40 k (by omega)) (by decide) (by decide) (fun F5 => ?_)
  show gj_G E _ mc_3 p e s m args below meth c _ 25 [some (.ref 37)] [(.ref 40), (.ref 37)] SI SJ
  refine cs_ref (ci := 3) (q := (RX3, TX3, 4)) (o := 37) (k := 2) (v := 40) (idx := 18) (pc := 25) (r2 := gj_Rq 39) F5 hin (gj_ckc_d ck_3 (j := 13) (q := (25, .putfield 18, 3, 302)) rfl) rfl (gj_wF_in 300180302 (gj_ct rfl)) rfl (by decide) rfl (by decide) rfl rfl rfl (fun _ => rfl) (fun _ => rfl) (gj_Rq_1 (t := 38) rfl) (gj_Rq_2 (t := 38) rfl) (fun F6 => ?_)
  show gj_G E _ mc_3 p e s m args below meth c _ 28 [some (.ref 37)] [] SI SJ
  refine cs_ord F6 (gj_ckc_o ck_3 rfl (j := 14) (q := (28, .aload_n 0, 1, 0)) rfl rfl) ?_
  show gj_G E _ mc_3 p e s m args below meth c _ 29 [some (.ref 37)] [(.ref 37)] SI SJ
  refine cs_ord F6 (gj_ckc_o ck_3 rfl (j := 15) (q := (29, .iconst 0, 1, 0)) rfl rfl) ?_
  show gj_G E _ mc_3 p e s m args below meth c _ 30 [some (.ref 37)] [(.int (i3 0)), (.ref 37)] SI SJ
  refine cs_ord F6 (gj_ckc_o ck_3 rfl (j := 16) (q := (30, .putfield 21, 3, 303)) rfl rfl) ?_
  show gj_G E _ mc_3 p e s m args below meth c _ 33 [some (.ref 37)] [] (gj_u2 SI 37 3 (i3 0)) SJ
  refine cs_ret F6 (gj_ckc_d ck_3 (j := 17) (q := (33, .return_, 1, 0)) rfl) rfl ?_
  have fF : FI (Lk 37 38 41) SI (gj_u2 SI 37 3 (i3 0)) := ((FI.rf : FI (Lk 37 38 41) SI SI).u (by unfold Lk; omega))
  have gF : FJ (Lk 37 38 41) SJ SJ := (FJ.rf : FJ (Lk 37 38 41) SJ SJ)
  have zF : ZZ 41 (gj_u2 SI 37 3 (i3 0)) SJ := ((hz.le (by omega) : ZZ 41 SI SJ).u (by omega))
  exact ⟨zF, fF, gF, trivial⟩
set_option maxHeartbeats 4000000 in
set_option maxRecDepth 20000 in
theorem mk_0_42 {E : gj_E} {SI : gj_I} {SJ : gj_J} (hz : ZZ 43 SI SJ) : gj_Mk E (43, gj_Rq 41) (52, gj_Rq 50) mc_0 9 511 [.ref 42] SI SJ (fun A B => ZZ 52 A B ∧ FI (Lk 42 43 52) SI A ∧ FJ (Lk 42 43 52) SJ B ∧ A 42 9 = i3 0) := by
  refine cs_start (M := mc_0) rfl rfl rfl rfl ?_
  intro p e s m args below meth c hin F0
  refine cs_ord F0 (gj_ckc_o ck_0 rfl (j := 0) (q := (0, .aload_n 0, 1, 0)) rfl rfl) ?_
  show gj_G E _ mc_0 p e s m args below meth c _ 1 [some (.ref 42)] [(.ref 42)] SI SJ
  refine cs_obj (idx := 3) (pc := 1) (o := 42) F0 (gj_ckc_d ck_0 (j := 1) (q := (1, .invokespecial 3, 3, 99)) rfl) wob_X0 wobI wobC (by decide) (by decide) ?_
  show gj_G E _ mc_0 p e s m args below meth c _ 4 [some (.ref 42)] [] SI SJ
  refine cs_ord F0 (gj_ckc_o ck_0 rfl (j := 2) (q := (4, .aload_n 0, 1, 0)) rfl rfl) ?_
  show gj_G E _ mc_0 p e s m args below meth c _ 5 [some (.ref 42)] [(.ref 42)] SI SJ
  refine cs_ord F0 (gj_ckc_o ck_0 rfl (j := 3) (q := (5, .bipush 14, 2, 0)) rfl rfl) ?_
  show gj_G E _ mc_0 p e s m args below meth c _ 7 [some (.ref 42)] [(.int (i3 14)), (.ref 42)] SI SJ
  refine cs_arrJ (n := 43) (N := 14) (pc := 7) F0 (gj_ckc_d ck_0 (j := 4) (q := (7, .newarray .long, 2, 2)) rfl) war_long rfl (by decide) (by decide) (by decide) rfl (fun k => hz 43 k (by omega)) (by decide) (by decide) (fun F1 => ?_)
  show gj_G E _ mc_0 p e s m args below meth c _ 9 [some (.ref 42)] [(.ref 43), (.ref 42)] SI SJ
  refine cs_ref (ci := 0) (q := (RX0, TX0, 10)) (o := 42) (k := 0) (v := 43) (idx := 9) (pc := 9) (r2 := gj_Rq 42) F1 hin (gj_ckc_d ck_0 (j := 5) (q := (9, .putfield 9, 3, 0)) rfl) rfl (gj_wF_in 90000 (gj_ct rfl)) rfl (by decide) rfl (by decide) rfl rfl rfl (fun _ => rfl) (fun _ => rfl) (gj_Rq_1 (t := 41) rfl) (gj_Rq_2 (t := 41) rfl) (fun F2 => ?_)
  show gj_G E _ mc_0 p e s m args below meth c _ 12 [some (.ref 42)] [] SI SJ
  refine cs_ord F2 (gj_ckc_o ck_0 rfl (j := 6) (q := (12, .aload_n 0, 1, 0)) rfl rfl) ?_
  show gj_G E _ mc_0 p e s m args below meth c _ 13 [some (.ref 42)] [(.ref 42)] SI SJ
  refine cs_ord F2 (gj_ckc_o ck_0 rfl (j := 7) (q := (13, .bipush 14, 2, 0)) rfl rfl) ?_
  show gj_G E _ mc_0 p e s m args below meth c _ 15 [some (.ref 42)] [(.int (i3 14)), (.ref 42)] SI SJ
  refine cs_arrJ (n := 44) (N := 14) (pc := 15) F2 (gj_ckc_d ck_0 (j := 8) (q := (15, .newarray .long, 2, 2)) rfl) war_long rfl (by decide) (by decide) (by decide) rfl (fun k => hz 44 k (by omega)) (by decide) (by decide) (fun F3 => ?_)
  show gj_G E _ mc_0 p e s m args below meth c _ 17 [some (.ref 42)] [(.ref 44), (.ref 42)] SI SJ
  refine cs_ref (ci := 0) (q := (RX0, TX0, 10)) (o := 42) (k := 1) (v := 44) (idx := 15) (pc := 17) (r2 := gj_Rq 43) F3 hin (gj_ckc_d ck_0 (j := 9) (q := (17, .putfield 15, 3, 1)) rfl) rfl (gj_wF_in 150001 (gj_ct rfl)) rfl (by decide) rfl (by decide) rfl rfl rfl (fun _ => rfl) (fun _ => rfl) (gj_Rq_1 (t := 42) rfl) (gj_Rq_2 (t := 42) rfl) (fun F4 => ?_)
  show gj_G E _ mc_0 p e s m args below meth c _ 20 [some (.ref 42)] [] SI SJ
  refine cs_ord F4 (gj_ckc_o ck_0 rfl (j := 10) (q := (20, .aload_n 0, 1, 0)) rfl rfl) ?_
  show gj_G E _ mc_0 p e s m args below meth c _ 21 [some (.ref 42)] [(.ref 42)] SI SJ
  refine cs_ord F4 (gj_ckc_o ck_0 rfl (j := 11) (q := (21, .bipush 14, 2, 0)) rfl rfl) ?_
  show gj_G E _ mc_0 p e s m args below meth c _ 23 [some (.ref 42)] [(.int (i3 14)), (.ref 42)] SI SJ
  refine cs_arrJ (n := 45) (N := 14) (pc := 23) F4 (gj_ckc_d ck_0 (j := 12) (q := (23, .newarray .long, 2, 2)) rfl) war_long rfl (by decide) (by decide) (by decide) rfl (fun k => hz 45 k (by omega)) (by decide) (by decide) (fun F5 => ?_)
  show gj_G E _ mc_0 p e s m args below meth c _ 25 [some (.ref 42)] [(.ref 45), (.ref 42)] SI SJ
  refine cs_ref (ci := 0) (q := (RX0, TX0, 10)) (o := 42) (k := 2) (v := 45) (idx := 18) (pc := 25) (r2 := gj_Rq 44) F5 hin (gj_ckc_d ck_0 (j := 13) (q := (25, .putfield 18, 3, 2)) rfl) rfl (gj_wF_in 180002 (gj_ct rfl)) rfl (by decide) rfl (by decide) rfl rfl rfl (fun _ => rfl) (fun _ => rfl) (gj_Rq_1 (t := 43) rfl) (gj_Rq_2 (t := 43) rfl) (fun F6 => ?_)
  show gj_G E _ mc_0 p e s m args below meth c _ 28 [some (.ref 42)] [] SI SJ
  refine cs_ord F6 (gj_ckc_o ck_0 rfl (j := 14) (q := (28, .aload_n 0, 1, 0)) rfl rfl) ?_
  show gj_G E _ mc_0 p e s m args below meth c _ 29 [some (.ref 42)] [(.ref 42)] SI SJ
  refine cs_ord F6 (gj_ckc_o ck_0 rfl (j := 15) (q := (29, .bipush 14, 2, 0)) rfl rfl) ?_
  show gj_G E _ mc_0 p e s m args below meth c _ 31 [some (.ref 42)] [(.int (i3 14)), (.ref 42)] SI SJ
  refine cs_arrI (n := 46) (N := 14) (pc := 31) F6 (gj_ckc_d ck_0 (j := 16) (q := (31, .newarray .int, 2, 0)) rfl) war_int rfl (by decide) (by decide) (by decide) rfl (fun k => hz 46 k (by omega)) (by decide) (by decide) (fun F7 => ?_)
  show gj_G E _ mc_0 p e s m args below meth c _ 33 [some (.ref 42)] [(.ref 46), (.ref 42)] SI SJ
  refine cs_ref (ci := 0) (q := (RX0, TX0, 10)) (o := 42) (k := 3) (v := 46) (idx := 21) (pc := 33) (r2 := gj_Rq 45) F7 hin (gj_ckc_d ck_0 (j := 17) (q := (33, .putfield 21, 3, 3)) rfl) rfl (gj_wF_in 210003 (gj_ct rfl)) rfl (by decide) rfl (by decide) rfl rfl rfl (fun _ => rfl) (fun _ => rfl) (gj_Rq_1 (t := 44) rfl) (gj_Rq_2 (t := 44) rfl) (fun F8 => ?_)
  show gj_G E _ mc_0 p e s m args below meth c _ 36 [some (.ref 42)] [] SI SJ
  refine cs_ord F8 (gj_ckc_o ck_0 rfl (j := 18) (q := (36, .aload_n 0, 1, 0)) rfl rfl) ?_
  show gj_G E _ mc_0 p e s m args below meth c _ 37 [some (.ref 42)] [(.ref 42)] SI SJ
  refine cs_ord F8 (gj_ckc_o ck_0 rfl (j := 19) (q := (37, .bipush 91, 2, 0)) rfl rfl) ?_
  show gj_G E _ mc_0 p e s m args below meth c _ 39 [some (.ref 42)] [(.int (i3 91)), (.ref 42)] SI SJ
  refine cs_arrJ (n := 47) (N := 91) (pc := 39) F8 (gj_ckc_d ck_0 (j := 20) (q := (39, .newarray .long, 2, 2)) rfl) war_long rfl (by decide) (by decide) (by decide) rfl (fun k => hz 47 k (by omega)) (by decide) (by decide) (fun F9 => ?_)
  show gj_G E _ mc_0 p e s m args below meth c _ 41 [some (.ref 42)] [(.ref 47), (.ref 42)] SI SJ
  refine cs_ref (ci := 0) (q := (RX0, TX0, 10)) (o := 42) (k := 4) (v := 47) (idx := 25) (pc := 41) (r2 := gj_Rq 46) F9 hin (gj_ckc_d ck_0 (j := 21) (q := (41, .putfield 25, 3, 4)) rfl) rfl (gj_wF_in 250004 (gj_ct rfl)) rfl (by decide) rfl (by decide) rfl rfl rfl (fun _ => rfl) (fun _ => rfl) (gj_Rq_1 (t := 45) rfl) (gj_Rq_2 (t := 45) rfl) (fun F10 => ?_)
  show gj_G E _ mc_0 p e s m args below meth c _ 44 [some (.ref 42)] [] SI SJ
  refine cs_ord F10 (gj_ckc_o ck_0 rfl (j := 22) (q := (44, .aload_n 0, 1, 0)) rfl rfl) ?_
  show gj_G E _ mc_0 p e s m args below meth c _ 45 [some (.ref 42)] [(.ref 42)] SI SJ
  refine cs_ord F10 (gj_ckc_o ck_0 rfl (j := 23) (q := (45, .bipush 91, 2, 0)) rfl rfl) ?_
  show gj_G E _ mc_0 p e s m args below meth c _ 47 [some (.ref 42)] [(.int (i3 91)), (.ref 42)] SI SJ
  refine cs_arrJ (n := 48) (N := 91) (pc := 47) F10 (gj_ckc_d ck_0 (j := 24) (q := (47, .newarray .long, 2, 2)) rfl) war_long rfl (by decide) (by decide) (by decide) rfl (fun k => hz 48 k (by omega)) (by decide) (by decide) (fun F11 => ?_)
  show gj_G E _ mc_0 p e s m args below meth c _ 49 [some (.ref 42)] [(.ref 48), (.ref 42)] SI SJ
  refine cs_ref (ci := 0) (q := (RX0, TX0, 10)) (o := 42) (k := 5) (v := 48) (idx := 28) (pc := 49) (r2 := gj_Rq 47) F11 hin (gj_ckc_d ck_0 (j := 25) (q := (49, .putfield 28, 3, 5)) rfl) rfl (gj_wF_in 280005 (gj_ct rfl)) rfl (by decide) rfl (by decide) rfl rfl rfl (fun _ => rfl) (fun _ => rfl) (gj_Rq_1 (t := 46) rfl) (gj_Rq_2 (t := 46) rfl) (fun F12 => ?_)
  show gj_G E _ mc_0 p e s m args below meth c _ 52 [some (.ref 42)] [] SI SJ
  refine cs_ord F12 (gj_ckc_o ck_0 rfl (j := 26) (q := (52, .aload_n 0, 1, 0)) rfl rfl) ?_
  show gj_G E _ mc_0 p e s m args below meth c _ 53 [some (.ref 42)] [(.ref 42)] SI SJ
  refine cs_ord F12 (gj_ckc_o ck_0 rfl (j := 27) (q := (53, .bipush 91, 2, 0)) rfl rfl) ?_
  show gj_G E _ mc_0 p e s m args below meth c _ 55 [some (.ref 42)] [(.int (i3 91)), (.ref 42)] SI SJ
  refine cs_arrJ (n := 49) (N := 91) (pc := 55) F12 (gj_ckc_d ck_0 (j := 28) (q := (55, .newarray .long, 2, 2)) rfl) war_long rfl (by decide) (by decide) (by decide) rfl (fun k => hz 49 k (by omega)) (by decide) (by decide) (fun F13 => ?_)
  show gj_G E _ mc_0 p e s m args below meth c _ 57 [some (.ref 42)] [(.ref 49), (.ref 42)] SI SJ
  refine cs_ref (ci := 0) (q := (RX0, TX0, 10)) (o := 42) (k := 6) (v := 49) (idx := 31) (pc := 57) (r2 := gj_Rq 48) F13 hin (gj_ckc_d ck_0 (j := 29) (q := (57, .putfield 31, 3, 6)) rfl) rfl (gj_wF_in 310006 (gj_ct rfl)) rfl (by decide) rfl (by decide) rfl rfl rfl (fun _ => rfl) (fun _ => rfl) (gj_Rq_1 (t := 47) rfl) (gj_Rq_2 (t := 47) rfl) (fun F14 => ?_)
  show gj_G E _ mc_0 p e s m args below meth c _ 60 [some (.ref 42)] [] SI SJ
  refine cs_ord F14 (gj_ckc_o ck_0 rfl (j := 30) (q := (60, .aload_n 0, 1, 0)) rfl rfl) ?_
  show gj_G E _ mc_0 p e s m args below meth c _ 61 [some (.ref 42)] [(.ref 42)] SI SJ
  refine cs_ord F14 (gj_ckc_o ck_0 rfl (j := 31) (q := (61, .bipush 91, 2, 0)) rfl rfl) ?_
  show gj_G E _ mc_0 p e s m args below meth c _ 63 [some (.ref 42)] [(.int (i3 91)), (.ref 42)] SI SJ
  refine cs_arrI (n := 50) (N := 91) (pc := 63) F14 (gj_ckc_d ck_0 (j := 32) (q := (63, .newarray .int, 2, 0)) rfl) war_int rfl (by decide) (by decide) (by decide) rfl (fun k => hz 50 k (by omega)) (by decide) (by decide) (fun F15 => ?_)
  show gj_G E _ mc_0 p e s m args below meth c _ 65 [some (.ref 42)] [(.ref 50), (.ref 42)] SI SJ
  refine cs_ref (ci := 0) (q := (RX0, TX0, 10)) (o := 42) (k := 7) (v := 50) (idx := 34) (pc := 65) (r2 := gj_Rq 49) F15 hin (gj_ckc_d ck_0 (j := 33) (q := (65, .putfield 34, 3, 7)) rfl) rfl (gj_wF_in 340007 (gj_ct rfl)) rfl (by decide) rfl (by decide) rfl rfl rfl (fun _ => rfl) (fun _ => rfl) (gj_Rq_1 (t := 48) rfl) (gj_Rq_2 (t := 48) rfl) (fun F16 => ?_)
  show gj_G E _ mc_0 p e s m args below meth c _ 68 [some (.ref 42)] [] SI SJ
  refine cs_ord F16 (gj_ckc_o ck_0 rfl (j := 34) (q := (68, .aload_n 0, 1, 0)) rfl rfl) ?_
  show gj_G E _ mc_0 p e s m args below meth c _ 69 [some (.ref 42)] [(.ref 42)] SI SJ
  refine cs_ord F16 (gj_ckc_o ck_0 rfl (j := 35) (q := (69, .bipush 91, 2, 0)) rfl rfl) ?_
  show gj_G E _ mc_0 p e s m args below meth c _ 71 [some (.ref 42)] [(.int (i3 91)), (.ref 42)] SI SJ
  refine cs_arrI (n := 51) (N := 91) (pc := 71) F16 (gj_ckc_d ck_0 (j := 36) (q := (71, .newarray .int, 2, 0)) rfl) war_int rfl (by decide) (by decide) (by decide) rfl (fun k => hz 51 k (by omega)) (by decide) (by decide) (fun F17 => ?_)
  show gj_G E _ mc_0 p e s m args below meth c _ 73 [some (.ref 42)] [(.ref 51), (.ref 42)] SI SJ
  refine cs_ref (ci := 0) (q := (RX0, TX0, 10)) (o := 42) (k := 8) (v := 51) (idx := 37) (pc := 73) (r2 := gj_Rq 50) F17 hin (gj_ckc_d ck_0 (j := 37) (q := (73, .putfield 37, 3, 8)) rfl) rfl (gj_wF_in 370008 (gj_ct rfl)) rfl (by decide) rfl (by decide) rfl rfl rfl (fun _ => rfl) (fun _ => rfl) (gj_Rq_1 (t := 49) rfl) (gj_Rq_2 (t := 49) rfl) (fun F18 => ?_)
  show gj_G E _ mc_0 p e s m args below meth c _ 76 [some (.ref 42)] [] SI SJ
  refine cs_ord F18 (gj_ckc_o ck_0 rfl (j := 38) (q := (76, .aload_n 0, 1, 0)) rfl rfl) ?_
  show gj_G E _ mc_0 p e s m args below meth c _ 77 [some (.ref 42)] [(.ref 42)] SI SJ
  refine cs_ord F18 (gj_ckc_o ck_0 rfl (j := 39) (q := (77, .iconst 0, 1, 0)) rfl rfl) ?_
  show gj_G E _ mc_0 p e s m args below meth c _ 78 [some (.ref 42)] [(.int (i3 0)), (.ref 42)] SI SJ
  refine cs_ord F18 (gj_ckc_o ck_0 rfl (j := 40) (q := (78, .putfield 40, 3, 9)) rfl rfl) ?_
  show gj_G E _ mc_0 p e s m args below meth c _ 81 [some (.ref 42)] [] (gj_u2 SI 42 9 (i3 0)) SJ
  refine cs_ret F18 (gj_ckc_d ck_0 (j := 41) (q := (81, .return_, 1, 0)) rfl) rfl ?_
  have fF : FI (Lk 42 43 52) SI (gj_u2 SI 42 9 (i3 0)) := ((FI.rf : FI (Lk 42 43 52) SI SI).u (by unfold Lk; omega))
  have gF : FJ (Lk 42 43 52) SJ SJ := (FJ.rf : FJ (Lk 42 43 52) SJ SJ)
  have zF : ZZ 52 (gj_u2 SI 42 9 (i3 0)) SJ := ((hz.le (by omega) : ZZ 52 SI SJ).u (by omega))
  exact ⟨zF, fF, gF, rfl⟩
set_option maxHeartbeats 4000000 in
set_option maxRecDepth 20000 in
theorem mk_1_53 {E : gj_E} {SI : gj_I} {SJ : gj_J} (hz : ZZ 54 SI SJ) : gj_Mk E (54, gj_Rq 51) (54, gj_Rq 51) mc_1 0 0 [.ref 53] SI SJ (fun A B => ZZ 54 A B ∧ FI (Lk 53 54 54) SI A ∧ FJ (Lk 53 54 54) SJ B ∧ True) := by
  refine cs_start (M := mc_1) rfl rfl rfl rfl ?_
  intro p e s m args below meth c hin F0
  refine cs_ord F0 (gj_ckc_o ck_1 rfl (j := 0) (q := (0, .aload_n 0, 1, 0)) rfl rfl) ?_
  show gj_G E _ mc_1 p e s m args below meth c _ 1 [some (.ref 53)] [(.ref 53)] SI SJ
  refine cs_obj (idx := 1) (pc := 1) (o := 53) F0 (gj_ckc_d ck_1 (j := 1) (q := (1, .invokespecial 1, 3, 99)) rfl) wob_X1 wobI wobC (by decide) (by decide) ?_
  show gj_G E _ mc_1 p e s m args below meth c _ 4 [some (.ref 53)] [] SI SJ
  refine cs_ord F0 (gj_ckc_o ck_1 rfl (j := 2) (q := (4, .aload_n 0, 1, 0)) rfl rfl) ?_
  show gj_G E _ mc_1 p e s m args below meth c _ 5 [some (.ref 53)] [(.ref 53)] SI SJ
  refine cs_ord F0 (gj_ckc_o ck_1 rfl (j := 3) (q := (5, .lconst 0, 1, 0)) rfl rfl) ?_
  show gj_G E _ mc_1 p e s m args below meth c _ 6 [some (.ref 53)] [(.long (i6 0)), (.ref 53)] SI SJ
  refine cs_ord F0 (gj_ckc_o ck_1 rfl (j := 4) (q := (6, .putfield 7, 3, 100)) rfl rfl) ?_
  show gj_G E _ mc_1 p e s m args below meth c _ 9 [some (.ref 53)] [] SI (gj_w2 SJ 53 0 (i6 0))
  refine cs_ord F0 (gj_ckc_o ck_1 rfl (j := 5) (q := (9, .aload_n 0, 1, 0)) rfl rfl) ?_
  show gj_G E _ mc_1 p e s m args below meth c _ 10 [some (.ref 53)] [(.ref 53)] SI (gj_w2 SJ 53 0 (i6 0))
  refine cs_ord F0 (gj_ckc_o ck_1 rfl (j := 6) (q := (10, .lconst 1, 1, 0)) rfl rfl) ?_
  show gj_G E _ mc_1 p e s m args below meth c _ 11 [some (.ref 53)] [(.long (i6 1)), (.ref 53)] SI (gj_w2 SJ 53 0 (i6 0))
  refine cs_ord F0 (gj_ckc_o ck_1 rfl (j := 7) (q := (11, .putfield 13, 3, 101)) rfl rfl) ?_
  show gj_G E _ mc_1 p e s m args below meth c _ 14 [some (.ref 53)] [] SI (gj_w2 (gj_w2 SJ 53 0 (i6 0)) 53 1 (i6 1))
  refine cs_ret F0 (gj_ckc_d ck_1 (j := 8) (q := (14, .return_, 1, 0)) rfl) rfl ?_
  have fF : FI (Lk 53 54 54) SI SI := (FI.rf : FI (Lk 53 54 54) SI SI)
  have gF : FJ (Lk 53 54 54) SJ (gj_w2 (gj_w2 SJ 53 0 (i6 0)) 53 1 (i6 1)) := (((FJ.rf : FJ (Lk 53 54 54) SJ SJ).w (by unfold Lk; omega)).w (by unfold Lk; omega))
  have zF : ZZ 54 SI (gj_w2 (gj_w2 SJ 53 0 (i6 0)) 53 1 (i6 1)) := (((hz.le (by omega) : ZZ 54 SI SJ).w (by omega)).w (by omega))
  exact ⟨zF, fF, gF, trivial⟩
set_option maxHeartbeats 4000000 in
set_option maxRecDepth 20000 in
theorem mk_6_52 {E : gj_E} {SI : gj_I} {SJ : gj_J} (hz : ZZ 53 SI SJ) : gj_Mk E (53, gj_Rq 51) (55, gj_Rq 53) mc_6 2 26 [.ref 52] SI SJ (fun A B => ZZ 55 A B ∧ FI (Lk 52 53 55) SI A ∧ FJ (Lk 52 53 55) SJ B ∧ True) := by
  refine cs_start (M := mc_6) rfl rfl rfl rfl ?_
  intro p e s m args below meth c hin F0
  refine cs_ord F0 (gj_ckc_o ck_6 rfl (j := 0) (q := (0, .aload_n 0, 1, 0)) rfl rfl) ?_
  show gj_G E _ mc_6 p e s m args below meth c _ 1 [some (.ref 52)] [(.ref 52)] SI SJ
  refine cs_obj (idx := 3) (pc := 1) (o := 52) F0 (gj_ckc_d ck_6 (j := 1) (q := (1, .invokespecial 3, 3, 99)) rfl) wob_X6 wobI wobC (by decide) (by decide) ?_
  show gj_G E _ mc_6 p e s m args below meth c _ 4 [some (.ref 52)] [] SI SJ
  refine cs_ord F0 (gj_ckc_o ck_6 rfl (j := 2) (q := (4, .aload_n 0, 1, 0)) rfl rfl) ?_
  show gj_G E _ mc_6 p e s m args below meth c _ 5 [some (.ref 52)] [(.ref 52)] SI SJ
  refine cs_new (ci := 1) (q := (RX1, TX1, 2)) (n := 53) (idx := 9) (pc := 5) F0 (gj_ckc_d ck_6 (j := 3) (q := (5, .new 9, 3, 1)) rfl) rfl wcl_X6_9 win_1 wii_1 (by decide) rfl rfl (fun k => hz 53 k (by omega)) (fun k _ => rfl) (by decide) (by decide) (fun F1 => ?_)
  show gj_G E _ mc_6 p e s m args below meth c _ 8 [some (.ref 52)] [(.ref 53), (.ref 52)] SI SJ
  refine cs_ord F1 (gj_ckc_o ck_6 rfl (j := 4) (q := (8, .dup, 1, 0)) rfl rfl) ?_
  show gj_G E _ mc_6 p e s m args below meth c _ 9 [some (.ref 52)] [(.ref 53), (.ref 53), (.ref 52)] SI SJ
  refine cs_init (M2 := mc_1) (idx := 11) (pc := 9) (o := 53) F1 (gj_ckc_d ck_6 (j := 5) (q := (9, .invokespecial 11, 3, 1)) rfl) mok_6_11 rfl wim_1 rfl (mk_1_53 (E := E) (hz.le (by omega))) rfl (by decide) (by decide) (by decide) (fun A2 B2 h2 F2 => ?_)
  obtain ⟨z2, f2, g2, k2⟩ := h2
  show gj_G E _ mc_6 p e s m args below meth c _ 12 [some (.ref 52)] [(.ref 53), (.ref 52)] A2 B2
  refine cs_ref (ci := 6) (q := (RX6, TX6, 13)) (o := 52) (k := 0) (v := 53) (idx := 12) (pc := 12) (r2 := gj_Rq 52) F2 hin (gj_ckc_d ck_6 (j := 6) (q := (12, .putfield 12, 3, 600)) rfl) rfl (gj_wF_in 600120600 (gj_ct rfl)) rfl (by decide) rfl (by decide) rfl rfl rfl (fun _ => rfl) (fun _ => rfl) (gj_Rq_1 (t := 51) rfl) (gj_Rq_2 (t := 51) rfl) (fun F3 => ?_)
  show gj_G E _ mc_6 p e s m args below meth c _ 15 [some (.ref 52)] [] A2 B2
  refine cs_ord F3 (gj_ckc_o ck_6 rfl (j := 7) (q := (15, .aload_n 0, 1, 0)) rfl rfl) ?_
  show gj_G E _ mc_6 p e s m args below meth c _ 16 [some (.ref 52)] [(.ref 52)] A2 B2
  refine cs_ord F3 (gj_ckc_o ck_6 rfl (j := 8) (q := (16, .bipush 24, 2, 0)) rfl rfl) ?_
  show gj_G E _ mc_6 p e s m args below meth c _ 18 [some (.ref 52)] [(.int (i3 24)), (.ref 52)] A2 B2
  refine cs_arrI (n := 54) (N := 24) (pc := 18) F3 (gj_ckc_d ck_6 (j := 9) (q := (18, .newarray .int, 2, 0)) rfl) war_int rfl (by decide) (by decide) (by decide) rfl (fun k => z2 54 k (by omega)) (by decide) (by decide) (fun F4 => ?_)
  show gj_G E _ mc_6 p e s m args below meth c _ 20 [some (.ref 52)] [(.ref 54), (.ref 52)] A2 B2
  refine cs_ref (ci := 6) (q := (RX6, TX6, 13)) (o := 52) (k := 1) (v := 54) (idx := 18) (pc := 20) (r2 := gj_Rq 53) F4 hin (gj_ckc_d ck_6 (j := 10) (q := (20, .putfield 18, 3, 601)) rfl) rfl (gj_wF_in 600180601 (gj_ct rfl)) rfl (by decide) rfl (by decide) rfl rfl rfl (fun _ => rfl) (fun _ => rfl) (gj_Rq_1 (t := 52) rfl) (gj_Rq_2 (t := 52) rfl) (fun F5 => ?_)
  show gj_G E _ mc_6 p e s m args below meth c _ 23 [some (.ref 52)] [] A2 B2
  refine cs_ord F5 (gj_ckc_o ck_6 rfl (j := 11) (q := (23, .aload_n 0, 1, 0)) rfl rfl) ?_
  show gj_G E _ mc_6 p e s m args below meth c _ 24 [some (.ref 52)] [(.ref 52)] A2 B2
  refine cs_ord F5 (gj_ckc_o ck_6 rfl (j := 12) (q := (24, .iconst 0, 1, 0)) rfl rfl) ?_
  show gj_G E _ mc_6 p e s m args below meth c _ 25 [some (.ref 52)] [(.int (i3 0)), (.ref 52)] A2 B2
  refine cs_ord F5 (gj_ckc_o ck_6 rfl (j := 13) (q := (25, .putfield 22, 3, 602)) rfl rfl) ?_
  show gj_G E _ mc_6 p e s m args below meth c _ 28 [some (.ref 52)] [] (gj_u2 A2 52 2 (i3 0)) B2
  refine cs_ord F5 (gj_ckc_o ck_6 rfl (j := 14) (q := (28, .aload_n 0, 1, 0)) rfl rfl) ?_
  show gj_G E _ mc_6 p e s m args below meth c _ 29 [some (.ref 52)] [(.ref 52)] (gj_u2 A2 52 2 (i3 0)) B2
  refine cs_ord F5 (gj_ckc_o ck_6 rfl (j := 15) (q := (29, .lconst 0, 1, 0)) rfl rfl) ?_
  show gj_G E _ mc_6 p e s m args below meth c _ 30 [some (.ref 52)] [(.long (i6 0)), (.ref 52)] (gj_u2 A2 52 2 (i3 0)) B2
  refine cs_ord F5 (gj_ckc_o ck_6 rfl (j := 16) (q := (30, .putfield 26, 3, 603)) rfl rfl) ?_
  show gj_G E _ mc_6 p e s m args below meth c _ 33 [some (.ref 52)] [] (gj_u2 A2 52 2 (i3 0)) (gj_w2 B2 52 3 (i6 0))
  refine cs_ord F5 (gj_ckc_o ck_6 rfl (j := 17) (q := (33, .aload_n 0, 1, 0)) rfl rfl) ?_
  show gj_G E _ mc_6 p e s m args below meth c _ 34 [some (.ref 52)] [(.ref 52)] (gj_u2 A2 52 2 (i3 0)) (gj_w2 B2 52 3 (i6 0))
  refine cs_ord F5 (gj_ckc_o ck_6 rfl (j := 18) (q := (34, .lconst 0, 1, 0)) rfl rfl) ?_
  show gj_G E _ mc_6 p e s m args below meth c _ 35 [some (.ref 52)] [(.long (i6 0)), (.ref 52)] (gj_u2 A2 52 2 (i3 0)) (gj_w2 B2 52 3 (i6 0))
  refine cs_ord F5 (gj_ckc_o ck_6 rfl (j := 19) (q := (35, .putfield 30, 3, 604)) rfl rfl) ?_
  show gj_G E _ mc_6 p e s m args below meth c _ 38 [some (.ref 52)] [] (gj_u2 A2 52 2 (i3 0)) (gj_w2 (gj_w2 B2 52 3 (i6 0)) 52 4 (i6 0))
  refine cs_ord F5 (gj_ckc_o ck_6 rfl (j := 20) (q := (38, .aload_n 0, 1, 0)) rfl rfl) ?_
  show gj_G E _ mc_6 p e s m args below meth c _ 39 [some (.ref 52)] [(.ref 52)] (gj_u2 A2 52 2 (i3 0)) (gj_w2 (gj_w2 B2 52 3 (i6 0)) 52 4 (i6 0))
  refine cs_ord F5 (gj_ckc_o ck_6 rfl (j := 21) (q := (39, .lconst 0, 1, 0)) rfl rfl) ?_
  show gj_G E _ mc_6 p e s m args below meth c _ 40 [some (.ref 52)] [(.long (i6 0)), (.ref 52)] (gj_u2 A2 52 2 (i3 0)) (gj_w2 (gj_w2 B2 52 3 (i6 0)) 52 4 (i6 0))
  refine cs_ord F5 (gj_ckc_o ck_6 rfl (j := 22) (q := (40, .putfield 33, 3, 605)) rfl rfl) ?_
  show gj_G E _ mc_6 p e s m args below meth c _ 43 [some (.ref 52)] [] (gj_u2 A2 52 2 (i3 0)) (gj_w2 (gj_w2 (gj_w2 B2 52 3 (i6 0)) 52 4 (i6 0)) 52 5 (i6 0))
  refine cs_ord F5 (gj_ckc_o ck_6 rfl (j := 23) (q := (43, .aload_n 0, 1, 0)) rfl rfl) ?_
  show gj_G E _ mc_6 p e s m args below meth c _ 44 [some (.ref 52)] [(.ref 52)] (gj_u2 A2 52 2 (i3 0)) (gj_w2 (gj_w2 (gj_w2 B2 52 3 (i6 0)) 52 4 (i6 0)) 52 5 (i6 0))
  refine cs_ord F5 (gj_ckc_o ck_6 rfl (j := 24) (q := (44, .lconst 0, 1, 0)) rfl rfl) ?_
  show gj_G E _ mc_6 p e s m args below meth c _ 45 [some (.ref 52)] [(.long (i6 0)), (.ref 52)] (gj_u2 A2 52 2 (i3 0)) (gj_w2 (gj_w2 (gj_w2 B2 52 3 (i6 0)) 52 4 (i6 0)) 52 5 (i6 0))
  refine cs_ord F5 (gj_ckc_o ck_6 rfl (j := 25) (q := (45, .putfield 36, 3, 606)) rfl rfl) ?_
  show gj_G E _ mc_6 p e s m args below meth c _ 48 [some (.ref 52)] [] (gj_u2 A2 52 2 (i3 0)) (gj_w2 (gj_w2 (gj_w2 (gj_w2 B2 52 3 (i6 0)) 52 4 (i6 0)) 52 5 (i6 0)) 52 6 (i6 0))
  refine cs_ord F5 (gj_ckc_o ck_6 rfl (j := 26) (q := (48, .aload_n 0, 1, 0)) rfl rfl) ?_
  show gj_G E _ mc_6 p e s m args below meth c _ 49 [some (.ref 52)] [(.ref 52)] (gj_u2 A2 52 2 (i3 0)) (gj_w2 (gj_w2 (gj_w2 (gj_w2 B2 52 3 (i6 0)) 52 4 (i6 0)) 52 5 (i6 0)) 52 6 (i6 0))
  refine cs_ord F5 (gj_ckc_o ck_6 rfl (j := 27) (q := (49, .lconst 0, 1, 0)) rfl rfl) ?_
  show gj_G E _ mc_6 p e s m args below meth c _ 50 [some (.ref 52)] [(.long (i6 0)), (.ref 52)] (gj_u2 A2 52 2 (i3 0)) (gj_w2 (gj_w2 (gj_w2 (gj_w2 B2 52 3 (i6 0)) 52 4 (i6 0)) 52 5 (i6 0)) 52 6 (i6 0))
  refine cs_ord F5 (gj_ckc_o ck_6 rfl (j := 28) (q := (50, .putfield 39, 3, 607)) rfl rfl) ?_
  show gj_G E _ mc_6 p e s m args below meth c _ 53 [some (.ref 52)] [] (gj_u2 A2 52 2 (i3 0)) (gj_w2 (gj_w2 (gj_w2 (gj_w2 (gj_w2 B2 52 3 (i6 0)) 52 4 (i6 0)) 52 5 (i6 0)) 52 6 (i6 0)) 52 7 (i6 0))
  refine cs_ord F5 (gj_ckc_o ck_6 rfl (j := 29) (q := (53, .aload_n 0, 1, 0)) rfl rfl) ?_
  show gj_G E _ mc_6 p e s m args below meth c _ 54 [some (.ref 52)] [(.ref 52)] (gj_u2 A2 52 2 (i3 0)) (gj_w2 (gj_w2 (gj_w2 (gj_w2 (gj_w2 B2 52 3 (i6 0)) 52 4 (i6 0)) 52 5 (i6 0)) 52 6 (i6 0)) 52 7 (i6 0))
  refine cs_ord F5 (gj_ckc_o ck_6 rfl (j := 30) (q := (54, .lconst 0, 1, 0)) rfl rfl) ?_
  show gj_G E _ mc_6 p e s m args below meth c _ 55 [some (.ref 52)] [(.long (i6 0)), (.ref 52)] (gj_u2 A2 52 2 (i3 0)) (gj_w2 (gj_w2 (gj_w2 (gj_w2 (gj_w2 B2 52 3 (i6 0)) 52 4 (i6 0)) 52 5 (i6 0)) 52 6 (i6 0)) 52 7 (i6 0))
  refine cs_ord F5 (gj_ckc_o ck_6 rfl (j := 31) (q := (55, .putfield 42, 3, 608)) rfl rfl) ?_
  show gj_G E _ mc_6 p e s m args below meth c _ 58 [some (.ref 52)] [] (gj_u2 A2 52 2 (i3 0)) (gj_w2 (gj_w2 (gj_w2 (gj_w2 (gj_w2 (gj_w2 B2 52 3 (i6 0)) 52 4 (i6 0)) 52 5 (i6 0)) 52 6 (i6 0)) 52 7 (i6 0)) 52 8 (i6 0))
  refine cs_ord F5 (gj_ckc_o ck_6 rfl (j := 32) (q := (58, .aload_n 0, 1, 0)) rfl rfl) ?_
  show gj_G E _ mc_6 p e s m args below meth c _ 59 [some (.ref 52)] [(.ref 52)] (gj_u2 A2 52 2 (i3 0)) (gj_w2 (gj_w2 (gj_w2 (gj_w2 (gj_w2 (gj_w2 B2 52 3 (i6 0)) 52 4 (i6 0)) 52 5 (i6 0)) 52 6 (i6 0)) 52 7 (i6 0)) 52 8 (i6 0))
  refine cs_ord F5 (gj_ckc_o ck_6 rfl (j := 33) (q := (59, .lconst 0, 1, 0)) rfl rfl) ?_
  show gj_G E _ mc_6 p e s m args below meth c _ 60 [some (.ref 52)] [(.long (i6 0)), (.ref 52)] (gj_u2 A2 52 2 (i3 0)) (gj_w2 (gj_w2 (gj_w2 (gj_w2 (gj_w2 (gj_w2 B2 52 3 (i6 0)) 52 4 (i6 0)) 52 5 (i6 0)) 52 6 (i6 0)) 52 7 (i6 0)) 52 8 (i6 0))
  refine cs_ord F5 (gj_ckc_o ck_6 rfl (j := 34) (q := (60, .putfield 45, 3, 609)) rfl rfl) ?_
  show gj_G E _ mc_6 p e s m args below meth c _ 63 [some (.ref 52)] [] (gj_u2 A2 52 2 (i3 0)) (gj_w2 (gj_w2 (gj_w2 (gj_w2 (gj_w2 (gj_w2 (gj_w2 B2 52 3 (i6 0)) 52 4 (i6 0)) 52 5 (i6 0)) 52 6 (i6 0)) 52 7 (i6 0)) 52 8 (i6 0)) 52 9 (i6 0))
  refine cs_ord F5 (gj_ckc_o ck_6 rfl (j := 35) (q := (63, .aload_n 0, 1, 0)) rfl rfl) ?_
  show gj_G E _ mc_6 p e s m args below meth c _ 64 [some (.ref 52)] [(.ref 52)] (gj_u2 A2 52 2 (i3 0)) (gj_w2 (gj_w2 (gj_w2 (gj_w2 (gj_w2 (gj_w2 (gj_w2 B2 52 3 (i6 0)) 52 4 (i6 0)) 52 5 (i6 0)) 52 6 (i6 0)) 52 7 (i6 0)) 52 8 (i6 0)) 52 9 (i6 0))
  refine cs_ord F5 (gj_ckc_o ck_6 rfl (j := 36) (q := (64, .lconst 0, 1, 0)) rfl rfl) ?_
  show gj_G E _ mc_6 p e s m args below meth c _ 65 [some (.ref 52)] [(.long (i6 0)), (.ref 52)] (gj_u2 A2 52 2 (i3 0)) (gj_w2 (gj_w2 (gj_w2 (gj_w2 (gj_w2 (gj_w2 (gj_w2 B2 52 3 (i6 0)) 52 4 (i6 0)) 52 5 (i6 0)) 52 6 (i6 0)) 52 7 (i6 0)) 52 8 (i6 0)) 52 9 (i6 0))
  refine cs_ord F5 (gj_ckc_o ck_6 rfl (j := 37) (q := (65, .putfield 48, 3, 610)) rfl rfl) ?_
  show gj_G E _ mc_6 p e s m args below meth c _ 68 [some (.ref 52)] [] (gj_u2 A2 52 2 (i3 0)) (gj_w2 (gj_w2 (gj_w2 (gj_w2 (gj_w2 (gj_w2 (gj_w2 (gj_w2 B2 52 3 (i6 0)) 52 4 (i6 0)) 52 5 (i6 0)) 52 6 (i6 0)) 52 7 (i6 0)) 52 8 (i6 0)) 52 9 (i6 0)) 52 10 (i6 0))
  refine cs_ord F5 (gj_ckc_o ck_6 rfl (j := 38) (q := (68, .aload_n 0, 1, 0)) rfl rfl) ?_
  show gj_G E _ mc_6 p e s m args below meth c _ 69 [some (.ref 52)] [(.ref 52)] (gj_u2 A2 52 2 (i3 0)) (gj_w2 (gj_w2 (gj_w2 (gj_w2 (gj_w2 (gj_w2 (gj_w2 (gj_w2 B2 52 3 (i6 0)) 52 4 (i6 0)) 52 5 (i6 0)) 52 6 (i6 0)) 52 7 (i6 0)) 52 8 (i6 0)) 52 9 (i6 0)) 52 10 (i6 0))
  refine cs_ord F5 (gj_ckc_o ck_6 rfl (j := 39) (q := (69, .lconst 0, 1, 0)) rfl rfl) ?_
  show gj_G E _ mc_6 p e s m args below meth c _ 70 [some (.ref 52)] [(.long (i6 0)), (.ref 52)] (gj_u2 A2 52 2 (i3 0)) (gj_w2 (gj_w2 (gj_w2 (gj_w2 (gj_w2 (gj_w2 (gj_w2 (gj_w2 B2 52 3 (i6 0)) 52 4 (i6 0)) 52 5 (i6 0)) 52 6 (i6 0)) 52 7 (i6 0)) 52 8 (i6 0)) 52 9 (i6 0)) 52 10 (i6 0))
  refine cs_ord F5 (gj_ckc_o ck_6 rfl (j := 40) (q := (70, .putfield 51, 3, 611)) rfl rfl) ?_
  show gj_G E _ mc_6 p e s m args below meth c _ 73 [some (.ref 52)] [] (gj_u2 A2 52 2 (i3 0)) (gj_w2 (gj_w2 (gj_w2 (gj_w2 (gj_w2 (gj_w2 (gj_w2 (gj_w2 (gj_w2 B2 52 3 (i6 0)) 52 4 (i6 0)) 52 5 (i6 0)) 52 6 (i6 0)) 52 7 (i6 0)) 52 8 (i6 0)) 52 9 (i6 0)) 52 10 (i6 0)) 52 11 (i6 0))
  refine cs_ord F5 (gj_ckc_o ck_6 rfl (j := 41) (q := (73, .aload_n 0, 1, 0)) rfl rfl) ?_
  show gj_G E _ mc_6 p e s m args below meth c _ 74 [some (.ref 52)] [(.ref 52)] (gj_u2 A2 52 2 (i3 0)) (gj_w2 (gj_w2 (gj_w2 (gj_w2 (gj_w2 (gj_w2 (gj_w2 (gj_w2 (gj_w2 B2 52 3 (i6 0)) 52 4 (i6 0)) 52 5 (i6 0)) 52 6 (i6 0)) 52 7 (i6 0)) 52 8 (i6 0)) 52 9 (i6 0)) 52 10 (i6 0)) 52 11 (i6 0))
  refine cs_ord F5 (gj_ckc_o ck_6 rfl (j := 42) (q := (74, .lconst 0, 1, 0)) rfl rfl) ?_
  show gj_G E _ mc_6 p e s m args below meth c _ 75 [some (.ref 52)] [(.long (i6 0)), (.ref 52)] (gj_u2 A2 52 2 (i3 0)) (gj_w2 (gj_w2 (gj_w2 (gj_w2 (gj_w2 (gj_w2 (gj_w2 (gj_w2 (gj_w2 B2 52 3 (i6 0)) 52 4 (i6 0)) 52 5 (i6 0)) 52 6 (i6 0)) 52 7 (i6 0)) 52 8 (i6 0)) 52 9 (i6 0)) 52 10 (i6 0)) 52 11 (i6 0))
  refine cs_ord F5 (gj_ckc_o ck_6 rfl (j := 43) (q := (75, .putfield 54, 3, 612)) rfl rfl) ?_
  show gj_G E _ mc_6 p e s m args below meth c _ 78 [some (.ref 52)] [] (gj_u2 A2 52 2 (i3 0)) (gj_w2 (gj_w2 (gj_w2 (gj_w2 (gj_w2 (gj_w2 (gj_w2 (gj_w2 (gj_w2 (gj_w2 B2 52 3 (i6 0)) 52 4 (i6 0)) 52 5 (i6 0)) 52 6 (i6 0)) 52 7 (i6 0)) 52 8 (i6 0)) 52 9 (i6 0)) 52 10 (i6 0)) 52 11 (i6 0)) 52 12 (i6 0))
  refine cs_ret F5 (gj_ckc_d ck_6 (j := 44) (q := (78, .return_, 1, 0)) rfl) rfl ?_
  have fF : FI (Lk 52 53 55) SI (gj_u2 A2 52 2 (i3 0)) := (((FI.rf : FI (Lk 52 53 55) SI SI).tr (f2.le (fun o k z => by unfold Lk at z; unfold Lk; omega))).u (by unfold Lk; omega))
  have gF : FJ (Lk 52 53 55) SJ (gj_w2 (gj_w2 (gj_w2 (gj_w2 (gj_w2 (gj_w2 (gj_w2 (gj_w2 (gj_w2 (gj_w2 B2 52 3 (i6 0)) 52 4 (i6 0)) 52 5 (i6 0)) 52 6 (i6 0)) 52 7 (i6 0)) 52 8 (i6 0)) 52 9 (i6 0)) 52 10 (i6 0)) 52 11 (i6 0)) 52 12 (i6 0)) := ((((((((((((FJ.rf : FJ (Lk 52 53 55) SJ SJ).tr (g2.le (fun o k z => by unfold Lk at z; unfold Lk; omega))).w (by unfold Lk; omega)).w (by unfold Lk; omega)).w (by unfold Lk; omega)).w (by unfold Lk; omega)).w (by unfold Lk; omega)).w (by unfold Lk; omega)).w (by unfold Lk; omega)).w (by unfold Lk; omega)).w (by unfold Lk; omega)).w (by unfold Lk; omega))
  have zF : ZZ 55 (gj_u2 A2 52 2 (i3 0)) (gj_w2 (gj_w2 (gj_w2 (gj_w2 (gj_w2 (gj_w2 (gj_w2 (gj_w2 (gj_w2 (gj_w2 B2 52 3 (i6 0)) 52 4 (i6 0)) 52 5 (i6 0)) 52 6 (i6 0)) 52 7 (i6 0)) 52 8 (i6 0)) 52 9 (i6 0)) 52 10 (i6 0)) 52 11 (i6 0)) 52 12 (i6 0)) := ((((((((((((z2.le (by omega) : ZZ 55 A2 B2).u (by omega)).w (by omega)).w (by omega)).w (by omega)).w (by omega)).w (by omega)).w (by omega)).w (by omega)).w (by omega)).w (by omega)).w (by omega))
  exact ⟨zF, fF, gF, trivial⟩
set_option maxHeartbeats 4000000 in
set_option maxRecDepth 20000 in
theorem mk_1_56 {E : gj_E} {SI : gj_I} {SJ : gj_J} (hz : ZZ 57 SI SJ) : gj_Mk E (57, gj_Rq 54) (57, gj_Rq 54) mc_1 0 0 [.ref 56] SI SJ (fun A B => ZZ 57 A B ∧ FI (Lk 56 57 57) SI A ∧ FJ (Lk 56 57 57) SJ B ∧ True) := by
  refine cs_start (M := mc_1) rfl rfl rfl rfl ?_
  intro p e s m args below meth c hin F0
  refine cs_ord F0 (gj_ckc_o ck_1 rfl (j := 0) (q := (0, .aload_n 0, 1, 0)) rfl rfl) ?_
  show gj_G E _ mc_1 p e s m args below meth c _ 1 [some (.ref 56)] [(.ref 56)] SI SJ
  refine cs_obj (idx := 1) (pc := 1) (o := 56) F0 (gj_ckc_d ck_1 (j := 1) (q := (1, .invokespecial 1, 3, 99)) rfl) wob_X1 wobI wobC (by decide) (by decide) ?_
  show gj_G E _ mc_1 p e s m args below meth c _ 4 [some (.ref 56)] [] SI SJ
  refine cs_ord F0 (gj_ckc_o ck_1 rfl (j := 2) (q := (4, .aload_n 0, 1, 0)) rfl rfl) ?_
  show gj_G E _ mc_1 p e s m args below meth c _ 5 [some (.ref 56)] [(.ref 56)] SI SJ
  refine cs_ord F0 (gj_ckc_o ck_1 rfl (j := 3) (q := (5, .lconst 0, 1, 0)) rfl rfl) ?_
  show gj_G E _ mc_1 p e s m args below meth c _ 6 [some (.ref 56)] [(.long (i6 0)), (.ref 56)] SI SJ
  refine cs_ord F0 (gj_ckc_o ck_1 rfl (j := 4) (q := (6, .putfield 7, 3, 100)) rfl rfl) ?_
  show gj_G E _ mc_1 p e s m args below meth c _ 9 [some (.ref 56)] [] SI (gj_w2 SJ 56 0 (i6 0))
  refine cs_ord F0 (gj_ckc_o ck_1 rfl (j := 5) (q := (9, .aload_n 0, 1, 0)) rfl rfl) ?_
  show gj_G E _ mc_1 p e s m args below meth c _ 10 [some (.ref 56)] [(.ref 56)] SI (gj_w2 SJ 56 0 (i6 0))
  refine cs_ord F0 (gj_ckc_o ck_1 rfl (j := 6) (q := (10, .lconst 1, 1, 0)) rfl rfl) ?_
  show gj_G E _ mc_1 p e s m args below meth c _ 11 [some (.ref 56)] [(.long (i6 1)), (.ref 56)] SI (gj_w2 SJ 56 0 (i6 0))
  refine cs_ord F0 (gj_ckc_o ck_1 rfl (j := 7) (q := (11, .putfield 13, 3, 101)) rfl rfl) ?_
  show gj_G E _ mc_1 p e s m args below meth c _ 14 [some (.ref 56)] [] SI (gj_w2 (gj_w2 SJ 56 0 (i6 0)) 56 1 (i6 1))
  refine cs_ret F0 (gj_ckc_d ck_1 (j := 8) (q := (14, .return_, 1, 0)) rfl) rfl ?_
  have fF : FI (Lk 56 57 57) SI SI := (FI.rf : FI (Lk 56 57 57) SI SI)
  have gF : FJ (Lk 56 57 57) SJ (gj_w2 (gj_w2 SJ 56 0 (i6 0)) 56 1 (i6 1)) := (((FJ.rf : FJ (Lk 56 57 57) SJ SJ).w (by unfold Lk; omega)).w (by unfold Lk; omega))
  have zF : ZZ 57 SI (gj_w2 (gj_w2 SJ 56 0 (i6 0)) 56 1 (i6 1)) := (((hz.le (by omega) : ZZ 57 SI SJ).w (by omega)).w (by omega))
  exact ⟨zF, fF, gF, trivial⟩
set_option maxHeartbeats 4000000 in
set_option maxRecDepth 20000 in
theorem mk_1_57 {E : gj_E} {SI : gj_I} {SJ : gj_J} (hz : ZZ 58 SI SJ) : gj_Mk E (58, gj_Rq 55) (58, gj_Rq 55) mc_1 0 0 [.ref 57] SI SJ (fun A B => ZZ 58 A B ∧ FI (Lk 57 58 58) SI A ∧ FJ (Lk 57 58 58) SJ B ∧ True) := by
  refine cs_start (M := mc_1) rfl rfl rfl rfl ?_
  intro p e s m args below meth c hin F0
  refine cs_ord F0 (gj_ckc_o ck_1 rfl (j := 0) (q := (0, .aload_n 0, 1, 0)) rfl rfl) ?_
  show gj_G E _ mc_1 p e s m args below meth c _ 1 [some (.ref 57)] [(.ref 57)] SI SJ
  refine cs_obj (idx := 1) (pc := 1) (o := 57) F0 (gj_ckc_d ck_1 (j := 1) (q := (1, .invokespecial 1, 3, 99)) rfl) wob_X1 wobI wobC (by decide) (by decide) ?_
  show gj_G E _ mc_1 p e s m args below meth c _ 4 [some (.ref 57)] [] SI SJ
  refine cs_ord F0 (gj_ckc_o ck_1 rfl (j := 2) (q := (4, .aload_n 0, 1, 0)) rfl rfl) ?_
  show gj_G E _ mc_1 p e s m args below meth c _ 5 [some (.ref 57)] [(.ref 57)] SI SJ
  refine cs_ord F0 (gj_ckc_o ck_1 rfl (j := 3) (q := (5, .lconst 0, 1, 0)) rfl rfl) ?_
  show gj_G E _ mc_1 p e s m args below meth c _ 6 [some (.ref 57)] [(.long (i6 0)), (.ref 57)] SI SJ
  refine cs_ord F0 (gj_ckc_o ck_1 rfl (j := 4) (q := (6, .putfield 7, 3, 100)) rfl rfl) ?_
  show gj_G E _ mc_1 p e s m args below meth c _ 9 [some (.ref 57)] [] SI (gj_w2 SJ 57 0 (i6 0))
  refine cs_ord F0 (gj_ckc_o ck_1 rfl (j := 5) (q := (9, .aload_n 0, 1, 0)) rfl rfl) ?_
  show gj_G E _ mc_1 p e s m args below meth c _ 10 [some (.ref 57)] [(.ref 57)] SI (gj_w2 SJ 57 0 (i6 0))
  refine cs_ord F0 (gj_ckc_o ck_1 rfl (j := 6) (q := (10, .lconst 1, 1, 0)) rfl rfl) ?_
  show gj_G E _ mc_1 p e s m args below meth c _ 11 [some (.ref 57)] [(.long (i6 1)), (.ref 57)] SI (gj_w2 SJ 57 0 (i6 0))
  refine cs_ord F0 (gj_ckc_o ck_1 rfl (j := 7) (q := (11, .putfield 13, 3, 101)) rfl rfl) ?_
  show gj_G E _ mc_1 p e s m args below meth c _ 14 [some (.ref 57)] [] SI (gj_w2 (gj_w2 SJ 57 0 (i6 0)) 57 1 (i6 1))
  refine cs_ret F0 (gj_ckc_d ck_1 (j := 8) (q := (14, .return_, 1, 0)) rfl) rfl ?_
  have fF : FI (Lk 57 58 58) SI SI := (FI.rf : FI (Lk 57 58 58) SI SI)
  have gF : FJ (Lk 57 58 58) SJ (gj_w2 (gj_w2 SJ 57 0 (i6 0)) 57 1 (i6 1)) := (((FJ.rf : FJ (Lk 57 58 58) SJ SJ).w (by unfold Lk; omega)).w (by unfold Lk; omega))
  have zF : ZZ 58 SI (gj_w2 (gj_w2 SJ 57 0 (i6 0)) 57 1 (i6 1)) := (((hz.le (by omega) : ZZ 58 SI SJ).w (by omega)).w (by omega))
  exact ⟨zF, fF, gF, trivial⟩
set_option maxHeartbeats 4000000 in
set_option maxRecDepth 20000 in
theorem mk_2_55 {E : gj_E} {SI : gj_I} {SJ : gj_J} (hz : ZZ 56 SI SJ) : gj_Mk E (56, gj_Rq 54) (61, gj_Rq 59) mc_2 5 101 [.ref 55] SI SJ (fun A B => ZZ 61 A B ∧ FI (Lk 55 56 61) SI A ∧ FJ (Lk 55 56 61) SJ B ∧ True) := by
  refine cs_start (M := mc_2) rfl rfl rfl rfl ?_
  intro p e s m args below meth c hin F0
  refine cs_ord F0 (gj_ckc_o ck_2 rfl (j := 0) (q := (0, .aload_n 0, 1, 0)) rfl rfl) ?_
  show gj_G E _ mc_2 p e s m args below meth c _ 1 [some (.ref 55)] [(.ref 55)] SI SJ
  refine cs_obj (idx := 3) (pc := 1) (o := 55) F0 (gj_ckc_d ck_2 (j := 1) (q := (1, .invokespecial 3, 3, 99)) rfl) wob_X2 wobI wobC (by decide) (by decide) ?_
  show gj_G E _ mc_2 p e s m args below meth c _ 4 [some (.ref 55)] [] SI SJ
  refine cs_ord F0 (gj_ckc_o ck_2 rfl (j := 2) (q := (4, .aload_n 0, 1, 0)) rfl rfl) ?_
  show gj_G E _ mc_2 p e s m args below meth c _ 5 [some (.ref 55)] [(.ref 55)] SI SJ
  refine cs_new (ci := 1) (q := (RX1, TX1, 2)) (n := 56) (idx := 9) (pc := 5) F0 (gj_ckc_d ck_2 (j := 3) (q := (5, .new 9, 3, 1)) rfl) rfl wcl_X2_9 win_1 wii_1 (by decide) rfl rfl (fun k => hz 56 k (by omega)) (fun k _ => rfl) (by decide) (by decide) (fun F1 => ?_)
  show gj_G E _ mc_2 p e s m args below meth c _ 8 [some (.ref 55)] [(.ref 56), (.ref 55)] SI SJ
  refine cs_ord F1 (gj_ckc_o ck_2 rfl (j := 4) (q := (8, .dup, 1, 0)) rfl rfl) ?_
  show gj_G E _ mc_2 p e s m args below meth c _ 9 [some (.ref 55)] [(.ref 56), (.ref 56), (.ref 55)] SI SJ
  refine cs_init (M2 := mc_1) (idx := 11) (pc := 9) (o := 56) F1 (gj_ckc_d ck_2 (j := 5) (q := (9, .invokespecial 11, 3, 1)) rfl) mok_2_11 rfl wim_1 rfl (mk_1_56 (E := E) (hz.le (by omega))) rfl (by decide) (by decide) (by decide) (fun A2 B2 h2 F2 => ?_)
  obtain ⟨z2, f2, g2, k2⟩ := h2
  show gj_G E _ mc_2 p e s m args below meth c _ 12 [some (.ref 55)] [(.ref 56), (.ref 55)] A2 B2
  refine cs_ref (ci := 2) (q := (RX2, TX2, 12)) (o := 55) (k := 0) (v := 56) (idx := 12) (pc := 12) (r2 := gj_Rq 55) F2 hin (gj_ckc_d ck_2 (j := 6) (q := (12, .putfield 12, 3, 200)) rfl) rfl (gj_wF_in 200120200 (gj_ct rfl)) rfl (by decide) rfl (by decide) rfl rfl rfl (fun _ => rfl) (fun _ => rfl) (gj_Rq_1 (t := 54) rfl) (gj_Rq_2 (t := 54) rfl) (fun F3 => ?_)
  show gj_G E _ mc_2 p e s m args below meth c _ 15 [some (.ref 55)] [] A2 B2
  refine cs_ord F3 (gj_ckc_o ck_2 rfl (j := 7) (q := (15, .aload_n 0, 1, 0)) rfl rfl) ?_
  show gj_G E _ mc_2 p e s m args below meth c _ 16 [some (.ref 55)] [(.ref 55)] A2 B2
  refine cs_new (ci := 1) (q := (RX1, TX1, 2)) (n := 57) (idx := 9) (pc := 16) F3 (gj_ckc_d ck_2 (j := 8) (q := (16, .new 9, 3, 1)) rfl) rfl wcl_X2_9 win_1 wii_1 (by decide) rfl rfl (fun k => z2 57 k (by omega)) (fun k _ => rfl) (by decide) (by decide) (fun F4 => ?_)
  show gj_G E _ mc_2 p e s m args below meth c _ 19 [some (.ref 55)] [(.ref 57), (.ref 55)] A2 B2
  refine cs_ord F4 (gj_ckc_o ck_2 rfl (j := 9) (q := (19, .dup, 1, 0)) rfl rfl) ?_
  show gj_G E _ mc_2 p e s m args below meth c _ 20 [some (.ref 55)] [(.ref 57), (.ref 57), (.ref 55)] A2 B2
  refine cs_init (M2 := mc_1) (idx := 11) (pc := 20) (o := 57) F4 (gj_ckc_d ck_2 (j := 10) (q := (20, .invokespecial 11, 3, 1)) rfl) mok_2_11 rfl wim_1 rfl (mk_1_57 (E := E) (z2.le (by omega))) rfl (by decide) (by decide) (by decide) (fun A5 B5 h5 F5 => ?_)
  obtain ⟨z5, f5, g5, k5⟩ := h5
  show gj_G E _ mc_2 p e s m args below meth c _ 23 [some (.ref 55)] [(.ref 57), (.ref 55)] A5 B5
  refine cs_ref (ci := 2) (q := (RX2, TX2, 12)) (o := 55) (k := 1) (v := 57) (idx := 18) (pc := 23) (r2 := gj_Rq 56) F5 hin (gj_ckc_d ck_2 (j := 11) (q := (23, .putfield 18, 3, 201)) rfl) rfl wfl_share rfl (by decide) rfl (by decide) rfl rfl rfl (fun _ => rfl) (fun _ => rfl) (gj_Rq_1 (t := 55) rfl) (gj_Rq_2 (t := 55) rfl) (fun F6 => ?_)
  show gj_G E _ mc_2 p e s m args below meth c _ 26 [some (.ref 55)] [] A5 B5
  refine cs_ord F6 (gj_ckc_o ck_2 rfl (j := 12) (q := (26, .aload_n 0, 1, 0)) rfl rfl) ?_
  show gj_G E _ mc_2 p e s m args below meth c _ 27 [some (.ref 55)] [(.ref 55)] A5 B5
  refine cs_ord F6 (gj_ckc_o ck_2 rfl (j := 13) (q := (27, .iconst 3, 1, 0)) rfl rfl) ?_
  show gj_G E _ mc_2 p e s m args below meth c _ 28 [some (.ref 55)] [(.int (i3 3)), (.ref 55)] A5 B5
  refine cs_arrI (n := 58) (N := 3) (pc := 28) F6 (gj_ckc_d ck_2 (j := 14) (q := (28, .newarray .int, 2, 0)) rfl) war_int rfl (by decide) (by decide) (by decide) rfl (fun k => z5 58 k (by omega)) (by decide) (by decide) (fun F7 => ?_)
  show gj_G E _ mc_2 p e s m args below meth c _ 30 [some (.ref 55)] [(.ref 58), (.ref 55)] A5 B5
  refine cs_ref (ci := 2) (q := (RX2, TX2, 12)) (o := 55) (k := 2) (v := 58) (idx := 21) (pc := 30) (r2 := gj_Rq 57) F7 hin (gj_ckc_d ck_2 (j := 15) (q := (30, .putfield 21, 3, 202)) rfl) rfl (gj_wF_in 200210202 (gj_ct rfl)) rfl (by decide) rfl (by decide) rfl rfl rfl (fun _ => rfl) (fun _ => rfl) (gj_Rq_1 (t := 56) rfl) (gj_Rq_2 (t := 56) rfl) (fun F8 => ?_)
  show gj_G E _ mc_2 p e s m args below meth c _ 33 [some (.ref 55)] [] A5 B5
  refine cs_ord F8 (gj_ckc_o ck_2 rfl (j := 16) (q := (33, .aload_n 0, 1, 0)) rfl rfl) ?_
  show gj_G E _ mc_2 p e s m args below meth c _ 34 [some (.ref 55)] [(.ref 55)] A5 B5
  refine cs_ord F8 (gj_ckc_o ck_2 rfl (j := 17) (q := (34, .iconst 3, 1, 0)) rfl rfl) ?_
  show gj_G E _ mc_2 p e s m args below meth c _ 35 [some (.ref 55)] [(.int (i3 3)), (.ref 55)] A5 B5
  refine cs_arrJ (n := 59) (N := 3) (pc := 35) F8 (gj_ckc_d ck_2 (j := 18) (q := (35, .newarray .long, 2, 2)) rfl) war_long rfl (by decide) (by decide) (by decide) rfl (fun k => z5 59 k (by omega)) (by decide) (by decide) (fun F9 => ?_)
  show gj_G E _ mc_2 p e s m args below meth c _ 37 [some (.ref 55)] [(.ref 59), (.ref 55)] A5 B5
  refine cs_ref (ci := 2) (q := (RX2, TX2, 12)) (o := 55) (k := 3) (v := 59) (idx := 25) (pc := 37) (r2 := gj_Rq 58) F9 hin (gj_ckc_d ck_2 (j := 19) (q := (37, .putfield 25, 3, 203)) rfl) rfl (gj_wF_in 200250203 (gj_ct rfl)) rfl (by decide) rfl (by decide) rfl rfl rfl (fun _ => rfl) (fun _ => rfl) (gj_Rq_1 (t := 57) rfl) (gj_Rq_2 (t := 57) rfl) (fun F10 => ?_)
  show gj_G E _ mc_2 p e s m args below meth c _ 40 [some (.ref 55)] [] A5 B5
  refine cs_ord F10 (gj_ckc_o ck_2 rfl (j := 20) (q := (40, .aload_n 0, 1, 0)) rfl rfl) ?_
  show gj_G E _ mc_2 p e s m args below meth c _ 41 [some (.ref 55)] [(.ref 55)] A5 B5
  refine cs_ord F10 (gj_ckc_o ck_2 rfl (j := 21) (q := (41, .bipush 91, 2, 0)) rfl rfl) ?_
  show gj_G E _ mc_2 p e s m args below meth c _ 43 [some (.ref 55)] [(.int (i3 91)), (.ref 55)] A5 B5
  refine cs_arrJ (n := 60) (N := 91) (pc := 43) F10 (gj_ckc_d ck_2 (j := 22) (q := (43, .newarray .long, 2, 2)) rfl) war_long rfl (by decide) (by decide) (by decide) rfl (fun k => z5 60 k (by omega)) (by decide) (by decide) (fun F11 => ?_)
  show gj_G E _ mc_2 p e s m args below meth c _ 45 [some (.ref 55)] [(.ref 60), (.ref 55)] A5 B5
  refine cs_ref (ci := 2) (q := (RX2, TX2, 12)) (o := 55) (k := 4) (v := 60) (idx := 29) (pc := 45) (r2 := gj_Rq 59) F11 hin (gj_ckc_d ck_2 (j := 23) (q := (45, .putfield 29, 3, 204)) rfl) rfl (gj_wF_in 200290204 (gj_ct rfl)) rfl (by decide) rfl (by decide) rfl rfl rfl (fun _ => rfl) (fun _ => rfl) (gj_Rq_1 (t := 58) rfl) (gj_Rq_2 (t := 58) rfl) (fun F12 => ?_)
  show gj_G E _ mc_2 p e s m args below meth c _ 48 [some (.ref 55)] [] A5 B5
  refine cs_ord F12 (gj_ckc_o ck_2 rfl (j := 24) (q := (48, .aload_n 0, 1, 0)) rfl rfl) ?_
  show gj_G E _ mc_2 p e s m args below meth c _ 49 [some (.ref 55)] [(.ref 55)] A5 B5
  refine cs_ord F12 (gj_ckc_o ck_2 rfl (j := 25) (q := (49, .iconst 0, 1, 0)) rfl rfl) ?_
  show gj_G E _ mc_2 p e s m args below meth c _ 50 [some (.ref 55)] [(.int (i3 0)), (.ref 55)] A5 B5
  refine cs_ord F12 (gj_ckc_o ck_2 rfl (j := 26) (q := (50, .putfield 32, 3, 205)) rfl rfl) ?_
  show gj_G E _ mc_2 p e s m args below meth c _ 53 [some (.ref 55)] [] (gj_u2 A5 55 5 (i3 0)) B5
  refine cs_ord F12 (gj_ckc_o ck_2 rfl (j := 27) (q := (53, .aload_n 0, 1, 0)) rfl rfl) ?_
  show gj_G E _ mc_2 p e s m args below meth c _ 54 [some (.ref 55)] [(.ref 55)] (gj_u2 A5 55 5 (i3 0)) B5
  refine cs_ord F12 (gj_ckc_o ck_2 rfl (j := 28) (q := (54, .lconst 1, 1, 0)) rfl rfl) ?_
  show gj_G E _ mc_2 p e s m args below meth c _ 55 [some (.ref 55)] [(.long (i6 1)), (.ref 55)] (gj_u2 A5 55 5 (i3 0)) B5
  refine cs_ord F12 (gj_ckc_o ck_2 rfl (j := 29) (q := (55, .putfield 36, 3, 206)) rfl rfl) ?_
  show gj_G E _ mc_2 p e s m args below meth c _ 58 [some (.ref 55)] [] (gj_u2 A5 55 5 (i3 0)) (gj_w2 B5 55 6 (i6 1))
  refine cs_ord F12 (gj_ckc_o ck_2 rfl (j := 30) (q := (58, .aload_n 0, 1, 0)) rfl rfl) ?_
  show gj_G E _ mc_2 p e s m args below meth c _ 59 [some (.ref 55)] [(.ref 55)] (gj_u2 A5 55 5 (i3 0)) (gj_w2 B5 55 6 (i6 1))
  refine cs_ord F12 (gj_ckc_o ck_2 rfl (j := 31) (q := (59, .lconst 0, 1, 0)) rfl rfl) ?_
  show gj_G E _ mc_2 p e s m args below meth c _ 60 [some (.ref 55)] [(.long (i6 0)), (.ref 55)] (gj_u2 A5 55 5 (i3 0)) (gj_w2 B5 55 6 (i6 1))
  refine cs_ord F12 (gj_ckc_o ck_2 rfl (j := 32) (q := (60, .putfield 40, 3, 207)) rfl rfl) ?_
  show gj_G E _ mc_2 p e s m args below meth c _ 63 [some (.ref 55)] [] (gj_u2 A5 55 5 (i3 0)) (gj_w2 (gj_w2 B5 55 6 (i6 1)) 55 7 (i6 0))
  refine cs_ord F12 (gj_ckc_o ck_2 rfl (j := 33) (q := (63, .aload_n 0, 1, 0)) rfl rfl) ?_
  show gj_G E _ mc_2 p e s m args below meth c _ 64 [some (.ref 55)] [(.ref 55)] (gj_u2 A5 55 5 (i3 0)) (gj_w2 (gj_w2 B5 55 6 (i6 1)) 55 7 (i6 0))
  refine cs_ord F12 (gj_ckc_o ck_2 rfl (j := 34) (q := (64, .iconst 0, 1, 0)) rfl rfl) ?_
  show gj_G E _ mc_2 p e s m args below meth c _ 65 [some (.ref 55)] [(.int (i3 0)), (.ref 55)] (gj_u2 A5 55 5 (i3 0)) (gj_w2 (gj_w2 B5 55 6 (i6 1)) 55 7 (i6 0))
  refine cs_ord F12 (gj_ckc_o ck_2 rfl (j := 35) (q := (65, .putfield 43, 3, 208)) rfl rfl) ?_
  refine And.intro (Or.inl rfl) ?_
  show gj_G E _ mc_2 p e s m args below meth c _ 68 [some (.ref 55)] [] (gj_u2 (gj_u2 A5 55 5 (i3 0)) 55 8 (i3 0)) (gj_w2 (gj_w2 B5 55 6 (i6 1)) 55 7 (i6 0))
  refine cs_ord F12 (gj_ckc_o ck_2 rfl (j := 36) (q := (68, .aload_n 0, 1, 0)) rfl rfl) ?_
  show gj_G E _ mc_2 p e s m args below meth c _ 69 [some (.ref 55)] [(.ref 55)] (gj_u2 (gj_u2 A5 55 5 (i3 0)) 55 8 (i3 0)) (gj_w2 (gj_w2 B5 55 6 (i6 1)) 55 7 (i6 0))
  refine cs_ord F12 (gj_ckc_o ck_2 rfl (j := 37) (q := (69, .lconst 0, 1, 0)) rfl rfl) ?_
  show gj_G E _ mc_2 p e s m args below meth c _ 70 [some (.ref 55)] [(.long (i6 0)), (.ref 55)] (gj_u2 (gj_u2 A5 55 5 (i3 0)) 55 8 (i3 0)) (gj_w2 (gj_w2 B5 55 6 (i6 1)) 55 7 (i6 0))
  refine cs_ord F12 (gj_ckc_o ck_2 rfl (j := 38) (q := (70, .putfield 47, 3, 209)) rfl rfl) ?_
  show gj_G E _ mc_2 p e s m args below meth c _ 73 [some (.ref 55)] [] (gj_u2 (gj_u2 A5 55 5 (i3 0)) 55 8 (i3 0)) (gj_w2 (gj_w2 (gj_w2 B5 55 6 (i6 1)) 55 7 (i6 0)) 55 9 (i6 0))
  refine cs_ord F12 (gj_ckc_o ck_2 rfl (j := 39) (q := (73, .aload_n 0, 1, 0)) rfl rfl) ?_
  show gj_G E _ mc_2 p e s m args below meth c _ 74 [some (.ref 55)] [(.ref 55)] (gj_u2 (gj_u2 A5 55 5 (i3 0)) 55 8 (i3 0)) (gj_w2 (gj_w2 (gj_w2 B5 55 6 (i6 1)) 55 7 (i6 0)) 55 9 (i6 0))
  refine cs_ord F12 (gj_ckc_o ck_2 rfl (j := 40) (q := (74, .lconst 0, 1, 0)) rfl rfl) ?_
  show gj_G E _ mc_2 p e s m args below meth c _ 75 [some (.ref 55)] [(.long (i6 0)), (.ref 55)] (gj_u2 (gj_u2 A5 55 5 (i3 0)) 55 8 (i3 0)) (gj_w2 (gj_w2 (gj_w2 B5 55 6 (i6 1)) 55 7 (i6 0)) 55 9 (i6 0))
  refine cs_ord F12 (gj_ckc_o ck_2 rfl (j := 41) (q := (75, .putfield 50, 3, 210)) rfl rfl) ?_
  show gj_G E _ mc_2 p e s m args below meth c _ 78 [some (.ref 55)] [] (gj_u2 (gj_u2 A5 55 5 (i3 0)) 55 8 (i3 0)) (gj_w2 (gj_w2 (gj_w2 (gj_w2 B5 55 6 (i6 1)) 55 7 (i6 0)) 55 9 (i6 0)) 55 10 (i6 0))
  refine cs_ord F12 (gj_ckc_o ck_2 rfl (j := 42) (q := (78, .aload_n 0, 1, 0)) rfl rfl) ?_
  show gj_G E _ mc_2 p e s m args below meth c _ 79 [some (.ref 55)] [(.ref 55)] (gj_u2 (gj_u2 A5 55 5 (i3 0)) 55 8 (i3 0)) (gj_w2 (gj_w2 (gj_w2 (gj_w2 B5 55 6 (i6 1)) 55 7 (i6 0)) 55 9 (i6 0)) 55 10 (i6 0))
  refine cs_ord F12 (gj_ckc_o ck_2 rfl (j := 43) (q := (79, .lconst 0, 1, 0)) rfl rfl) ?_
  show gj_G E _ mc_2 p e s m args below meth c _ 80 [some (.ref 55)] [(.long (i6 0)), (.ref 55)] (gj_u2 (gj_u2 A5 55 5 (i3 0)) 55 8 (i3 0)) (gj_w2 (gj_w2 (gj_w2 (gj_w2 B5 55 6 (i6 1)) 55 7 (i6 0)) 55 9 (i6 0)) 55 10 (i6 0))
  refine cs_ord F12 (gj_ckc_o ck_2 rfl (j := 44) (q := (80, .putfield 53, 3, 211)) rfl rfl) ?_
  show gj_G E _ mc_2 p e s m args below meth c _ 83 [some (.ref 55)] [] (gj_u2 (gj_u2 A5 55 5 (i3 0)) 55 8 (i3 0)) (gj_w2 (gj_w2 (gj_w2 (gj_w2 (gj_w2 B5 55 6 (i6 1)) 55 7 (i6 0)) 55 9 (i6 0)) 55 10 (i6 0)) 55 11 (i6 0))
  refine cs_ret F12 (gj_ckc_d ck_2 (j := 45) (q := (83, .return_, 1, 0)) rfl) rfl ?_
  have fF : FI (Lk 55 56 61) SI (gj_u2 (gj_u2 A5 55 5 (i3 0)) 55 8 (i3 0)) := (((((FI.rf : FI (Lk 55 56 61) SI SI).tr (f2.le (fun o k z => by unfold Lk at z; unfold Lk; omega))).tr (f5.le (fun o k z => by unfold Lk at z; unfold Lk; omega))).u (by unfold Lk; omega)).u (by unfold Lk; omega))
  have gF : FJ (Lk 55 56 61) SJ (gj_w2 (gj_w2 (gj_w2 (gj_w2 (gj_w2 B5 55 6 (i6 1)) 55 7 (i6 0)) 55 9 (i6 0)) 55 10 (i6 0)) 55 11 (i6 0)) := ((((((((FJ.rf : FJ (Lk 55 56 61) SJ SJ).tr (g2.le (fun o k z => by unfold Lk at z; unfold Lk; omega))).tr (g5.le (fun o k z => by unfold Lk at z; unfold Lk; omega))).w (by unfold Lk; omega)).w (by unfold Lk; omega)).w (by unfold Lk; omega)).w (by unfold Lk; omega)).w (by unfold Lk; omega))
  have zF : ZZ 61 (gj_u2 (gj_u2 A5 55 5 (i3 0)) 55 8 (i3 0)) (gj_w2 (gj_w2 (gj_w2 (gj_w2 (gj_w2 B5 55 6 (i6 1)) 55 7 (i6 0)) 55 9 (i6 0)) 55 10 (i6 0)) 55 11 (i6 0)) := ((((((((z5.le (by omega) : ZZ 61 A5 B5).u (by omega)).u (by omega)).w (by omega)).w (by omega)).w (by omega)).w (by omega)).w (by omega))
  exact ⟨zF, fF, gF, trivial⟩
set_option maxHeartbeats 4000000 in
set_option maxRecDepth 20000 in
theorem mk_5_61 {E : gj_E} {SI : gj_I} {SJ : gj_J} (hz : ZZ 62 SI SJ) : gj_Mk E (62, gj_Rq 60) (65, gj_Rq 63) mc_5 3 42 [.ref 61] SI SJ (fun A B => ZZ 65 A B ∧ FI (Lk 61 62 65) SI A ∧ FJ (Lk 61 62 65) SJ B ∧ True) := by
  refine cs_start (M := mc_5) rfl rfl rfl rfl ?_
  intro p e s m args below meth c hin F0
  refine cs_ord F0 (gj_ckc_o ck_5 rfl (j := 0) (q := (0, .aload_n 0, 1, 0)) rfl rfl) ?_
  show gj_G E _ mc_5 p e s m args below meth c _ 1 [some (.ref 61)] [(.ref 61)] SI SJ
  refine cs_obj (idx := 3) (pc := 1) (o := 61) F0 (gj_ckc_d ck_5 (j := 1) (q := (1, .invokespecial 3, 3, 99)) rfl) wob_X5 wobI wobC (by decide) (by decide) ?_
  show gj_G E _ mc_5 p e s m args below meth c _ 4 [some (.ref 61)] [] SI SJ
  refine cs_ord F0 (gj_ckc_o ck_5 rfl (j := 2) (q := (4, .aload_n 0, 1, 0)) rfl rfl) ?_
  show gj_G E _ mc_5 p e s m args below meth c _ 5 [some (.ref 61)] [(.ref 61)] SI SJ
  refine cs_ord F0 (gj_ckc_o ck_5 rfl (j := 3) (q := (5, .bipush 14, 2, 0)) rfl rfl) ?_
  show gj_G E _ mc_5 p e s m args below meth c _ 7 [some (.ref 61)] [(.int (i3 14)), (.ref 61)] SI SJ
  refine cs_arrJ (n := 62) (N := 14) (pc := 7) F0 (gj_ckc_d ck_5 (j := 4) (q := (7, .newarray .long, 2, 2)) rfl) war_long rfl (by decide) (by decide) (by decide) rfl (fun k => hz 62 k (by omega)) (by decide) (by decide) (fun F1 => ?_)
  show gj_G E _ mc_5 p e s m args below meth c _ 9 [some (.ref 61)] [(.ref 62), (.ref 61)] SI SJ
  refine cs_ref (ci := 5) (q := (RX5, TX5, 10)) (o := 61) (k := 0) (v := 62) (idx := 9) (pc := 9) (r2 := gj_Rq 61) F1 hin (gj_ckc_d ck_5 (j := 5) (q := (9, .putfield 9, 3, 500)) rfl) rfl (gj_wF_in 500090500 (gj_ct rfl)) rfl (by decide) rfl (by decide) rfl rfl rfl (fun _ => rfl) (fun _ => rfl) (gj_Rq_1 (t := 60) rfl) (gj_Rq_2 (t := 60) rfl) (fun F2 => ?_)
  show gj_G E _ mc_5 p e s m args below meth c _ 12 [some (.ref 61)] [] SI SJ
  refine cs_ord F2 (gj_ckc_o ck_5 rfl (j := 6) (q := (12, .aload_n 0, 1, 0)) rfl rfl) ?_
  show gj_G E _ mc_5 p e s m args below meth c _ 13 [some (.ref 61)] [(.ref 61)] SI SJ
  refine cs_ord F2 (gj_ckc_o ck_5 rfl (j := 7) (q := (13, .bipush 14, 2, 0)) rfl rfl) ?_
  show gj_G E _ mc_5 p e s m args below meth c _ 15 [some (.ref 61)] [(.int (i3 14)), (.ref 61)] SI SJ
  refine cs_arrJ (n := 63) (N := 14) (pc := 15) F2 (gj_ckc_d ck_5 (j := 8) (q := (15, .newarray .long, 2, 2)) rfl) war_long rfl (by decide) (by decide) (by decide) rfl (fun k => hz 63 k (by omega)) (by decide) (by decide) (fun F3 => ?_)
  show gj_G E _ mc_5 p e s m args below meth c _ 17 [some (.ref 61)] [(.ref 63), (.ref 61)] SI SJ
  refine cs_ref (ci := 5) (q := (RX5, TX5, 10)) (o := 61) (k := 1) (v := 63) (idx := 15) (pc := 17) (r2 := gj_Rq 62) F3 hin (gj_ckc_d ck_5 (j := 9) (q := (17, .putfield 15, 3, 501)) rfl) rfl (gj_wF_in 500150501 (gj_ct rfl)) rfl (by decide) rfl (by decide) rfl rfl rfl (fun _ => rfl) (fun _ => rfl) (gj_Rq_1 (t := 61) rfl) (gj_Rq_2 (t := 61) rfl) (fun F4 => ?_)
  show gj_G E _ mc_5 p e s m args below meth c _ 20 [some (.ref 61)] [] SI SJ
  refine cs_ord F4 (gj_ckc_o ck_5 rfl (j := 10) (q := (20, .aload_n 0, 1, 0)) rfl rfl) ?_
  show gj_G E _ mc_5 p e s m args below meth c _ 21 [some (.ref 61)] [(.ref 61)] SI SJ
  refine cs_ord F4 (gj_ckc_o ck_5 rfl (j := 11) (q := (21, .bipush 14, 2, 0)) rfl rfl) ?_
  show gj_G E _ mc_5 p e s m args below meth c _ 23 [some (.ref 61)] [(.int (i3 14)), (.ref 61)] SI SJ
  refine cs_arrJ (n := 64) (N := 14) (pc := 23) F4 (gj_ckc_d ck_5 (j := 12) (q := (23, .newarray .long, 2, 2)) rfl) war_long rfl (by decide) (by decide) (by decide) rfl (fun k => hz 64 k (by omega)) (by decide) (by decide) (fun F5 => ?_)
  show gj_G E _ mc_5 p e s m args below meth c _ 25 [some (.ref 61)] [(.ref 64), (.ref 61)] SI SJ
  refine cs_ref (ci := 5) (q := (RX5, TX5, 10)) (o := 61) (k := 2) (v := 64) (idx := 18) (pc := 25) (r2 := gj_Rq 63) F5 hin (gj_ckc_d ck_5 (j := 13) (q := (25, .putfield 18, 3, 502)) rfl) rfl (gj_wF_in 500180502 (gj_ct rfl)) rfl (by decide) rfl (by decide) rfl rfl rfl (fun _ => rfl) (fun _ => rfl) (gj_Rq_1 (t := 62) rfl) (gj_Rq_2 (t := 62) rfl) (fun F6 => ?_)
  show gj_G E _ mc_5 p e s m args below meth c _ 28 [some (.ref 61)] [] SI SJ
  refine cs_ord F6 (gj_ckc_o ck_5 rfl (j := 14) (q := (28, .aload_n 0, 1, 0)) rfl rfl) ?_
  show gj_G E _ mc_5 p e s m args below meth c _ 29 [some (.ref 61)] [(.ref 61)] SI SJ
  refine cs_ord F6 (gj_ckc_o ck_5 rfl (j := 15) (q := (29, .iconst 0, 1, 0)) rfl rfl) ?_
  show gj_G E _ mc_5 p e s m args below meth c _ 30 [some (.ref 61)] [(.int (i3 0)), (.ref 61)] SI SJ
  refine cs_ord F6 (gj_ckc_o ck_5 rfl (j := 16) (q := (30, .putfield 21, 3, 503)) rfl rfl) ?_
  show gj_G E _ mc_5 p e s m args below meth c _ 33 [some (.ref 61)] [] (gj_u2 SI 61 3 (i3 0)) SJ
  refine cs_ord F6 (gj_ckc_o ck_5 rfl (j := 17) (q := (33, .aload_n 0, 1, 0)) rfl rfl) ?_
  show gj_G E _ mc_5 p e s m args below meth c _ 34 [some (.ref 61)] [(.ref 61)] (gj_u2 SI 61 3 (i3 0)) SJ
  refine cs_ord F6 (gj_ckc_o ck_5 rfl (j := 18) (q := (34, .lconst 0, 1, 0)) rfl rfl) ?_
  show gj_G E _ mc_5 p e s m args below meth c _ 35 [some (.ref 61)] [(.long (i6 0)), (.ref 61)] (gj_u2 SI 61 3 (i3 0)) SJ
  refine cs_ord F6 (gj_ckc_o ck_5 rfl (j := 19) (q := (35, .putfield 25, 3, 504)) rfl rfl) ?_
  show gj_G E _ mc_5 p e s m args below meth c _ 38 [some (.ref 61)] [] (gj_u2 SI 61 3 (i3 0)) (gj_w2 SJ 61 4 (i6 0))
  refine cs_ord F6 (gj_ckc_o ck_5 rfl (j := 20) (q := (38, .aload_n 0, 1, 0)) rfl rfl) ?_
  show gj_G E _ mc_5 p e s m args below meth c _ 39 [some (.ref 61)] [(.ref 61)] (gj_u2 SI 61 3 (i3 0)) (gj_w2 SJ 61 4 (i6 0))
  refine cs_ord F6 (gj_ckc_o ck_5 rfl (j := 21) (q := (39, .lconst 0, 1, 0)) rfl rfl) ?_
  show gj_G E _ mc_5 p e s m args below meth c _ 40 [some (.ref 61)] [(.long (i6 0)), (.ref 61)] (gj_u2 SI 61 3 (i3 0)) (gj_w2 SJ 61 4 (i6 0))
  refine cs_ord F6 (gj_ckc_o ck_5 rfl (j := 22) (q := (40, .putfield 29, 3, 505)) rfl rfl) ?_
  show gj_G E _ mc_5 p e s m args below meth c _ 43 [some (.ref 61)] [] (gj_u2 SI 61 3 (i3 0)) (gj_w2 (gj_w2 SJ 61 4 (i6 0)) 61 5 (i6 0))
  refine cs_ord F6 (gj_ckc_o ck_5 rfl (j := 23) (q := (43, .aload_n 0, 1, 0)) rfl rfl) ?_
  show gj_G E _ mc_5 p e s m args below meth c _ 44 [some (.ref 61)] [(.ref 61)] (gj_u2 SI 61 3 (i3 0)) (gj_w2 (gj_w2 SJ 61 4 (i6 0)) 61 5 (i6 0))
  refine cs_ord F6 (gj_ckc_o ck_5 rfl (j := 24) (q := (44, .lconst 0, 1, 0)) rfl rfl) ?_
  show gj_G E _ mc_5 p e s m args below meth c _ 45 [some (.ref 61)] [(.long (i6 0)), (.ref 61)] (gj_u2 SI 61 3 (i3 0)) (gj_w2 (gj_w2 SJ 61 4 (i6 0)) 61 5 (i6 0))
  refine cs_ord F6 (gj_ckc_o ck_5 rfl (j := 25) (q := (45, .putfield 32, 3, 506)) rfl rfl) ?_
  show gj_G E _ mc_5 p e s m args below meth c _ 48 [some (.ref 61)] [] (gj_u2 SI 61 3 (i3 0)) (gj_w2 (gj_w2 (gj_w2 SJ 61 4 (i6 0)) 61 5 (i6 0)) 61 6 (i6 0))
  refine cs_ord F6 (gj_ckc_o ck_5 rfl (j := 26) (q := (48, .aload_n 0, 1, 0)) rfl rfl) ?_
  show gj_G E _ mc_5 p e s m args below meth c _ 49 [some (.ref 61)] [(.ref 61)] (gj_u2 SI 61 3 (i3 0)) (gj_w2 (gj_w2 (gj_w2 SJ 61 4 (i6 0)) 61 5 (i6 0)) 61 6 (i6 0))
  refine cs_ord F6 (gj_ckc_o ck_5 rfl (j := 27) (q := (49, .lconst 0, 1, 0)) rfl rfl) ?_
  show gj_G E _ mc_5 p e s m args below meth c _ 50 [some (.ref 61)] [(.long (i6 0)), (.ref 61)] (gj_u2 SI 61 3 (i3 0)) (gj_w2 (gj_w2 (gj_w2 SJ 61 4 (i6 0)) 61 5 (i6 0)) 61 6 (i6 0))
  refine cs_ord F6 (gj_ckc_o ck_5 rfl (j := 28) (q := (50, .putfield 35, 3, 507)) rfl rfl) ?_
  show gj_G E _ mc_5 p e s m args below meth c _ 53 [some (.ref 61)] [] (gj_u2 SI 61 3 (i3 0)) (gj_w2 (gj_w2 (gj_w2 (gj_w2 SJ 61 4 (i6 0)) 61 5 (i6 0)) 61 6 (i6 0)) 61 7 (i6 0))
  refine cs_ord F6 (gj_ckc_o ck_5 rfl (j := 29) (q := (53, .aload_n 0, 1, 0)) rfl rfl) ?_
  show gj_G E _ mc_5 p e s m args below meth c _ 54 [some (.ref 61)] [(.ref 61)] (gj_u2 SI 61 3 (i3 0)) (gj_w2 (gj_w2 (gj_w2 (gj_w2 SJ 61 4 (i6 0)) 61 5 (i6 0)) 61 6 (i6 0)) 61 7 (i6 0))
  refine cs_ord F6 (gj_ckc_o ck_5 rfl (j := 30) (q := (54, .lconst 0, 1, 0)) rfl rfl) ?_
  show gj_G E _ mc_5 p e s m args below meth c _ 55 [some (.ref 61)] [(.long (i6 0)), (.ref 61)] (gj_u2 SI 61 3 (i3 0)) (gj_w2 (gj_w2 (gj_w2 (gj_w2 SJ 61 4 (i6 0)) 61 5 (i6 0)) 61 6 (i6 0)) 61 7 (i6 0))
  refine cs_ord F6 (gj_ckc_o ck_5 rfl (j := 31) (q := (55, .putfield 38, 3, 508)) rfl rfl) ?_
  show gj_G E _ mc_5 p e s m args below meth c _ 58 [some (.ref 61)] [] (gj_u2 SI 61 3 (i3 0)) (gj_w2 (gj_w2 (gj_w2 (gj_w2 (gj_w2 SJ 61 4 (i6 0)) 61 5 (i6 0)) 61 6 (i6 0)) 61 7 (i6 0)) 61 8 (i6 0))
  refine cs_ord F6 (gj_ckc_o ck_5 rfl (j := 32) (q := (58, .aload_n 0, 1, 0)) rfl rfl) ?_
  show gj_G E _ mc_5 p e s m args below meth c _ 59 [some (.ref 61)] [(.ref 61)] (gj_u2 SI 61 3 (i3 0)) (gj_w2 (gj_w2 (gj_w2 (gj_w2 (gj_w2 SJ 61 4 (i6 0)) 61 5 (i6 0)) 61 6 (i6 0)) 61 7 (i6 0)) 61 8 (i6 0))
  refine cs_ord F6 (gj_ckc_o ck_5 rfl (j := 33) (q := (59, .lconst 0, 1, 0)) rfl rfl) ?_
  show gj_G E _ mc_5 p e s m args below meth c _ 60 [some (.ref 61)] [(.long (i6 0)), (.ref 61)] (gj_u2 SI 61 3 (i3 0)) (gj_w2 (gj_w2 (gj_w2 (gj_w2 (gj_w2 SJ 61 4 (i6 0)) 61 5 (i6 0)) 61 6 (i6 0)) 61 7 (i6 0)) 61 8 (i6 0))
  refine cs_ord F6 (gj_ckc_o ck_5 rfl (j := 34) (q := (60, .putfield 41, 3, 509)) rfl rfl) ?_
  show gj_G E _ mc_5 p e s m args below meth c _ 63 [some (.ref 61)] [] (gj_u2 SI 61 3 (i3 0)) (gj_w2 (gj_w2 (gj_w2 (gj_w2 (gj_w2 (gj_w2 SJ 61 4 (i6 0)) 61 5 (i6 0)) 61 6 (i6 0)) 61 7 (i6 0)) 61 8 (i6 0)) 61 9 (i6 0))
  refine cs_ret F6 (gj_ckc_d ck_5 (j := 35) (q := (63, .return_, 1, 0)) rfl) rfl ?_
  have fF : FI (Lk 61 62 65) SI (gj_u2 SI 61 3 (i3 0)) := ((FI.rf : FI (Lk 61 62 65) SI SI).u (by unfold Lk; omega))
  have gF : FJ (Lk 61 62 65) SJ (gj_w2 (gj_w2 (gj_w2 (gj_w2 (gj_w2 (gj_w2 SJ 61 4 (i6 0)) 61 5 (i6 0)) 61 6 (i6 0)) 61 7 (i6 0)) 61 8 (i6 0)) 61 9 (i6 0)) := (((((((FJ.rf : FJ (Lk 61 62 65) SJ SJ).w (by unfold Lk; omega)).w (by unfold Lk; omega)).w (by unfold Lk; omega)).w (by unfold Lk; omega)).w (by unfold Lk; omega)).w (by unfold Lk; omega))
  have zF : ZZ 65 (gj_u2 SI 61 3 (i3 0)) (gj_w2 (gj_w2 (gj_w2 (gj_w2 (gj_w2 (gj_w2 SJ 61 4 (i6 0)) 61 5 (i6 0)) 61 6 (i6 0)) 61 7 (i6 0)) 61 8 (i6 0)) 61 9 (i6 0)) := ((((((((hz.le (by omega) : ZZ 65 SI SJ).u (by omega)).w (by omega)).w (by omega)).w (by omega)).w (by omega)).w (by omega)).w (by omega))
  exact ⟨zF, fF, gF, trivial⟩
set_option maxHeartbeats 4000000 in
set_option maxRecDepth 20000 in
theorem mk_0_66 {E : gj_E} {SI : gj_I} {SJ : gj_J} (hz : ZZ 67 SI SJ) : gj_Mk E (67, gj_Rq 64) (76, gj_Rq 73) mc_0 9 511 [.ref 66] SI SJ (fun A B => ZZ 76 A B ∧ FI (Lk 66 67 76) SI A ∧ FJ (Lk 66 67 76) SJ B ∧ A 66 9 = i3 0) := by
  refine cs_start (M := mc_0) rfl rfl rfl rfl ?_
  intro p e s m args below meth c hin F0
  refine cs_ord F0 (gj_ckc_o ck_0 rfl (j := 0) (q := (0, .aload_n 0, 1, 0)) rfl rfl) ?_
  show gj_G E _ mc_0 p e s m args below meth c _ 1 [some (.ref 66)] [(.ref 66)] SI SJ
  refine cs_obj (idx := 3) (pc := 1) (o := 66) F0 (gj_ckc_d ck_0 (j := 1) (q := (1, .invokespecial 3, 3, 99)) rfl) wob_X0 wobI wobC (by decide) (by decide) ?_
  show gj_G E _ mc_0 p e s m args below meth c _ 4 [some (.ref 66)] [] SI SJ
  refine cs_ord F0 (gj_ckc_o ck_0 rfl (j := 2) (q := (4, .aload_n 0, 1, 0)) rfl rfl) ?_
  show gj_G E _ mc_0 p e s m args below meth c _ 5 [some (.ref 66)] [(.ref 66)] SI SJ
  refine cs_ord F0 (gj_ckc_o ck_0 rfl (j := 3) (q := (5, .bipush 14, 2, 0)) rfl rfl) ?_
  show gj_G E _ mc_0 p e s m args below meth c _ 7 [some (.ref 66)] [(.int (i3 14)), (.ref 66)] SI SJ
  refine cs_arrJ (n := 67) (N := 14) (pc := 7) F0 (gj_ckc_d ck_0 (j := 4) (q := (7, .newarray .long, 2, 2)) rfl) war_long rfl (by decide) (by decide) (by decide) rfl (fun k => hz 67 k (by omega)) (by decide) (by decide) (fun F1 => ?_)
  show gj_G E _ mc_0 p e s m args below meth c _ 9 [some (.ref 66)] [(.ref 67), (.ref 66)] SI SJ
  refine cs_ref (ci := 0) (q := (RX0, TX0, 10)) (o := 66) (k := 0) (v := 67) (idx := 9) (pc := 9) (r2 := gj_Rq 65) F1 hin (gj_ckc_d ck_0 (j := 5) (q := (9, .putfield 9, 3, 0)) rfl) rfl (gj_wF_in 90000 (gj_ct rfl)) rfl (by decide) rfl (by decide) rfl rfl rfl (fun _ => rfl) (fun _ => rfl) (gj_Rq_1 (t := 64) rfl) (gj_Rq_2 (t := 64) rfl) (fun F2 => ?_)
  show gj_G E _ mc_0 p e s m args below meth c _ 12 [some (.ref 66)] [] SI SJ
  refine cs_ord F2 (gj_ckc_o ck_0 rfl (j := 6) (q := (12, .aload_n 0, 1, 0)) rfl rfl) ?_
  show gj_G E _ mc_0 p e s m args below meth c _ 13 [some (.ref 66)] [(.ref 66)] SI SJ
  refine cs_ord F2 (gj_ckc_o ck_0 rfl (j := 7) (q := (13, .bipush 14, 2, 0)) rfl rfl) ?_
  show gj_G E _ mc_0 p e s m args below meth c _ 15 [some (.ref 66)] [(.int (i3 14)), (.ref 66)] SI SJ
  refine cs_arrJ (n := 68) (N := 14) (pc := 15) F2 (gj_ckc_d ck_0 (j := 8) (q := (15, .newarray .long, 2, 2)) rfl) war_long rfl (by decide) (by decide) (by decide) rfl (fun k => hz 68 k (by omega)) (by decide) (by decide) (fun F3 => ?_)
  show gj_G E _ mc_0 p e s m args below meth c _ 17 [some (.ref 66)] [(.ref 68), (.ref 66)] SI SJ
  refine cs_ref (ci := 0) (q := (RX0, TX0, 10)) (o := 66) (k := 1) (v := 68) (idx := 15) (pc := 17) (r2 := gj_Rq 66) F3 hin (gj_ckc_d ck_0 (j := 9) (q := (17, .putfield 15, 3, 1)) rfl) rfl (gj_wF_in 150001 (gj_ct rfl)) rfl (by decide) rfl (by decide) rfl rfl rfl (fun _ => rfl) (fun _ => rfl) (gj_Rq_1 (t := 65) rfl) (gj_Rq_2 (t := 65) rfl) (fun F4 => ?_)
  show gj_G E _ mc_0 p e s m args below meth c _ 20 [some (.ref 66)] [] SI SJ
  refine cs_ord F4 (gj_ckc_o ck_0 rfl (j := 10) (q := (20, .aload_n 0, 1, 0)) rfl rfl) ?_
  show gj_G E _ mc_0 p e s m args below meth c _ 21 [some (.ref 66)] [(.ref 66)] SI SJ
  refine cs_ord F4 (gj_ckc_o ck_0 rfl (j := 11) (q := (21, .bipush 14, 2, 0)) rfl rfl) ?_
  show gj_G E _ mc_0 p e s m args below meth c _ 23 [some (.ref 66)] [(.int (i3 14)), (.ref 66)] SI SJ
  refine cs_arrJ (n := 69) (N := 14) (pc := 23) F4 (gj_ckc_d ck_0 (j := 12) (q := (23, .newarray .long, 2, 2)) rfl) war_long rfl (by decide) (by decide) (by decide) rfl (fun k => hz 69 k (by omega)) (by decide) (by decide) (fun F5 => ?_)
  show gj_G E _ mc_0 p e s m args below meth c _ 25 [some (.ref 66)] [(.ref 69), (.ref 66)] SI SJ
  refine cs_ref (ci := 0) (q := (RX0, TX0, 10)) (o := 66) (k := 2) (v := 69) (idx := 18) (pc := 25) (r2 := gj_Rq 67) F5 hin (gj_ckc_d ck_0 (j := 13) (q := (25, .putfield 18, 3, 2)) rfl) rfl (gj_wF_in 180002 (gj_ct rfl)) rfl (by decide) rfl (by decide) rfl rfl rfl (fun _ => rfl) (fun _ => rfl) (gj_Rq_1 (t := 66) rfl) (gj_Rq_2 (t := 66) rfl) (fun F6 => ?_)
  show gj_G E _ mc_0 p e s m args below meth c _ 28 [some (.ref 66)] [] SI SJ
  refine cs_ord F6 (gj_ckc_o ck_0 rfl (j := 14) (q := (28, .aload_n 0, 1, 0)) rfl rfl) ?_
  show gj_G E _ mc_0 p e s m args below meth c _ 29 [some (.ref 66)] [(.ref 66)] SI SJ
  refine cs_ord F6 (gj_ckc_o ck_0 rfl (j := 15) (q := (29, .bipush 14, 2, 0)) rfl rfl) ?_
  show gj_G E _ mc_0 p e s m args below meth c _ 31 [some (.ref 66)] [(.int (i3 14)), (.ref 66)] SI SJ
  refine cs_arrI (n := 70) (N := 14) (pc := 31) F6 (gj_ckc_d ck_0 (j := 16) (q := (31, .newarray .int, 2, 0)) rfl) war_int rfl (by decide) (by decide) (by decide) rfl (fun k => hz 70 k (by omega)) (by decide) (by decide) (fun F7 => ?_)
  show gj_G E _ mc_0 p e s m args below meth c _ 33 [some (.ref 66)] [(.ref 70), (.ref 66)] SI SJ
  refine cs_ref (ci := 0) (q := (RX0, TX0, 10)) (o := 66) (k := 3) (v := 70) (idx := 21) (pc := 33) (r2 := gj_Rq 68) F7 hin (gj_ckc_d ck_0 (j := 17) (q := (33, .putfield 21, 3, 3)) rfl) rfl (gj_wF_in 210003 (gj_ct rfl)) rfl (by decide) rfl (by decide) rfl rfl rfl (fun _ => rfl) (fun _ => rfl) (gj_Rq_1 (t := 67) rfl) (gj_Rq_2 (t := 67) rfl) (fun F8 => ?_)
  show gj_G E _ mc_0 p e s m args below meth c _ 36 [some (.ref 66)] [] SI SJ
  refine cs_ord F8 (gj_ckc_o ck_0 rfl (j := 18) (q := (36, .aload_n 0, 1, 0)) rfl rfl) ?_
  show gj_G E _ mc_0 p e s m args below meth c _ 37 [some (.ref 66)] [(.ref 66)] SI SJ
  refine cs_ord F8 (gj_ckc_o ck_0 rfl (j := 19) (q := (37, .bipush 91, 2, 0)) rfl rfl) ?_
  show gj_G E _ mc_0 p e s m args below meth c _ 39 [some (.ref 66)] [(.int (i3 91)), (.ref 66)] SI SJ
  refine cs_arrJ (n := 71) (N := 91) (pc := 39) F8 (gj_ckc_d ck_0 (j := 20) (q := (39, .newarray .long, 2, 2)) rfl) war_long rfl (by decide) (by decide) (by decide) rfl (fun k => hz 71 k (by omega)) (by decide) (by decide) (fun F9 => ?_)
  show gj_G E _ mc_0 p e s m args below meth c _ 41 [some (.ref 66)] [(.ref 71), (.ref 66)] SI SJ
  refine cs_ref (ci := 0) (q := (RX0, TX0, 10)) (o := 66) (k := 4) (v := 71) (idx := 25) (pc := 41) (r2 := gj_Rq 69) F9 hin (gj_ckc_d ck_0 (j := 21) (q := (41, .putfield 25, 3, 4)) rfl) rfl (gj_wF_in 250004 (gj_ct rfl)) rfl (by decide) rfl (by decide) rfl rfl rfl (fun _ => rfl) (fun _ => rfl) (gj_Rq_1 (t := 68) rfl) (gj_Rq_2 (t := 68) rfl) (fun F10 => ?_)
  show gj_G E _ mc_0 p e s m args below meth c _ 44 [some (.ref 66)] [] SI SJ
  refine cs_ord F10 (gj_ckc_o ck_0 rfl (j := 22) (q := (44, .aload_n 0, 1, 0)) rfl rfl) ?_
  show gj_G E _ mc_0 p e s m args below meth c _ 45 [some (.ref 66)] [(.ref 66)] SI SJ
  refine cs_ord F10 (gj_ckc_o ck_0 rfl (j := 23) (q := (45, .bipush 91, 2, 0)) rfl rfl) ?_
  show gj_G E _ mc_0 p e s m args below meth c _ 47 [some (.ref 66)] [(.int (i3 91)), (.ref 66)] SI SJ
  refine cs_arrJ (n := 72) (N := 91) (pc := 47) F10 (gj_ckc_d ck_0 (j := 24) (q := (47, .newarray .long, 2, 2)) rfl) war_long rfl (by decide) (by decide) (by decide) rfl (fun k => hz 72 k (by omega)) (by decide) (by decide) (fun F11 => ?_)
  show gj_G E _ mc_0 p e s m args below meth c _ 49 [some (.ref 66)] [(.ref 72), (.ref 66)] SI SJ
  refine cs_ref (ci := 0) (q := (RX0, TX0, 10)) (o := 66) (k := 5) (v := 72) (idx := 28) (pc := 49) (r2 := gj_Rq 70) F11 hin (gj_ckc_d ck_0 (j := 25) (q := (49, .putfield 28, 3, 5)) rfl) rfl (gj_wF_in 280005 (gj_ct rfl)) rfl (by decide) rfl (by decide) rfl rfl rfl (fun _ => rfl) (fun _ => rfl) (gj_Rq_1 (t := 69) rfl) (gj_Rq_2 (t := 69) rfl) (fun F12 => ?_)
  show gj_G E _ mc_0 p e s m args below meth c _ 52 [some (.ref 66)] [] SI SJ
  refine cs_ord F12 (gj_ckc_o ck_0 rfl (j := 26) (q := (52, .aload_n 0, 1, 0)) rfl rfl) ?_
  show gj_G E _ mc_0 p e s m args below meth c _ 53 [some (.ref 66)] [(.ref 66)] SI SJ
  refine cs_ord F12 (gj_ckc_o ck_0 rfl (j := 27) (q := (53, .bipush 91, 2, 0)) rfl rfl) ?_
  show gj_G E _ mc_0 p e s m args below meth c _ 55 [some (.ref 66)] [(.int (i3 91)), (.ref 66)] SI SJ
  refine cs_arrJ (n := 73) (N := 91) (pc := 55) F12 (gj_ckc_d ck_0 (j := 28) (q := (55, .newarray .long, 2, 2)) rfl) war_long rfl (by decide) (by decide) (by decide) rfl (fun k => hz 73 k (by omega)) (by decide) (by decide) (fun F13 => ?_)
  show gj_G E _ mc_0 p e s m args below meth c _ 57 [some (.ref 66)] [(.ref 73), (.ref 66)] SI SJ
  refine cs_ref (ci := 0) (q := (RX0, TX0, 10)) (o := 66) (k := 6) (v := 73) (idx := 31) (pc := 57) (r2 := gj_Rq 71) F13 hin (gj_ckc_d ck_0 (j := 29) (q := (57, .putfield 31, 3, 6)) rfl) rfl (gj_wF_in 310006 (gj_ct rfl)) rfl (by decide) rfl (by decide) rfl rfl rfl (fun _ => rfl) (fun _ => rfl) (gj_Rq_1 (t := 70) rfl) (gj_Rq_2 (t := 70) rfl) (fun F14 => ?_)
  show gj_G E _ mc_0 p e s m args below meth c _ 60 [some (.ref 66)] [] SI SJ
  refine cs_ord F14 (gj_ckc_o ck_0 rfl (j := 30) (q := (60, .aload_n 0, 1, 0)) rfl rfl) ?_
  show gj_G E _ mc_0 p e s m args below meth c _ 61 [some (.ref 66)] [(.ref 66)] SI SJ
  refine cs_ord F14 (gj_ckc_o ck_0 rfl (j := 31) (q := (61, .bipush 91, 2, 0)) rfl rfl) ?_
  show gj_G E _ mc_0 p e s m args below meth c _ 63 [some (.ref 66)] [(.int (i3 91)), (.ref 66)] SI SJ
  refine cs_arrI (n := 74) (N := 91) (pc := 63) F14 (gj_ckc_d ck_0 (j := 32) (q := (63, .newarray .int, 2, 0)) rfl) war_int rfl (by decide) (by decide) (by decide) rfl (fun k => hz 74 k (by omega)) (by decide) (by decide) (fun F15 => ?_)
  show gj_G E _ mc_0 p e s m args below meth c _ 65 [some (.ref 66)] [(.ref 74), (.ref 66)] SI SJ
  refine cs_ref (ci := 0) (q := (RX0, TX0, 10)) (o := 66) (k := 7) (v := 74) (idx := 34) (pc := 65) (r2 := gj_Rq 72) F15 hin (gj_ckc_d ck_0 (j := 33) (q := (65, .putfield 34, 3, 7)) rfl) rfl (gj_wF_in 340007 (gj_ct rfl)) rfl (by decide) rfl (by decide) rfl rfl rfl (fun _ => rfl) (fun _ => rfl) (gj_Rq_1 (t := 71) rfl) (gj_Rq_2 (t := 71) rfl) (fun F16 => ?_)
  show gj_G E _ mc_0 p e s m args below meth c _ 68 [some (.ref 66)] [] SI SJ
  refine cs_ord F16 (gj_ckc_o ck_0 rfl (j := 34) (q := (68, .aload_n 0, 1, 0)) rfl rfl) ?_
  show gj_G E _ mc_0 p e s m args below meth c _ 69 [some (.ref 66)] [(.ref 66)] SI SJ
  refine cs_ord F16 (gj_ckc_o ck_0 rfl (j := 35) (q := (69, .bipush 91, 2, 0)) rfl rfl) ?_
  show gj_G E _ mc_0 p e s m args below meth c _ 71 [some (.ref 66)] [(.int (i3 91)), (.ref 66)] SI SJ
  refine cs_arrI (n := 75) (N := 91) (pc := 71) F16 (gj_ckc_d ck_0 (j := 36) (q := (71, .newarray .int, 2, 0)) rfl) war_int rfl (by decide) (by decide) (by decide) rfl (fun k => hz 75 k (by omega)) (by decide) (by decide) (fun F17 => ?_)
  show gj_G E _ mc_0 p e s m args below meth c _ 73 [some (.ref 66)] [(.ref 75), (.ref 66)] SI SJ
  refine cs_ref (ci := 0) (q := (RX0, TX0, 10)) (o := 66) (k := 8) (v := 75) (idx := 37) (pc := 73) (r2 := gj_Rq 73) F17 hin (gj_ckc_d ck_0 (j := 37) (q := (73, .putfield 37, 3, 8)) rfl) rfl (gj_wF_in 370008 (gj_ct rfl)) rfl (by decide) rfl (by decide) rfl rfl rfl (fun _ => rfl) (fun _ => rfl) (gj_Rq_1 (t := 72) rfl) (gj_Rq_2 (t := 72) rfl) (fun F18 => ?_)
  show gj_G E _ mc_0 p e s m args below meth c _ 76 [some (.ref 66)] [] SI SJ
  refine cs_ord F18 (gj_ckc_o ck_0 rfl (j := 38) (q := (76, .aload_n 0, 1, 0)) rfl rfl) ?_
  show gj_G E _ mc_0 p e s m args below meth c _ 77 [some (.ref 66)] [(.ref 66)] SI SJ
  refine cs_ord F18 (gj_ckc_o ck_0 rfl (j := 39) (q := (77, .iconst 0, 1, 0)) rfl rfl) ?_
  show gj_G E _ mc_0 p e s m args below meth c _ 78 [some (.ref 66)] [(.int (i3 0)), (.ref 66)] SI SJ
  refine cs_ord F18 (gj_ckc_o ck_0 rfl (j := 40) (q := (78, .putfield 40, 3, 9)) rfl rfl) ?_
  show gj_G E _ mc_0 p e s m args below meth c _ 81 [some (.ref 66)] [] (gj_u2 SI 66 9 (i3 0)) SJ
  refine cs_ret F18 (gj_ckc_d ck_0 (j := 41) (q := (81, .return_, 1, 0)) rfl) rfl ?_
  have fF : FI (Lk 66 67 76) SI (gj_u2 SI 66 9 (i3 0)) := ((FI.rf : FI (Lk 66 67 76) SI SI).u (by unfold Lk; omega))
  have gF : FJ (Lk 66 67 76) SJ SJ := (FJ.rf : FJ (Lk 66 67 76) SJ SJ)
  have zF : ZZ 76 (gj_u2 SI 66 9 (i3 0)) SJ := ((hz.le (by omega) : ZZ 76 SI SJ).u (by omega))
  exact ⟨zF, fF, gF, rfl⟩
set_option maxHeartbeats 4000000 in
set_option maxRecDepth 20000 in
theorem mk_1_77 {E : gj_E} {SI : gj_I} {SJ : gj_J} (hz : ZZ 78 SI SJ) : gj_Mk E (78, gj_Rq 74) (78, gj_Rq 74) mc_1 0 0 [.ref 77] SI SJ (fun A B => ZZ 78 A B ∧ FI (Lk 77 78 78) SI A ∧ FJ (Lk 77 78 78) SJ B ∧ True) := by
  refine cs_start (M := mc_1) rfl rfl rfl rfl ?_
  intro p e s m args below meth c hin F0
  refine cs_ord F0 (gj_ckc_o ck_1 rfl (j := 0) (q := (0, .aload_n 0, 1, 0)) rfl rfl) ?_
  show gj_G E _ mc_1 p e s m args below meth c _ 1 [some (.ref 77)] [(.ref 77)] SI SJ
  refine cs_obj (idx := 1) (pc := 1) (o := 77) F0 (gj_ckc_d ck_1 (j := 1) (q := (1, .invokespecial 1, 3, 99)) rfl) wob_X1 wobI wobC (by decide) (by decide) ?_
  show gj_G E _ mc_1 p e s m args below meth c _ 4 [some (.ref 77)] [] SI SJ
  refine cs_ord F0 (gj_ckc_o ck_1 rfl (j := 2) (q := (4, .aload_n 0, 1, 0)) rfl rfl) ?_
  show gj_G E _ mc_1 p e s m args below meth c _ 5 [some (.ref 77)] [(.ref 77)] SI SJ
  refine cs_ord F0 (gj_ckc_o ck_1 rfl (j := 3) (q := (5, .lconst 0, 1, 0)) rfl rfl) ?_
  show gj_G E _ mc_1 p e s m args below meth c _ 6 [some (.ref 77)] [(.long (i6 0)), (.ref 77)] SI SJ
  refine cs_ord F0 (gj_ckc_o ck_1 rfl (j := 4) (q := (6, .putfield 7, 3, 100)) rfl rfl) ?_
  show gj_G E _ mc_1 p e s m args below meth c _ 9 [some (.ref 77)] [] SI (gj_w2 SJ 77 0 (i6 0))
  refine cs_ord F0 (gj_ckc_o ck_1 rfl (j := 5) (q := (9, .aload_n 0, 1, 0)) rfl rfl) ?_
  show gj_G E _ mc_1 p e s m args below meth c _ 10 [some (.ref 77)] [(.ref 77)] SI (gj_w2 SJ 77 0 (i6 0))
  refine cs_ord F0 (gj_ckc_o ck_1 rfl (j := 6) (q := (10, .lconst 1, 1, 0)) rfl rfl) ?_
  show gj_G E _ mc_1 p e s m args below meth c _ 11 [some (.ref 77)] [(.long (i6 1)), (.ref 77)] SI (gj_w2 SJ 77 0 (i6 0))
  refine cs_ord F0 (gj_ckc_o ck_1 rfl (j := 7) (q := (11, .putfield 13, 3, 101)) rfl rfl) ?_
  show gj_G E _ mc_1 p e s m args below meth c _ 14 [some (.ref 77)] [] SI (gj_w2 (gj_w2 SJ 77 0 (i6 0)) 77 1 (i6 1))
  refine cs_ret F0 (gj_ckc_d ck_1 (j := 8) (q := (14, .return_, 1, 0)) rfl) rfl ?_
  have fF : FI (Lk 77 78 78) SI SI := (FI.rf : FI (Lk 77 78 78) SI SI)
  have gF : FJ (Lk 77 78 78) SJ (gj_w2 (gj_w2 SJ 77 0 (i6 0)) 77 1 (i6 1)) := (((FJ.rf : FJ (Lk 77 78 78) SJ SJ).w (by unfold Lk; omega)).w (by unfold Lk; omega))
  have zF : ZZ 78 SI (gj_w2 (gj_w2 SJ 77 0 (i6 0)) 77 1 (i6 1)) := (((hz.le (by omega) : ZZ 78 SI SJ).w (by omega)).w (by omega))
  exact ⟨zF, fF, gF, trivial⟩
set_option maxHeartbeats 4000000 in
set_option maxRecDepth 20000 in
theorem mk_6_76 {E : gj_E} {SI : gj_I} {SJ : gj_J} (hz : ZZ 77 SI SJ) : gj_Mk E (77, gj_Rq 74) (79, gj_Rq 76) mc_6 2 26 [.ref 76] SI SJ (fun A B => ZZ 79 A B ∧ FI (Lk 76 77 79) SI A ∧ FJ (Lk 76 77 79) SJ B ∧ True) := by
  refine cs_start (M := mc_6) rfl rfl rfl rfl ?_
  intro p e s m args below meth c hin F0
  refine cs_ord F0 (gj_ckc_o ck_6 rfl (j := 0) (q := (0, .aload_n 0, 1, 0)) rfl rfl) ?_
  show gj_G E _ mc_6 p e s m args below meth c _ 1 [some (.ref 76)] [(.ref 76)] SI SJ
  refine cs_obj (idx := 3) (pc := 1) (o := 76) F0 (gj_ckc_d ck_6 (j := 1) (q := (1, .invokespecial 3, 3, 99)) rfl) wob_X6 wobI wobC (by decide) (by decide) ?_
  show gj_G E _ mc_6 p e s m args below meth c _ 4 [some (.ref 76)] [] SI SJ
  refine cs_ord F0 (gj_ckc_o ck_6 rfl (j := 2) (q := (4, .aload_n 0, 1, 0)) rfl rfl) ?_
  show gj_G E _ mc_6 p e s m args below meth c _ 5 [some (.ref 76)] [(.ref 76)] SI SJ
  refine cs_new (ci := 1) (q := (RX1, TX1, 2)) (n := 77) (idx := 9) (pc := 5) F0 (gj_ckc_d ck_6 (j := 3) (q := (5, .new 9, 3, 1)) rfl) rfl wcl_X6_9 win_1 wii_1 (by decide) rfl rfl (fun k => hz 77 k (by omega)) (fun k _ => rfl) (by decide) (by decide) (fun F1 => ?_)
  show gj_G E _ mc_6 p e s m args below meth c _ 8 [some (.ref 76)] [(.ref 77), (.ref 76)] SI SJ
  refine cs_ord F1 (gj_ckc_o ck_6 rfl (j := 4) (q := (8, .dup, 1, 0)) rfl rfl) ?_
  show gj_G E _ mc_6 p e s m args below meth c _ 9 [some (.ref 76)] [(.ref 77), (.ref 77), (.ref 76)] SI SJ
  refine cs_init (M2 := mc_1) (idx := 11) (pc := 9) (o := 77) F1 (gj_ckc_d ck_6 (j := 5) (q := (9, .invokespecial 11, 3, 1)) rfl) mok_6_11 rfl wim_1 rfl (mk_1_77 (E := E) (hz.le (by omega))) rfl (by decide) (by decide) (by decide) (fun A2 B2 h2 F2 => ?_)
  obtain ⟨z2, f2, g2, k2⟩ := h2
  show gj_G E _ mc_6 p e s m args below meth c _ 12 [some (.ref 76)] [(.ref 77), (.ref 76)] A2 B2
  refine cs_ref (ci := 6) (q := (RX6, TX6, 13)) (o := 76) (k := 0) (v := 77) (idx := 12) (pc := 12) (r2 := gj_Rq 75) F2 hin (gj_ckc_d ck_6 (j := 6) (q := (12, .putfield 12, 3, 600)) rfl) rfl (gj_wF_in 600120600 (gj_ct rfl)) rfl (by decide) rfl (by decide) rfl rfl rfl (fun _ => rfl) (fun _ => rfl) (gj_Rq_1 (t := 74) rfl) (gj_Rq_2 (t := 74) rfl) (fun F3 => ?_)
  show gj_G E _ mc_6 p e s m args below meth c _ 15 [some (.ref 76)] [] A2 B2
  refine cs_ord F3 (gj_ckc_o ck_6 rfl (j := 7) (q := (15, .aload_n 0, 1, 0)) rfl rfl) ?_
  show gj_G E _ mc_6 p e s m args below meth c _ 16 [some (.ref 76)] [(.ref 76)] A2 B2
  refine cs_ord F3 (gj_ckc_o ck_6 rfl (j := 8) (q := (16, .bipush 24, 2, 0)) rfl rfl) ?_
  show gj_G E _ mc_6 p e s m args below meth c _ 18 [some (.ref 76)] [(.int (i3 24)), (.ref 76)] A2 B2
  refine cs_arrI (n := 78) (N := 24) (pc := 18) F3 (gj_ckc_d ck_6 (j := 9) (q := (18, .newarray .int, 2, 0)) rfl) war_int rfl (by decide) (by decide) (by decide) rfl (fun k => z2 78 k (by omega)) (by decide) (by decide) (fun F4 => ?_)
  show gj_G E _ mc_6 p e s m args below meth c _ 20 [some (.ref 76)] [(.ref 78), (.ref 76)] A2 B2
  refine cs_ref (ci := 6) (q := (RX6, TX6, 13)) (o := 76) (k := 1) (v := 78) (idx := 18) (pc := 20) (r2 := gj_Rq 76) F4 hin (gj_ckc_d ck_6 (j := 10) (q := (20, .putfield 18, 3, 601)) rfl) rfl (gj_wF_in 600180601 (gj_ct rfl)) rfl (by decide) rfl (by decide) rfl rfl rfl (fun _ => rfl) (fun _ => rfl) (gj_Rq_1 (t := 75) rfl) (gj_Rq_2 (t := 75) rfl) (fun F5 => ?_)
  show gj_G E _ mc_6 p e s m args below meth c _ 23 [some (.ref 76)] [] A2 B2
  refine cs_ord F5 (gj_ckc_o ck_6 rfl (j := 11) (q := (23, .aload_n 0, 1, 0)) rfl rfl) ?_
  show gj_G E _ mc_6 p e s m args below meth c _ 24 [some (.ref 76)] [(.ref 76)] A2 B2
  refine cs_ord F5 (gj_ckc_o ck_6 rfl (j := 12) (q := (24, .iconst 0, 1, 0)) rfl rfl) ?_
  show gj_G E _ mc_6 p e s m args below meth c _ 25 [some (.ref 76)] [(.int (i3 0)), (.ref 76)] A2 B2
  refine cs_ord F5 (gj_ckc_o ck_6 rfl (j := 13) (q := (25, .putfield 22, 3, 602)) rfl rfl) ?_
  show gj_G E _ mc_6 p e s m args below meth c _ 28 [some (.ref 76)] [] (gj_u2 A2 76 2 (i3 0)) B2
  refine cs_ord F5 (gj_ckc_o ck_6 rfl (j := 14) (q := (28, .aload_n 0, 1, 0)) rfl rfl) ?_
  show gj_G E _ mc_6 p e s m args below meth c _ 29 [some (.ref 76)] [(.ref 76)] (gj_u2 A2 76 2 (i3 0)) B2
  refine cs_ord F5 (gj_ckc_o ck_6 rfl (j := 15) (q := (29, .lconst 0, 1, 0)) rfl rfl) ?_
  show gj_G E _ mc_6 p e s m args below meth c _ 30 [some (.ref 76)] [(.long (i6 0)), (.ref 76)] (gj_u2 A2 76 2 (i3 0)) B2
  refine cs_ord F5 (gj_ckc_o ck_6 rfl (j := 16) (q := (30, .putfield 26, 3, 603)) rfl rfl) ?_
  show gj_G E _ mc_6 p e s m args below meth c _ 33 [some (.ref 76)] [] (gj_u2 A2 76 2 (i3 0)) (gj_w2 B2 76 3 (i6 0))
  refine cs_ord F5 (gj_ckc_o ck_6 rfl (j := 17) (q := (33, .aload_n 0, 1, 0)) rfl rfl) ?_
  show gj_G E _ mc_6 p e s m args below meth c _ 34 [some (.ref 76)] [(.ref 76)] (gj_u2 A2 76 2 (i3 0)) (gj_w2 B2 76 3 (i6 0))
  refine cs_ord F5 (gj_ckc_o ck_6 rfl (j := 18) (q := (34, .lconst 0, 1, 0)) rfl rfl) ?_
  show gj_G E _ mc_6 p e s m args below meth c _ 35 [some (.ref 76)] [(.long (i6 0)), (.ref 76)] (gj_u2 A2 76 2 (i3 0)) (gj_w2 B2 76 3 (i6 0))
  refine cs_ord F5 (gj_ckc_o ck_6 rfl (j := 19) (q := (35, .putfield 30, 3, 604)) rfl rfl) ?_
  show gj_G E _ mc_6 p e s m args below meth c _ 38 [some (.ref 76)] [] (gj_u2 A2 76 2 (i3 0)) (gj_w2 (gj_w2 B2 76 3 (i6 0)) 76 4 (i6 0))
  refine cs_ord F5 (gj_ckc_o ck_6 rfl (j := 20) (q := (38, .aload_n 0, 1, 0)) rfl rfl) ?_
  show gj_G E _ mc_6 p e s m args below meth c _ 39 [some (.ref 76)] [(.ref 76)] (gj_u2 A2 76 2 (i3 0)) (gj_w2 (gj_w2 B2 76 3 (i6 0)) 76 4 (i6 0))
  refine cs_ord F5 (gj_ckc_o ck_6 rfl (j := 21) (q := (39, .lconst 0, 1, 0)) rfl rfl) ?_
  show gj_G E _ mc_6 p e s m args below meth c _ 40 [some (.ref 76)] [(.long (i6 0)), (.ref 76)] (gj_u2 A2 76 2 (i3 0)) (gj_w2 (gj_w2 B2 76 3 (i6 0)) 76 4 (i6 0))
  refine cs_ord F5 (gj_ckc_o ck_6 rfl (j := 22) (q := (40, .putfield 33, 3, 605)) rfl rfl) ?_
  show gj_G E _ mc_6 p e s m args below meth c _ 43 [some (.ref 76)] [] (gj_u2 A2 76 2 (i3 0)) (gj_w2 (gj_w2 (gj_w2 B2 76 3 (i6 0)) 76 4 (i6 0)) 76 5 (i6 0))
  refine cs_ord F5 (gj_ckc_o ck_6 rfl (j := 23) (q := (43, .aload_n 0, 1, 0)) rfl rfl) ?_
  show gj_G E _ mc_6 p e s m args below meth c _ 44 [some (.ref 76)] [(.ref 76)] (gj_u2 A2 76 2 (i3 0)) (gj_w2 (gj_w2 (gj_w2 B2 76 3 (i6 0)) 76 4 (i6 0)) 76 5 (i6 0))
  refine cs_ord F5 (gj_ckc_o ck_6 rfl (j := 24) (q := (44, .lconst 0, 1, 0)) rfl rfl) ?_
  show gj_G E _ mc_6 p e s m args below meth c _ 45 [some (.ref 76)] [(.long (i6 0)), (.ref 76)] (gj_u2 A2 76 2 (i3 0)) (gj_w2 (gj_w2 (gj_w2 B2 76 3 (i6 0)) 76 4 (i6 0)) 76 5 (i6 0))
  refine cs_ord F5 (gj_ckc_o ck_6 rfl (j := 25) (q := (45, .putfield 36, 3, 606)) rfl rfl) ?_
  show gj_G E _ mc_6 p e s m args below meth c _ 48 [some (.ref 76)] [] (gj_u2 A2 76 2 (i3 0)) (gj_w2 (gj_w2 (gj_w2 (gj_w2 B2 76 3 (i6 0)) 76 4 (i6 0)) 76 5 (i6 0)) 76 6 (i6 0))
  refine cs_ord F5 (gj_ckc_o ck_6 rfl (j := 26) (q := (48, .aload_n 0, 1, 0)) rfl rfl) ?_
  show gj_G E _ mc_6 p e s m args below meth c _ 49 [some (.ref 76)] [(.ref 76)] (gj_u2 A2 76 2 (i3 0)) (gj_w2 (gj_w2 (gj_w2 (gj_w2 B2 76 3 (i6 0)) 76 4 (i6 0)) 76 5 (i6 0)) 76 6 (i6 0))
  refine cs_ord F5 (gj_ckc_o ck_6 rfl (j := 27) (q := (49, .lconst 0, 1, 0)) rfl rfl) ?_
  show gj_G E _ mc_6 p e s m args below meth c _ 50 [some (.ref 76)] [(.long (i6 0)), (.ref 76)] (gj_u2 A2 76 2 (i3 0)) (gj_w2 (gj_w2 (gj_w2 (gj_w2 B2 76 3 (i6 0)) 76 4 (i6 0)) 76 5 (i6 0)) 76 6 (i6 0))
  refine cs_ord F5 (gj_ckc_o ck_6 rfl (j := 28) (q := (50, .putfield 39, 3, 607)) rfl rfl) ?_
  show gj_G E _ mc_6 p e s m args below meth c _ 53 [some (.ref 76)] [] (gj_u2 A2 76 2 (i3 0)) (gj_w2 (gj_w2 (gj_w2 (gj_w2 (gj_w2 B2 76 3 (i6 0)) 76 4 (i6 0)) 76 5 (i6 0)) 76 6 (i6 0)) 76 7 (i6 0))
  refine cs_ord F5 (gj_ckc_o ck_6 rfl (j := 29) (q := (53, .aload_n 0, 1, 0)) rfl rfl) ?_
  show gj_G E _ mc_6 p e s m args below meth c _ 54 [some (.ref 76)] [(.ref 76)] (gj_u2 A2 76 2 (i3 0)) (gj_w2 (gj_w2 (gj_w2 (gj_w2 (gj_w2 B2 76 3 (i6 0)) 76 4 (i6 0)) 76 5 (i6 0)) 76 6 (i6 0)) 76 7 (i6 0))
  refine cs_ord F5 (gj_ckc_o ck_6 rfl (j := 30) (q := (54, .lconst 0, 1, 0)) rfl rfl) ?_
  show gj_G E _ mc_6 p e s m args below meth c _ 55 [some (.ref 76)] [(.long (i6 0)), (.ref 76)] (gj_u2 A2 76 2 (i3 0)) (gj_w2 (gj_w2 (gj_w2 (gj_w2 (gj_w2 B2 76 3 (i6 0)) 76 4 (i6 0)) 76 5 (i6 0)) 76 6 (i6 0)) 76 7 (i6 0))
  refine cs_ord F5 (gj_ckc_o ck_6 rfl (j := 31) (q := (55, .putfield 42, 3, 608)) rfl rfl) ?_
  show gj_G E _ mc_6 p e s m args below meth c _ 58 [some (.ref 76)] [] (gj_u2 A2 76 2 (i3 0)) (gj_w2 (gj_w2 (gj_w2 (gj_w2 (gj_w2 (gj_w2 B2 76 3 (i6 0)) 76 4 (i6 0)) 76 5 (i6 0)) 76 6 (i6 0)) 76 7 (i6 0)) 76 8 (i6 0))
  refine cs_ord F5 (gj_ckc_o ck_6 rfl (j := 32) (q := (58, .aload_n 0, 1, 0)) rfl rfl) ?_
  show gj_G E _ mc_6 p e s m args below meth c _ 59 [some (.ref 76)] [(.ref 76)] (gj_u2 A2 76 2 (i3 0)) (gj_w2 (gj_w2 (gj_w2 (gj_w2 (gj_w2 (gj_w2 B2 76 3 (i6 0)) 76 4 (i6 0)) 76 5 (i6 0)) 76 6 (i6 0)) 76 7 (i6 0)) 76 8 (i6 0))
  refine cs_ord F5 (gj_ckc_o ck_6 rfl (j := 33) (q := (59, .lconst 0, 1, 0)) rfl rfl) ?_
  show gj_G E _ mc_6 p e s m args below meth c _ 60 [some (.ref 76)] [(.long (i6 0)), (.ref 76)] (gj_u2 A2 76 2 (i3 0)) (gj_w2 (gj_w2 (gj_w2 (gj_w2 (gj_w2 (gj_w2 B2 76 3 (i6 0)) 76 4 (i6 0)) 76 5 (i6 0)) 76 6 (i6 0)) 76 7 (i6 0)) 76 8 (i6 0))
  refine cs_ord F5 (gj_ckc_o ck_6 rfl (j := 34) (q := (60, .putfield 45, 3, 609)) rfl rfl) ?_
  show gj_G E _ mc_6 p e s m args below meth c _ 63 [some (.ref 76)] [] (gj_u2 A2 76 2 (i3 0)) (gj_w2 (gj_w2 (gj_w2 (gj_w2 (gj_w2 (gj_w2 (gj_w2 B2 76 3 (i6 0)) 76 4 (i6 0)) 76 5 (i6 0)) 76 6 (i6 0)) 76 7 (i6 0)) 76 8 (i6 0)) 76 9 (i6 0))
  refine cs_ord F5 (gj_ckc_o ck_6 rfl (j := 35) (q := (63, .aload_n 0, 1, 0)) rfl rfl) ?_
  show gj_G E _ mc_6 p e s m args below meth c _ 64 [some (.ref 76)] [(.ref 76)] (gj_u2 A2 76 2 (i3 0)) (gj_w2 (gj_w2 (gj_w2 (gj_w2 (gj_w2 (gj_w2 (gj_w2 B2 76 3 (i6 0)) 76 4 (i6 0)) 76 5 (i6 0)) 76 6 (i6 0)) 76 7 (i6 0)) 76 8 (i6 0)) 76 9 (i6 0))
  refine cs_ord F5 (gj_ckc_o ck_6 rfl (j := 36) (q := (64, .lconst 0, 1, 0)) rfl rfl) ?_
  show gj_G E _ mc_6 p e s m args below meth c _ 65 [some (.ref 76)] [(.long (i6 0)), (.ref 76)] (gj_u2 A2 76 2 (i3 0)) (gj_w2 (gj_w2 (gj_w2 (gj_w2 (gj_w2 (gj_w2 (gj_w2 B2 76 3 (i6 0)) 76 4 (i6 0)) 76 5 (i6 0)) 76 6 (i6 0)) 76 7 (i6 0)) 76 8 (i6 0)) 76 9 (i6 0))
  refine cs_ord F5 (gj_ckc_o ck_6 rfl (j := 37) (q := (65, .putfield 48, 3, 610)) rfl rfl) ?_
  show gj_G E _ mc_6 p e s m args below meth c _ 68 [some (.ref 76)] [] (gj_u2 A2 76 2 (i3 0)) (gj_w2 (gj_w2 (gj_w2 (gj_w2 (gj_w2 (gj_w2 (gj_w2 (gj_w2 B2 76 3 (i6 0)) 76 4 (i6 0)) 76 5 (i6 0)) 76 6 (i6 0)) 76 7 (i6 0)) 76 8 (i6 0)) 76 9 (i6 0)) 76 10 (i6 0))
  refine cs_ord F5 (gj_ckc_o ck_6 rfl (j := 38) (q := (68, .aload_n 0, 1, 0)) rfl rfl) ?_
  show gj_G E _ mc_6 p e s m args below meth c _ 69 [some (.ref 76)] [(.ref 76)] (gj_u2 A2 76 2 (i3 0)) (gj_w2 (gj_w2 (gj_w2 (gj_w2 (gj_w2 (gj_w2 (gj_w2 (gj_w2 B2 76 3 (i6 0)) 76 4 (i6 0)) 76 5 (i6 0)) 76 6 (i6 0)) 76 7 (i6 0)) 76 8 (i6 0)) 76 9 (i6 0)) 76 10 (i6 0))
  refine cs_ord F5 (gj_ckc_o ck_6 rfl (j := 39) (q := (69, .lconst 0, 1, 0)) rfl rfl) ?_
  show gj_G E _ mc_6 p e s m args below meth c _ 70 [some (.ref 76)] [(.long (i6 0)), (.ref 76)] (gj_u2 A2 76 2 (i3 0)) (gj_w2 (gj_w2 (gj_w2 (gj_w2 (gj_w2 (gj_w2 (gj_w2 (gj_w2 B2 76 3 (i6 0)) 76 4 (i6 0)) 76 5 (i6 0)) 76 6 (i6 0)) 76 7 (i6 0)) 76 8 (i6 0)) 76 9 (i6 0)) 76 10 (i6 0))
  refine cs_ord F5 (gj_ckc_o ck_6 rfl (j := 40) (q := (70, .putfield 51, 3, 611)) rfl rfl) ?_
  show gj_G E _ mc_6 p e s m args below meth c _ 73 [some (.ref 76)] [] (gj_u2 A2 76 2 (i3 0)) (gj_w2 (gj_w2 (gj_w2 (gj_w2 (gj_w2 (gj_w2 (gj_w2 (gj_w2 (gj_w2 B2 76 3 (i6 0)) 76 4 (i6 0)) 76 5 (i6 0)) 76 6 (i6 0)) 76 7 (i6 0)) 76 8 (i6 0)) 76 9 (i6 0)) 76 10 (i6 0)) 76 11 (i6 0))
  refine cs_ord F5 (gj_ckc_o ck_6 rfl (j := 41) (q := (73, .aload_n 0, 1, 0)) rfl rfl) ?_
  show gj_G E _ mc_6 p e s m args below meth c _ 74 [some (.ref 76)] [(.ref 76)] (gj_u2 A2 76 2 (i3 0)) (gj_w2 (gj_w2 (gj_w2 (gj_w2 (gj_w2 (gj_w2 (gj_w2 (gj_w2 (gj_w2 B2 76 3 (i6 0)) 76 4 (i6 0)) 76 5 (i6 0)) 76 6 (i6 0)) 76 7 (i6 0)) 76 8 (i6 0)) 76 9 (i6 0)) 76 10 (i6 0)) 76 11 (i6 0))
  refine cs_ord F5 (gj_ckc_o ck_6 rfl (j := 42) (q := (74, .lconst 0, 1, 0)) rfl rfl) ?_
  show gj_G E _ mc_6 p e s m args below meth c _ 75 [some (.ref 76)] [(.long (i6 0)), (.ref 76)] (gj_u2 A2 76 2 (i3 0)) (gj_w2 (gj_w2 (gj_w2 (gj_w2 (gj_w2 (gj_w2 (gj_w2 (gj_w2 (gj_w2 B2 76 3 (i6 0)) 76 4 (i6 0)) 76 5 (i6 0)) 76 6 (i6 0)) 76 7 (i6 0)) 76 8 (i6 0)) 76 9 (i6 0)) 76 10 (i6 0)) 76 11 (i6 0))
  refine cs_ord F5 (gj_ckc_o ck_6 rfl (j := 43) (q := (75, .putfield 54, 3, 612)) rfl rfl) ?_
  show gj_G E _ mc_6 p e s m args below meth c _ 78 [some (.ref 76)] [] (gj_u2 A2 76 2 (i3 0)) (gj_w2 (gj_w2 (gj_w2 (gj_w2 (gj_w2 (gj_w2 (gj_w2 (gj_w2 (gj_w2 (gj_w2 B2 76 3 (i6 0)) 76 4 (i6 0)) 76 5 (i6 0)) 76 6 (i6 0)) 76 7 (i6 0)) 76 8 (i6 0)) 76 9 (i6 0)) 76 10 (i6 0)) 76 11 (i6 0)) 76 12 (i6 0))
  refine cs_ret F5 (gj_ckc_d ck_6 (j := 44) (q := (78, .return_, 1, 0)) rfl) rfl ?_
  have fF : FI (Lk 76 77 79) SI (gj_u2 A2 76 2 (i3 0)) := (((FI.rf : FI (Lk 76 77 79) SI SI).tr (f2.le (fun o k z => by unfold Lk at z; unfold Lk; omega))).u (by unfold Lk; omega))
  have gF : FJ (Lk 76 77 79) SJ (gj_w2 (gj_w2 (gj_w2 (gj_w2 (gj_w2 (gj_w2 (gj_w2 (gj_w2 (gj_w2 (gj_w2 B2 76 3 (i6 0)) 76 4 (i6 0)) 76 5 (i6 0)) 76 6 (i6 0)) 76 7 (i6 0)) 76 8 (i6 0)) 76 9 (i6 0)) 76 10 (i6 0)) 76 11 (i6 0)) 76 12 (i6 0)) := ((((((((((((FJ.rf : FJ (Lk 76 77 79) SJ SJ).tr (g2.le (fun o k z => by unfold Lk at z; unfold Lk; omega))).w (by unfold Lk; omega)).w (by unfold Lk; omega)).w (by unfold Lk; omega)).w (by unfold Lk; omega)).w (by unfold Lk; omega)).w (by unfold Lk; omega)).w (by unfold Lk; omega)).w (by unfold Lk; omega)).w (by unfold Lk; omega)).w (by unfold Lk; omega))
  have zF : ZZ 79 (gj_u2 A2 76 2 (i3 0)) (gj_w2 (gj_w2 (gj_w2 (gj_w2 (gj_w2 (gj_w2 (gj_w2 (gj_w2 (gj_w2 (gj_w2 B2 76 3 (i6 0)) 76 4 (i6 0)) 76 5 (i6 0)) 76 6 (i6 0)) 76 7 (i6 0)) 76 8 (i6 0)) 76 9 (i6 0)) 76 10 (i6 0)) 76 11 (i6 0)) 76 12 (i6 0)) := ((((((((((((z2.le (by omega) : ZZ 79 A2 B2).u (by omega)).w (by omega)).w (by omega)).w (by omega)).w (by omega)).w (by omega)).w (by omega)).w (by omega)).w (by omega)).w (by omega)).w (by omega))
  exact ⟨zF, fF, gF, trivial⟩
set_option maxHeartbeats 4000000 in
set_option maxRecDepth 20000 in
theorem mk_1_79 {E : gj_E} {SI : gj_I} {SJ : gj_J} (hz : ZZ 80 SI SJ) : gj_Mk E (80, gj_Rq 77) (80, gj_Rq 77) mc_1 0 0 [.ref 79] SI SJ (fun A B => ZZ 80 A B ∧ FI (Lk 79 80 80) SI A ∧ FJ (Lk 79 80 80) SJ B ∧ True) := by
  refine cs_start (M := mc_1) rfl rfl rfl rfl ?_
  intro p e s m args below meth c hin F0
  refine cs_ord F0 (gj_ckc_o ck_1 rfl (j := 0) (q := (0, .aload_n 0, 1, 0)) rfl rfl) ?_
  show gj_G E _ mc_1 p e s m args below meth c _ 1 [some (.ref 79)] [(.ref 79)] SI SJ
  refine cs_obj (idx := 1) (pc := 1) (o := 79) F0 (gj_ckc_d ck_1 (j := 1) (q := (1, .invokespecial 1, 3, 99)) rfl) wob_X1 wobI wobC (by decide) (by decide) ?_
  show gj_G E _ mc_1 p e s m args below meth c _ 4 [some (.ref 79)] [] SI SJ
  refine cs_ord F0 (gj_ckc_o ck_1 rfl (j := 2) (q := (4, .aload_n 0, 1, 0)) rfl rfl) ?_
  show gj_G E _ mc_1 p e s m args below meth c _ 5 [some (.ref 79)] [(.ref 79)] SI SJ
  refine cs_ord F0 (gj_ckc_o ck_1 rfl (j := 3) (q := (5, .lconst 0, 1, 0)) rfl rfl) ?_
  show gj_G E _ mc_1 p e s m args below meth c _ 6 [some (.ref 79)] [(.long (i6 0)), (.ref 79)] SI SJ
  refine cs_ord F0 (gj_ckc_o ck_1 rfl (j := 4) (q := (6, .putfield 7, 3, 100)) rfl rfl) ?_
  show gj_G E _ mc_1 p e s m args below meth c _ 9 [some (.ref 79)] [] SI (gj_w2 SJ 79 0 (i6 0))
  refine cs_ord F0 (gj_ckc_o ck_1 rfl (j := 5) (q := (9, .aload_n 0, 1, 0)) rfl rfl) ?_
  show gj_G E _ mc_1 p e s m args below meth c _ 10 [some (.ref 79)] [(.ref 79)] SI (gj_w2 SJ 79 0 (i6 0))
  refine cs_ord F0 (gj_ckc_o ck_1 rfl (j := 6) (q := (10, .lconst 1, 1, 0)) rfl rfl) ?_
  show gj_G E _ mc_1 p e s m args below meth c _ 11 [some (.ref 79)] [(.long (i6 1)), (.ref 79)] SI (gj_w2 SJ 79 0 (i6 0))
  refine cs_ord F0 (gj_ckc_o ck_1 rfl (j := 7) (q := (11, .putfield 13, 3, 101)) rfl rfl) ?_
  show gj_G E _ mc_1 p e s m args below meth c _ 14 [some (.ref 79)] [] SI (gj_w2 (gj_w2 SJ 79 0 (i6 0)) 79 1 (i6 1))
  refine cs_ret F0 (gj_ckc_d ck_1 (j := 8) (q := (14, .return_, 1, 0)) rfl) rfl ?_
  have fF : FI (Lk 79 80 80) SI SI := (FI.rf : FI (Lk 79 80 80) SI SI)
  have gF : FJ (Lk 79 80 80) SJ (gj_w2 (gj_w2 SJ 79 0 (i6 0)) 79 1 (i6 1)) := (((FJ.rf : FJ (Lk 79 80 80) SJ SJ).w (by unfold Lk; omega)).w (by unfold Lk; omega))
  have zF : ZZ 80 SI (gj_w2 (gj_w2 SJ 79 0 (i6 0)) 79 1 (i6 1)) := (((hz.le (by omega) : ZZ 80 SI SJ).w (by omega)).w (by omega))
  exact ⟨zF, fF, gF, trivial⟩
set_option maxHeartbeats 4000000 in
set_option maxRecDepth 20000 in
theorem mk_1_80 {E : gj_E} {SI : gj_I} {SJ : gj_J} (hz : ZZ 81 SI SJ) : gj_Mk E (81, gj_Rq 78) (81, gj_Rq 78) mc_1 0 0 [.ref 80] SI SJ (fun A B => ZZ 81 A B ∧ FI (Lk 80 81 81) SI A ∧ FJ (Lk 80 81 81) SJ B ∧ True) := by
  refine cs_start (M := mc_1) rfl rfl rfl rfl ?_
  intro p e s m args below meth c hin F0
  refine cs_ord F0 (gj_ckc_o ck_1 rfl (j := 0) (q := (0, .aload_n 0, 1, 0)) rfl rfl) ?_
  show gj_G E _ mc_1 p e s m args below meth c _ 1 [some (.ref 80)] [(.ref 80)] SI SJ
  refine cs_obj (idx := 1) (pc := 1) (o := 80) F0 (gj_ckc_d ck_1 (j := 1) (q := (1, .invokespecial 1, 3, 99)) rfl) wob_X1 wobI wobC (by decide) (by decide) ?_
  show gj_G E _ mc_1 p e s m args below meth c _ 4 [some (.ref 80)] [] SI SJ
  refine cs_ord F0 (gj_ckc_o ck_1 rfl (j := 2) (q := (4, .aload_n 0, 1, 0)) rfl rfl) ?_
  show gj_G E _ mc_1 p e s m args below meth c _ 5 [some (.ref 80)] [(.ref 80)] SI SJ
  refine cs_ord F0 (gj_ckc_o ck_1 rfl (j := 3) (q := (5, .lconst 0, 1, 0)) rfl rfl) ?_
  show gj_G E _ mc_1 p e s m args below meth c _ 6 [some (.ref 80)] [(.long (i6 0)), (.ref 80)] SI SJ
  refine cs_ord F0 (gj_ckc_o ck_1 rfl (j := 4) (q := (6, .putfield 7, 3, 100)) rfl rfl) ?_
  show gj_G E _ mc_1 p e s m args below meth c _ 9 [some (.ref 80)] [] SI (gj_w2 SJ 80 0 (i6 0))
  refine cs_ord F0 (gj_ckc_o ck_1 rfl (j := 5) (q := (9, .aload_n 0, 1, 0)) rfl rfl) ?_
  show gj_G E _ mc_1 p e s m args below meth c _ 10 [some (.ref 80)] [(.ref 80)] SI (gj_w2 SJ 80 0 (i6 0))
  refine cs_ord F0 (gj_ckc_o ck_1 rfl (j := 6) (q := (10, .lconst 1, 1, 0)) rfl rfl) ?_
  show gj_G E _ mc_1 p e s m args below meth c _ 11 [some (.ref 80)] [(.long (i6 1)), (.ref 80)] SI (gj_w2 SJ 80 0 (i6 0))
  refine cs_ord F0 (gj_ckc_o ck_1 rfl (j := 7) (q := (11, .putfield 13, 3, 101)) rfl rfl) ?_
  show gj_G E _ mc_1 p e s m args below meth c _ 14 [some (.ref 80)] [] SI (gj_w2 (gj_w2 SJ 80 0 (i6 0)) 80 1 (i6 1))
  refine cs_ret F0 (gj_ckc_d ck_1 (j := 8) (q := (14, .return_, 1, 0)) rfl) rfl ?_
  have fF : FI (Lk 80 81 81) SI SI := (FI.rf : FI (Lk 80 81 81) SI SI)
  have gF : FJ (Lk 80 81 81) SJ (gj_w2 (gj_w2 SJ 80 0 (i6 0)) 80 1 (i6 1)) := (((FJ.rf : FJ (Lk 80 81 81) SJ SJ).w (by unfold Lk; omega)).w (by unfold Lk; omega))
  have zF : ZZ 81 SI (gj_w2 (gj_w2 SJ 80 0 (i6 0)) 80 1 (i6 1)) := (((hz.le (by omega) : ZZ 81 SI SJ).w (by omega)).w (by omega))
  exact ⟨zF, fF, gF, trivial⟩
set_option maxHeartbeats 4000000 in
set_option maxRecDepth 20000 in
theorem mk_9_65 {E : gj_E} {SI : gj_I} {SJ : gj_J} (hz : ZZ 66 SI SJ) : gj_Mk E (66, gj_Rq 64) (81, gj_Rq 79) mc_9 15 564 [.ref 65] SI SJ (fun A B => ZZ 81 A B ∧ FI (Lk 65 66 81) SI A ∧ FJ (Lk 65 66 81) SJ B ∧ A 65 4 = i3 0 ∧ A 65 5 = i3 0) := by
  refine cs_start (M := mc_9) rfl rfl rfl rfl ?_
  intro p e s m args below meth c hin F0
  refine cs_ord F0 (gj_ckc_o ck_9 rfl (j := 0) (q := (0, .aload_n 0, 1, 0)) rfl rfl) ?_
  show gj_G E _ mc_9 p e s m args below meth c _ 1 [some (.ref 65)] [(.ref 65)] SI SJ
  refine cs_obj (idx := 3) (pc := 1) (o := 65) F0 (gj_ckc_d ck_9 (j := 1) (q := (1, .invokespecial 3, 3, 99)) rfl) wob_X9 wobI wobC (by decide) (by decide) ?_
  show gj_G E _ mc_9 p e s m args below meth c _ 4 [some (.ref 65)] [] SI SJ
  refine cs_ord F0 (gj_ckc_o ck_9 rfl (j := 2) (q := (4, .aload_n 0, 1, 0)) rfl rfl) ?_
  show gj_G E _ mc_9 p e s m args below meth c _ 5 [some (.ref 65)] [(.ref 65)] SI SJ
  refine cs_new (ci := 0) (q := (RX0, TX0, 10)) (n := 66) (idx := 9) (pc := 5) F0 (gj_ckc_d ck_9 (j := 3) (q := (5, .new 9, 3, 0)) rfl) rfl wcl_X9_9 win_0 wii_0 (by decide) rfl rfl (fun k => hz 66 k (by omega)) (fun k _ => rfl) (by decide) (by decide) (fun F1 => ?_)
  show gj_G E _ mc_9 p e s m args below meth c _ 8 [some (.ref 65)] [(.ref 66), (.ref 65)] SI SJ
  refine cs_ord F1 (gj_ckc_o ck_9 rfl (j := 4) (q := (8, .dup, 1, 0)) rfl rfl) ?_
  show gj_G E _ mc_9 p e s m args below meth c _ 9 [some (.ref 65)] [(.ref 66), (.ref 66), (.ref 65)] SI SJ
  refine cs_init (M2 := mc_0) (idx := 11) (pc := 9) (o := 66) F1 (gj_ckc_d ck_9 (j := 5) (q := (9, .invokespecial 11, 3, 0)) rfl) mok_9_11 rfl wim_0 rfl (mk_0_66 (E := E) (hz.le (by omega))) rfl (by decide) (by decide) (by decide) (fun A2 B2 h2 F2 => ?_)
  obtain ⟨z2, f2, g2, k2⟩ := h2
  show gj_G E _ mc_9 p e s m args below meth c _ 12 [some (.ref 65)] [(.ref 66), (.ref 65)] A2 B2
  refine cs_ref (ci := 9) (q := (RX9, TX9, 10)) (o := 65) (k := 0) (v := 66) (idx := 12) (pc := 12) (r2 := gj_Rq 74) F2 hin (gj_ckc_d ck_9 (j := 6) (q := (12, .putfield 12, 3, 900)) rfl) rfl (gj_wF_in 900120900 (gj_ct rfl)) rfl (by decide) rfl (by decide) rfl rfl rfl (fun _ => rfl) (fun _ => rfl) (gj_Rq_1 (t := 73) rfl) (gj_Rq_2 (t := 73) rfl) (fun F3 => ?_)
  show gj_G E _ mc_9 p e s m args below meth c _ 15 [some (.ref 65)] [] A2 B2
  refine cs_ord F3 (gj_ckc_o ck_9 rfl (j := 7) (q := (15, .aload_n 0, 1, 0)) rfl rfl) ?_
  show gj_G E _ mc_9 p e s m args below meth c _ 16 [some (.ref 65)] [(.ref 65)] A2 B2
  refine cs_new (ci := 6) (q := (RX6, TX6, 13)) (n := 76) (idx := 18) (pc := 16) F3 (gj_ckc_d ck_9 (j := 8) (q := (16, .new 18, 3, 6)) rfl) rfl wcl_X9_18 win_6 wii_6 (by decide) rfl rfl (fun k => z2 76 k (by omega)) (fun k _ => rfl) (by decide) (by decide) (fun F4 => ?_)
  show gj_G E _ mc_9 p e s m args below meth c _ 19 [some (.ref 65)] [(.ref 76), (.ref 65)] A2 B2
  refine cs_ord F4 (gj_ckc_o ck_9 rfl (j := 9) (q := (19, .dup, 1, 0)) rfl rfl) ?_
  show gj_G E _ mc_9 p e s m args below meth c _ 20 [some (.ref 65)] [(.ref 76), (.ref 76), (.ref 65)] A2 B2
  refine cs_init (M2 := mc_6) (idx := 20) (pc := 20) (o := 76) F4 (gj_ckc_d ck_9 (j := 10) (q := (20, .invokespecial 20, 3, 6)) rfl) mok_9_20 rfl wim_6 rfl (mk_6_76 (E := E) (z2.le (by omega))) rfl (by decide) (by decide) (by decide) (fun A5 B5 h5 F5 => ?_)
  obtain ⟨z5, f5, g5, k5⟩ := h5
  show gj_G E _ mc_9 p e s m args below meth c _ 23 [some (.ref 65)] [(.ref 76), (.ref 65)] A5 B5
  refine cs_ref (ci := 9) (q := (RX9, TX9, 10)) (o := 65) (k := 1) (v := 76) (idx := 21) (pc := 23) (r2 := gj_Rq 77) F5 hin (gj_ckc_d ck_9 (j := 11) (q := (23, .putfield 21, 3, 901)) rfl) rfl (gj_wF_in 900210901 (gj_ct rfl)) rfl (by decide) rfl (by decide) rfl rfl rfl (fun _ => rfl) (fun _ => rfl) (gj_Rq_1 (t := 76) rfl) (gj_Rq_2 (t := 76) rfl) (fun F6 => ?_)
  show gj_G E _ mc_9 p e s m args below meth c _ 26 [some (.ref 65)] [] A5 B5
  refine cs_ord F6 (gj_ckc_o ck_9 rfl (j := 12) (q := (26, .aload_n 0, 1, 0)) rfl rfl) ?_
  show gj_G E _ mc_9 p e s m args below meth c _ 27 [some (.ref 65)] [(.ref 65)] A5 B5
  refine cs_new (ci := 1) (q := (RX1, TX1, 2)) (n := 79) (idx := 25) (pc := 27) F6 (gj_ckc_d ck_9 (j := 13) (q := (27, .new 25, 3, 1)) rfl) rfl wcl_X9_25 win_1 wii_1 (by decide) rfl rfl (fun k => z5 79 k (by omega)) (fun k _ => rfl) (by decide) (by decide) (fun F7 => ?_)
  show gj_G E _ mc_9 p e s m args below meth c _ 30 [some (.ref 65)] [(.ref 79), (.ref 65)] A5 B5
  refine cs_ord F7 (gj_ckc_o ck_9 rfl (j := 14) (q := (30, .dup, 1, 0)) rfl rfl) ?_
  show gj_G E _ mc_9 p e s m args below meth c _ 31 [some (.ref 65)] [(.ref 79), (.ref 79), (.ref 65)] A5 B5
  refine cs_init (M2 := mc_1) (idx := 27) (pc := 31) (o := 79) F7 (gj_ckc_d ck_9 (j := 15) (q := (31, .invokespecial 27, 3, 1)) rfl) mok_9_27 rfl wim_1 rfl (mk_1_79 (E := E) (z5.le (by omega))) rfl (by decide) (by decide) (by decide) (fun A8 B8 h8 F8 => ?_)
  obtain ⟨z8, f8, g8, k8⟩ := h8
  show gj_G E _ mc_9 p e s m args below meth c _ 34 [some (.ref 65)] [(.ref 79), (.ref 65)] A8 B8
  refine cs_ref (ci := 9) (q := (RX9, TX9, 10)) (o := 65) (k := 2) (v := 79) (idx := 28) (pc := 34) (r2 := gj_Rq 78) F8 hin (gj_ckc_d ck_9 (j := 16) (q := (34, .putfield 28, 3, 902)) rfl) rfl (gj_wF_in 900280902 (gj_ct rfl)) rfl (by decide) rfl (by decide) rfl rfl rfl (fun _ => rfl) (fun _ => rfl) (gj_Rq_1 (t := 77) rfl) (gj_Rq_2 (t := 77) rfl) (fun F9 => ?_)
  show gj_G E _ mc_9 p e s m args below meth c _ 37 [some (.ref 65)] [] A8 B8
  refine cs_ord F9 (gj_ckc_o ck_9 rfl (j := 17) (q := (37, .aload_n 0, 1, 0)) rfl rfl) ?_
  show gj_G E _ mc_9 p e s m args below meth c _ 38 [some (.ref 65)] [(.ref 65)] A8 B8
  refine cs_new (ci := 1) (q := (RX1, TX1, 2)) (n := 80) (idx := 25) (pc := 38) F9 (gj_ckc_d ck_9 (j := 18) (q := (38, .new 25, 3, 1)) rfl) rfl wcl_X9_25 win_1 wii_1 (by decide) rfl rfl (fun k => z8 80 k (by omega)) (fun k _ => rfl) (by decide) (by decide) (fun F10 => ?_)
  show gj_G E _ mc_9 p e s m args below meth c _ 41 [some (.ref 65)] [(.ref 80), (.ref 65)] A8 B8
  refine cs_ord F10 (gj_ckc_o ck_9 rfl (j := 19) (q := (41, .dup, 1, 0)) rfl rfl) ?_
  show gj_G E _ mc_9 p e s m args below meth c _ 42 [some (.ref 65)] [(.ref 80), (.ref 80), (.ref 65)] A8 B8
  refine cs_init (M2 := mc_1) (idx := 27) (pc := 42) (o := 80) F10 (gj_ckc_d ck_9 (j := 20) (q := (42, .invokespecial 27, 3, 1)) rfl) mok_9_27 rfl wim_1 rfl (mk_1_80 (E := E) (z8.le (by omega))) rfl (by decide) (by decide) (by decide) (fun A11 B11 h11 F11 => ?_)
  obtain ⟨z11, f11, g11, k11⟩ := h11
  show gj_G E _ mc_9 p e s m args below meth c _ 45 [some (.ref 65)] [(.ref 80), (.ref 65)] A11 B11
  refine cs_ref (ci := 9) (q := (RX9, TX9, 10)) (o := 65) (k := 3) (v := 80) (idx := 32) (pc := 45) (r2 := gj_Rq 79) F11 hin (gj_ckc_d ck_9 (j := 21) (q := (45, .putfield 32, 3, 903)) rfl) rfl (gj_wF_in 900320903 (gj_ct rfl)) rfl (by decide) rfl (by decide) rfl rfl rfl (fun _ => rfl) (fun _ => rfl) (gj_Rq_1 (t := 78) rfl) (gj_Rq_2 (t := 78) rfl) (fun F12 => ?_)
  show gj_G E _ mc_9 p e s m args below meth c _ 48 [some (.ref 65)] [] A11 B11
  refine cs_ord F12 (gj_ckc_o ck_9 rfl (j := 22) (q := (48, .aload_n 0, 1, 0)) rfl rfl) ?_
  show gj_G E _ mc_9 p e s m args below meth c _ 49 [some (.ref 65)] [(.ref 65)] A11 B11
  refine cs_ord F12 (gj_ckc_o ck_9 rfl (j := 23) (q := (49, .iconst 0, 1, 0)) rfl rfl) ?_
  show gj_G E _ mc_9 p e s m args below meth c _ 50 [some (.ref 65)] [(.int (i3 0)), (.ref 65)] A11 B11
  refine cs_ord F12 (gj_ckc_o ck_9 rfl (j := 24) (q := (50, .putfield 35, 3, 904)) rfl rfl) ?_
  refine And.intro (Or.inl rfl) ?_
  show gj_G E _ mc_9 p e s m args below meth c _ 53 [some (.ref 65)] [] (gj_u2 A11 65 4 (i3 0)) B11
  refine cs_ord F12 (gj_ckc_o ck_9 rfl (j := 25) (q := (53, .aload_n 0, 1, 0)) rfl rfl) ?_
  show gj_G E _ mc_9 p e s m args below meth c _ 54 [some (.ref 65)] [(.ref 65)] (gj_u2 A11 65 4 (i3 0)) B11
  refine cs_ord F12 (gj_ckc_o ck_9 rfl (j := 26) (q := (54, .iconst 0, 1, 0)) rfl rfl) ?_
  show gj_G E _ mc_9 p e s m args below meth c _ 55 [some (.ref 65)] [(.int (i3 0)), (.ref 65)] (gj_u2 A11 65 4 (i3 0)) B11
  refine cs_ord F12 (gj_ckc_o ck_9 rfl (j := 27) (q := (55, .putfield 39, 3, 905)) rfl rfl) ?_
  refine And.intro (Or.inl rfl) ?_
  show gj_G E _ mc_9 p e s m args below meth c _ 58 [some (.ref 65)] [] (gj_u2 (gj_u2 A11 65 4 (i3 0)) 65 5 (i3 0)) B11
  refine cs_ord F12 (gj_ckc_o ck_9 rfl (j := 28) (q := (58, .aload_n 0, 1, 0)) rfl rfl) ?_
  show gj_G E _ mc_9 p e s m args below meth c _ 59 [some (.ref 65)] [(.ref 65)] (gj_u2 (gj_u2 A11 65 4 (i3 0)) 65 5 (i3 0)) B11
  refine cs_ord F12 (gj_ckc_o ck_9 rfl (j := 29) (q := (59, .iconst (-1), 1, 0)) rfl rfl) ?_
  show gj_G E _ mc_9 p e s m args below meth c _ 60 [some (.ref 65)] [(.int (i3 (-1))), (.ref 65)] (gj_u2 (gj_u2 A11 65 4 (i3 0)) 65 5 (i3 0)) B11
  refine cs_ord F12 (gj_ckc_o ck_9 rfl (j := 30) (q := (60, .putfield 42, 3, 906)) rfl rfl) ?_
  show gj_G E _ mc_9 p e s m args below meth c _ 63 [some (.ref 65)] [] (gj_u2 (gj_u2 (gj_u2 A11 65 4 (i3 0)) 65 5 (i3 0)) 65 6 (i3 (-1))) B11
  refine cs_ord F12 (gj_ckc_o ck_9 rfl (j := 31) (q := (63, .aload_n 0, 1, 0)) rfl rfl) ?_
  show gj_G E _ mc_9 p e s m args below meth c _ 64 [some (.ref 65)] [(.ref 65)] (gj_u2 (gj_u2 (gj_u2 A11 65 4 (i3 0)) 65 5 (i3 0)) 65 6 (i3 (-1))) B11
  refine cs_ord F12 (gj_ckc_o ck_9 rfl (j := 32) (q := (64, .iconst 0, 1, 0)) rfl rfl) ?_
  show gj_G E _ mc_9 p e s m args below meth c _ 65 [some (.ref 65)] [(.int (i3 0)), (.ref 65)] (gj_u2 (gj_u2 (gj_u2 A11 65 4 (i3 0)) 65 5 (i3 0)) 65 6 (i3 (-1))) B11
  refine cs_ord F12 (gj_ckc_o ck_9 rfl (j := 33) (q := (65, .putfield 46, 3, 907)) rfl rfl) ?_
  show gj_G E _ mc_9 p e s m args below meth c _ 68 [some (.ref 65)] [] (gj_u2 (gj_u2 (gj_u2 (gj_u2 A11 65 4 (i3 0)) 65 5 (i3 0)) 65 6 (i3 (-1))) 65 7 (i3 0)) B11
  refine cs_ord F12 (gj_ckc_o ck_9 rfl (j := 34) (q := (68, .aload_n 0, 1, 0)) rfl rfl) ?_
  show gj_G E _ mc_9 p e s m args below meth c _ 69 [some (.ref 65)] [(.ref 65)] (gj_u2 (gj_u2 (gj_u2 (gj_u2 A11 65 4 (i3 0)) 65 5 (i3 0)) 65 6 (i3 (-1))) 65 7 (i3 0)) B11
  refine cs_ord F12 (gj_ckc_o ck_9 rfl (j := 35) (q := (69, .iconst (-1), 1, 0)) rfl rfl) ?_
  show gj_G E _ mc_9 p e s m args below meth c _ 70 [some (.ref 65)] [(.int (i3 (-1))), (.ref 65)] (gj_u2 (gj_u2 (gj_u2 (gj_u2 A11 65 4 (i3 0)) 65 5 (i3 0)) 65 6 (i3 (-1))) 65 7 (i3 0)) B11
  refine cs_ord F12 (gj_ckc_o ck_9 rfl (j := 36) (q := (70, .putfield 49, 3, 908)) rfl rfl) ?_
  show gj_G E _ mc_9 p e s m args below meth c _ 73 [some (.ref 65)] [] (gj_u2 (gj_u2 (gj_u2 (gj_u2 (gj_u2 A11 65 4 (i3 0)) 65 5 (i3 0)) 65 6 (i3 (-1))) 65 7 (i3 0)) 65 8 (i3 (-1))) B11
  refine cs_ord F12 (gj_ckc_o ck_9 rfl (j := 37) (q := (73, .aload_n 0, 1, 0)) rfl rfl) ?_
  show gj_G E _ mc_9 p e s m args below meth c _ 74 [some (.ref 65)] [(.ref 65)] (gj_u2 (gj_u2 (gj_u2 (gj_u2 (gj_u2 A11 65 4 (i3 0)) 65 5 (i3 0)) 65 6 (i3 (-1))) 65 7 (i3 0)) 65 8 (i3 (-1))) B11
  refine cs_ord F12 (gj_ckc_o ck_9 rfl (j := 38) (q := (74, .iconst (-1), 1, 0)) rfl rfl) ?_
  show gj_G E _ mc_9 p e s m args below meth c _ 75 [some (.ref 65)] [(.int (i3 (-1))), (.ref 65)] (gj_u2 (gj_u2 (gj_u2 (gj_u2 (gj_u2 A11 65 4 (i3 0)) 65 5 (i3 0)) 65 6 (i3 (-1))) 65 7 (i3 0)) 65 8 (i3 (-1))) B11
  refine cs_ord F12 (gj_ckc_o ck_9 rfl (j := 39) (q := (75, .putfield 52, 3, 909)) rfl rfl) ?_
  show gj_G E _ mc_9 p e s m args below meth c _ 78 [some (.ref 65)] [] (gj_u2 (gj_u2 (gj_u2 (gj_u2 (gj_u2 (gj_u2 A11 65 4 (i3 0)) 65 5 (i3 0)) 65 6 (i3 (-1))) 65 7 (i3 0)) 65 8 (i3 (-1))) 65 9 (i3 (-1))) B11
  refine cs_ret F12 (gj_ckc_d ck_9 (j := 40) (q := (78, .return_, 1, 0)) rfl) rfl ?_
  have fF : FI (Lk 65 66 81) SI (gj_u2 (gj_u2 (gj_u2 (gj_u2 (gj_u2 (gj_u2 A11 65 4 (i3 0)) 65 5 (i3 0)) 65 6 (i3 (-1))) 65 7 (i3 0)) 65 8 (i3 (-1))) 65 9 (i3 (-1))) := (((((((((((FI.rf : FI (Lk 65 66 81) SI SI).tr (f2.le (fun o k z => by unfold Lk at z; unfold Lk; omega))).tr (f5.le (fun o k z => by unfold Lk at z; unfold Lk; omega))).tr (f8.le (fun o k z => by unfold Lk at z; unfold Lk; omega))).tr (f11.le (fun o k z => by unfold Lk at z; unfold Lk; omega))).u (by unfold Lk; omega)).u (by unfold Lk; omega)).u (by unfold Lk; omega)).u (by unfold Lk; omega)).u (by unfold Lk; omega)).u (by unfold Lk; omega))
  have gF : FJ (Lk 65 66 81) SJ B11 := (((((FJ.rf : FJ (Lk 65 66 81) SJ SJ).tr (g2.le (fun o k z => by unfold Lk at z; unfold Lk; omega))).tr (g5.le (fun o k z => by unfold Lk at z; unfold Lk; omega))).tr (g8.le (fun o k z => by unfold Lk at z; unfold Lk; omega))).tr (g11.le (fun o k z => by unfold Lk at z; unfold Lk; omega)))
  have zF : ZZ 81 (gj_u2 (gj_u2 (gj_u2 (gj_u2 (gj_u2 (gj_u2 A11 65 4 (i3 0)) 65 5 (i3 0)) 65 6 (i3 (-1))) 65 7 (i3 0)) 65 8 (i3 (-1))) 65 9 (i3 (-1))) B11 := (((((((z11.le (by omega) : ZZ 81 A11 B11).u (by omega)).u (by omega)).u (by omega)).u (by omega)).u (by omega)).u (by omega))
  exact ⟨zF, fF, gF, rfl, rfl⟩
set_option maxHeartbeats 4000000 in
set_option maxRecDepth 20000 in
theorem mk_10_0 {E : gj_E} {SI : gj_I} {SJ : gj_J} (hz : ZZ 1 SI SJ) : gj_Mk E (1, gj_Rq 0) (81, gj_Rq 80) mc_10 80 2426 [.ref 0] SI SJ (fun A B => ZZ 81 A B ∧ FI (Lk 0 1 81) SI A ∧ FJ (Lk 0 1 81) SJ B ∧ PX4 FZ A ∧ PD4 FZ A ∧ A 3 5 = i3 0 ∧ A 3 6 = i3 1 ∧ A 3 7 = i3 1 ∧ A 3 8 = i3 2 ∧ A 3 9 = i3 2 ∧ A 3 10 = i3 1 ∧ A 3 11 = i3 0 ∧ A 3 12 = i3 0 ∧ A 1 1 = i3 0 ∧ (∀ k, A 2 k = 0) ∧ A 42 9 = i3 0 ∧ A 65 4 = i3 0 ∧ A 65 5 = i3 0 ∧ A 0 11 = i3 0 ∧ A 0 12 = i3 0 ∧ A 0 13 = i3 0) := by
  refine cs_start (M := mc_10) rfl rfl rfl rfl ?_
  intro p e s m args below meth c hin F0
  refine cs_ord F0 (gj_ckc_o ck_10 rfl (j := 0) (q := (0, .aload_n 0, 1, 0)) rfl rfl) ?_
  show gj_G E _ mc_10 p e s m args below meth c _ 1 [some (.ref 0)] [(.ref 0)] SI SJ
  refine cs_obj (idx := 1) (pc := 1) (o := 0) F0 (gj_ckc_d ck_10 (j := 1) (q := (1, .invokespecial 1, 3, 99)) rfl) wob_X10 wobI wobC (by decide) (by decide) ?_
  show gj_G E _ mc_10 p e s m args below meth c _ 4 [some (.ref 0)] [] SI SJ
  refine cs_ord F0 (gj_ckc_o ck_10 rfl (j := 2) (q := (4, .aload_n 0, 1, 0)) rfl rfl) ?_
  show gj_G E _ mc_10 p e s m args below meth c _ 5 [some (.ref 0)] [(.ref 0)] SI SJ
  refine cs_new (ci := 8) (q := (RX8, TX8, 4)) (n := 1) (idx := 7) (pc := 5) F0 (gj_ckc_d ck_10 (j := 3) (q := (5, .new 7, 3, 8)) rfl) rfl wcl_X10_7 win_8 wii_8 (by decide) rfl rfl (fun k => hz 1 k (by omega)) (fun k _ => rfl) (by decide) (by decide) (fun F1 => ?_)
  show gj_G E _ mc_10 p e s m args below meth c _ 8 [some (.ref 0)] [(.ref 1), (.ref 0)] SI SJ
  refine cs_ord F1 (gj_ckc_o ck_10 rfl (j := 4) (q := (8, .dup, 1, 0)) rfl rfl) ?_
  show gj_G E _ mc_10 p e s m args below meth c _ 9 [some (.ref 0)] [(.ref 1), (.ref 1), (.ref 0)] SI SJ
  refine cs_init (M2 := mc_8) (idx := 9) (pc := 9) (o := 1) F1 (gj_ckc_d ck_10 (j := 5) (q := (9, .invokespecial 9, 3, 8)) rfl) mok_10_9 rfl wim_8 rfl (mk_8_1 (E := E) (hz.le (by omega))) rfl (by decide) (by decide) (by decide) (fun A2 B2 h2 F2 => ?_)
  obtain ⟨z2, f2, g2, k2⟩ := h2
  show gj_G E _ mc_10 p e s m args below meth c _ 12 [some (.ref 0)] [(.ref 1), (.ref 0)] A2 B2
  refine cs_ref (ci := 10) (q := (RX10, TX10, 14)) (o := 0) (k := 0) (v := 1) (idx := 10) (pc := 12) (r2 := gj_Rq 2) F2 hin (gj_ckc_d ck_10 (j := 6) (q := (12, .putfield 10, 3, 1000)) rfl) rfl (gj_wF_in 1000101000 (gj_ct rfl)) rfl (by decide) rfl (by decide) rfl rfl rfl (fun _ => rfl) (fun _ => rfl) (gj_Rq_1 (t := 1) rfl) (gj_Rq_2 (t := 1) rfl) (fun F3 => ?_)
  show gj_G E _ mc_10 p e s m args below meth c _ 15 [some (.ref 0)] [] A2 B2
  refine cs_ord F3 (gj_ckc_o ck_10 rfl (j := 7) (q := (15, .aload_n 0, 1, 0)) rfl rfl) ?_
  show gj_G E _ mc_10 p e s m args below meth c _ 16 [some (.ref 0)] [(.ref 0)] A2 B2
  refine cs_new (ci := 7) (q := (RX7, TX7, 13)) (n := 3) (idx := 16) (pc := 16) F3 (gj_ckc_d ck_10 (j := 8) (q := (16, .new 16, 3, 7)) rfl) rfl wcl_X10_16 win_7 wii_7 (by decide) rfl rfl (fun k => z2 3 k (by omega)) (fun k _ => rfl) (by decide) (by decide) (fun F4 => ?_)
  show gj_G E _ mc_10 p e s m args below meth c _ 19 [some (.ref 0)] [(.ref 3), (.ref 0)] A2 B2
  refine cs_ord F4 (gj_ckc_o ck_10 rfl (j := 9) (q := (19, .dup, 1, 0)) rfl rfl) ?_
  show gj_G E _ mc_10 p e s m args below meth c _ 20 [some (.ref 0)] [(.ref 3), (.ref 3), (.ref 0)] A2 B2
  refine cs_init (M2 := mc_7) (idx := 18) (pc := 20) (o := 3) F4 (gj_ckc_d ck_10 (j := 10) (q := (20, .invokespecial 18, 3, 7)) rfl) mok_10_18 rfl wim_7 rfl (mk_7_3 (E := E) (z2.le (by omega))) rfl (by decide) (by decide) (by decide) (fun A5 B5 h5 F5 => ?_)
  obtain ⟨z5, f5, g5, k5⟩ := h5
  show gj_G E _ mc_10 p e s m args below meth c _ 23 [some (.ref 0)] [(.ref 3), (.ref 0)] A5 B5
  refine cs_ref (ci := 10) (q := (RX10, TX10, 14)) (o := 0) (k := 1) (v := 3) (idx := 19) (pc := 23) (r2 := gj_Rq 15) F5 hin (gj_ckc_d ck_10 (j := 11) (q := (23, .putfield 19, 3, 1001)) rfl) rfl (gj_wF_in 1000191001 (gj_ct rfl)) rfl (by decide) rfl (by decide) rfl rfl rfl (fun _ => rfl) (fun _ => rfl) (gj_Rq_1 (t := 14) rfl) (gj_Rq_2 (t := 14) rfl) (fun F6 => ?_)
  show gj_G E _ mc_10 p e s m args below meth c _ 26 [some (.ref 0)] [] A5 B5
  refine cs_ord F6 (gj_ckc_o ck_10 rfl (j := 12) (q := (26, .aload_n 0, 1, 0)) rfl rfl) ?_
  show gj_G E _ mc_10 p e s m args below meth c _ 27 [some (.ref 0)] [(.ref 0)] A5 B5
  refine cs_new (ci := 7) (q := (RX7, TX7, 13)) (n := 16) (idx := 16) (pc := 27) F6 (gj_ckc_d ck_10 (j := 13) (q := (27, .new 16, 3, 7)) rfl) rfl wcl_X10_16 win_7 wii_7 (by decide) rfl rfl (fun k => z5 16 k (by omega)) (fun k _ => rfl) (by decide) (by decide) (fun F7 => ?_)
  show gj_G E _ mc_10 p e s m args below meth c _ 30 [some (.ref 0)] [(.ref 16), (.ref 0)] A5 B5
  refine cs_ord F7 (gj_ckc_o ck_10 rfl (j := 14) (q := (30, .dup, 1, 0)) rfl rfl) ?_
  show gj_G E _ mc_10 p e s m args below meth c _ 31 [some (.ref 0)] [(.ref 16), (.ref 16), (.ref 0)] A5 B5
  refine cs_init (M2 := mc_7) (idx := 18) (pc := 31) (o := 16) F7 (gj_ckc_d ck_10 (j := 15) (q := (31, .invokespecial 18, 3, 7)) rfl) mok_10_18 rfl wim_7 rfl (mk_7_16 (E := E) (z5.le (by omega))) rfl (by decide) (by decide) (by decide) (fun A8 B8 h8 F8 => ?_)
  obtain ⟨z8, f8, g8, k8⟩ := h8
  show gj_G E _ mc_10 p e s m args below meth c _ 34 [some (.ref 0)] [(.ref 16), (.ref 0)] A8 B8
  refine cs_ref (ci := 10) (q := (RX10, TX10, 14)) (o := 0) (k := 2) (v := 16) (idx := 23) (pc := 34) (r2 := gj_Rq 28) F8 hin (gj_ckc_d ck_10 (j := 16) (q := (34, .putfield 23, 3, 1002)) rfl) rfl (gj_wF_in 1000231002 (gj_ct rfl)) rfl (by decide) rfl (by decide) rfl rfl rfl (fun _ => rfl) (fun _ => rfl) (gj_Rq_1 (t := 27) rfl) (gj_Rq_2 (t := 27) rfl) (fun F9 => ?_)
  show gj_G E _ mc_10 p e s m args below meth c _ 37 [some (.ref 0)] [] A8 B8
  refine cs_ord F9 (gj_ckc_o ck_10 rfl (j := 17) (q := (37, .aload_n 0, 1, 0)) rfl rfl) ?_
  show gj_G E _ mc_10 p e s m args below meth c _ 38 [some (.ref 0)] [(.ref 0)] A8 B8
  refine cs_new (ci := 4) (q := (RX4, TX4, 9)) (n := 29) (idx := 26) (pc := 38) F9 (gj_ckc_d ck_10 (j := 18) (q := (38, .new 26, 3, 4)) rfl) rfl wcl_X10_26 win_4 wii_4 (by decide) rfl rfl (fun k => z8 29 k (by omega)) (fun k _ => rfl) (by decide) (by decide) (fun F10 => ?_)
  show gj_G E _ mc_10 p e s m args below meth c _ 41 [some (.ref 0)] [(.ref 29), (.ref 0)] A8 B8
  refine cs_ord F10 (gj_ckc_o ck_10 rfl (j := 19) (q := (41, .dup, 1, 0)) rfl rfl) ?_
  show gj_G E _ mc_10 p e s m args below meth c _ 42 [some (.ref 0)] [(.ref 29), (.ref 29), (.ref 0)] A8 B8
  refine cs_init (M2 := mc_4) (idx := 28) (pc := 42) (o := 29) F10 (gj_ckc_d ck_10 (j := 20) (q := (42, .invokespecial 28, 3, 4)) rfl) mok_10_28 rfl wim_4 rfl (mk_4_29 (E := E) (z8.le (by omega))) rfl (by decide) (by decide) (by decide) (fun A11 B11 h11 F11 => ?_)
  obtain ⟨z11, f11, g11, k11⟩ := h11
  show gj_G E _ mc_10 p e s m args below meth c _ 45 [some (.ref 0)] [(.ref 29), (.ref 0)] A11 B11
  refine cs_ref (ci := 10) (q := (RX10, TX10, 14)) (o := 0) (k := 3) (v := 29) (idx := 29) (pc := 45) (r2 := gj_Rq 36) F11 hin (gj_ckc_d ck_10 (j := 21) (q := (45, .putfield 29, 3, 1003)) rfl) rfl (gj_wF_in 1000291003 (gj_ct rfl)) rfl (by decide) rfl (by decide) rfl rfl rfl (fun _ => rfl) (fun _ => rfl) (gj_Rq_1 (t := 35) rfl) (gj_Rq_2 (t := 35) rfl) (fun F12 => ?_)
  show gj_G E _ mc_10 p e s m args below meth c _ 48 [some (.ref 0)] [] A11 B11
  refine cs_ord F12 (gj_ckc_o ck_10 rfl (j := 22) (q := (48, .aload_n 0, 1, 0)) rfl rfl) ?_
  show gj_G E _ mc_10 p e s m args below meth c _ 49 [some (.ref 0)] [(.ref 0)] A11 B11
  refine cs_new (ci := 3) (q := (RX3, TX3, 4)) (n := 37) (idx := 33) (pc := 49) F12 (gj_ckc_d ck_10 (j := 23) (q := (49, .new 33, 3, 3)) rfl) rfl wcl_X10_33 win_3 wii_3 (by decide) rfl rfl (fun k => z11 37 k (by omega)) (fun k _ => rfl) (by decide) (by decide) (fun F13 => ?_)
  show gj_G E _ mc_10 p e s m args below meth c _ 52 [some (.ref 0)] [(.ref 37), (.ref 0)] A11 B11
  refine cs_ord F13 (gj_ckc_o ck_10 rfl (j := 24) (q := (52, .dup, 1, 0)) rfl rfl) ?_
  show gj_G E _ mc_10 p e s m args below meth c _ 53 [some (.ref 0)] [(.ref 37), (.ref 37), (.ref 0)] A11 B11
  refine cs_init (M2 := mc_3) (idx := 35) (pc := 53) (o := 37) F13 (gj_ckc_d ck_10 (j := 25) (q := (53, .invokespecial 35, 3, 3)) rfl) mok_10_35 rfl wim_3 rfl (mk_3_37 (E := E) (z11.le (by omega))) rfl (by decide) (by decide) (by decide) (fun A14 B14 h14 F14 => ?_)
  obtain ⟨z14, f14, g14, k14⟩ := h14
  show gj_G E _ mc_10 p e s m args below meth c _ 56 [some (.ref 0)] [(.ref 37), (.ref 0)] A14 B14
  refine cs_ref (ci := 10) (q := (RX10, TX10, 14)) (o := 0) (k := 4) (v := 37) (idx := 36) (pc := 56) (r2 := gj_Rq 40) F14 hin (gj_ckc_d ck_10 (j := 26) (q := (56, .putfield 36, 3, 1004)) rfl) rfl (gj_wF_in 1000361004 (gj_ct rfl)) rfl (by decide) rfl (by decide) rfl rfl rfl (fun _ => rfl) (fun _ => rfl) (gj_Rq_1 (t := 39) rfl) (gj_Rq_2 (t := 39) rfl) (fun F15 => ?_)
  show gj_G E _ mc_10 p e s m args below meth c _ 59 [some (.ref 0)] [] A14 B14
  refine cs_ord F15 (gj_ckc_o ck_10 rfl (j := 27) (q := (59, .aload_n 0, 1, 0)) rfl rfl) ?_
  show gj_G E _ mc_10 p e s m args below meth c _ 60 [some (.ref 0)] [(.ref 0)] A14 B14
  refine cs_ord F15 (gj_ckc_o ck_10 rfl (j := 28) (q := (60, .bipush 18, 2, 0)) rfl rfl) ?_
  show gj_G E _ mc_10 p e s m args below meth c _ 62 [some (.ref 0)] [(.int (i3 18)), (.ref 0)] A14 B14
  refine cs_arrI (n := 41) (N := 18) (pc := 62) F15 (gj_ckc_d ck_10 (j := 29) (q := (62, .newarray .int, 2, 0)) rfl) war_int rfl (by decide) (by decide) (by decide) rfl (fun k => z14 41 k (by omega)) (by decide) (by decide) (fun F16 => ?_)
  show gj_G E _ mc_10 p e s m args below meth c _ 64 [some (.ref 0)] [(.ref 41), (.ref 0)] A14 B14
  refine cs_ref (ci := 10) (q := (RX10, TX10, 14)) (o := 0) (k := 5) (v := 41) (idx := 40) (pc := 64) (r2 := gj_Rq 41) F16 hin (gj_ckc_d ck_10 (j := 30) (q := (64, .putfield 40, 3, 1005)) rfl) rfl (gj_wF_in 1000401005 (gj_ct rfl)) rfl (by decide) rfl (by decide) rfl rfl rfl (fun _ => rfl) (fun _ => rfl) (gj_Rq_1 (t := 40) rfl) (gj_Rq_2 (t := 40) rfl) (fun F17 => ?_)
  show gj_G E _ mc_10 p e s m args below meth c _ 67 [some (.ref 0)] [] A14 B14
  refine cs_ord F17 (gj_ckc_o ck_10 rfl (j := 31) (q := (67, .aload_n 0, 1, 0)) rfl rfl) ?_
  show gj_G E _ mc_10 p e s m args below meth c _ 68 [some (.ref 0)] [(.ref 0)] A14 B14
  refine cs_new (ci := 0) (q := (RX0, TX0, 10)) (n := 42) (idx := 44) (pc := 68) F17 (gj_ckc_d ck_10 (j := 32) (q := (68, .new 44, 3, 0)) rfl) rfl wcl_X10_44 win_0 wii_0 (by decide) rfl rfl (fun k => z14 42 k (by omega)) (fun k _ => rfl) (by decide) (by decide) (fun F18 => ?_)
  show gj_G E _ mc_10 p e s m args below meth c _ 71 [some (.ref 0)] [(.ref 42), (.ref 0)] A14 B14
  refine cs_ord F18 (gj_ckc_o ck_10 rfl (j := 33) (q := (71, .dup, 1, 0)) rfl rfl) ?_
  show gj_G E _ mc_10 p e s m args below meth c _ 72 [some (.ref 0)] [(.ref 42), (.ref 42), (.ref 0)] A14 B14
  refine cs_init (M2 := mc_0) (idx := 46) (pc := 72) (o := 42) F18 (gj_ckc_d ck_10 (j := 34) (q := (72, .invokespecial 46, 3, 0)) rfl) mok_10_46 rfl wim_0 rfl (mk_0_42 (E := E) (z14.le (by omega))) rfl (by decide) (by decide) (by decide) (fun A19 B19 h19 F19 => ?_)
  obtain ⟨z19, f19, g19, k19⟩ := h19
  show gj_G E _ mc_10 p e s m args below meth c _ 75 [some (.ref 0)] [(.ref 42), (.ref 0)] A19 B19
  refine cs_ref (ci := 10) (q := (RX10, TX10, 14)) (o := 0) (k := 6) (v := 42) (idx := 47) (pc := 75) (r2 := gj_Rq 51) F19 hin (gj_ckc_d ck_10 (j := 35) (q := (75, .putfield 47, 3, 1006)) rfl) rfl (gj_wF_in 1000471006 (gj_ct rfl)) rfl (by decide) rfl (by decide) rfl rfl rfl (fun _ => rfl) (fun _ => rfl) (gj_Rq_1 (t := 50) rfl) (gj_Rq_2 (t := 50) rfl) (fun F20 => ?_)
  show gj_G E _ mc_10 p e s m args below meth c _ 78 [some (.ref 0)] [] A19 B19
  refine cs_ord F20 (gj_ckc_o ck_10 rfl (j := 36) (q := (78, .aload_n 0, 1, 0)) rfl rfl) ?_
  show gj_G E _ mc_10 p e s m args below meth c _ 79 [some (.ref 0)] [(.ref 0)] A19 B19
  refine cs_new (ci := 6) (q := (RX6, TX6, 13)) (n := 52) (idx := 51) (pc := 79) F20 (gj_ckc_d ck_10 (j := 37) (q := (79, .new 51, 3, 6)) rfl) rfl wcl_X10_51 win_6 wii_6 (by decide) rfl rfl (fun k => z19 52 k (by omega)) (fun k _ => rfl) (by decide) (by decide) (fun F21 => ?_)
  show gj_G E _ mc_10 p e s m args below meth c _ 82 [some (.ref 0)] [(.ref 52), (.ref 0)] A19 B19
  refine cs_ord F21 (gj_ckc_o ck_10 rfl (j := 38) (q := (82, .dup, 1, 0)) rfl rfl) ?_
  show gj_G E _ mc_10 p e s m args below meth c _ 83 [some (.ref 0)] [(.ref 52), (.ref 52), (.ref 0)] A19 B19
  refine cs_init (M2 := mc_6) (idx := 53) (pc := 83) (o := 52) F21 (gj_ckc_d ck_10 (j := 39) (q := (83, .invokespecial 53, 3, 6)) rfl) mok_10_53 rfl wim_6 rfl (mk_6_52 (E := E) (z19.le (by omega))) rfl (by decide) (by decide) (by decide) (fun A22 B22 h22 F22 => ?_)
  obtain ⟨z22, f22, g22, k22⟩ := h22
  show gj_G E _ mc_10 p e s m args below meth c _ 86 [some (.ref 0)] [(.ref 52), (.ref 0)] A22 B22
  refine cs_ref (ci := 10) (q := (RX10, TX10, 14)) (o := 0) (k := 7) (v := 52) (idx := 54) (pc := 86) (r2 := gj_Rq 54) F22 hin (gj_ckc_d ck_10 (j := 40) (q := (86, .putfield 54, 3, 1007)) rfl) rfl (gj_wF_in 1000541007 (gj_ct rfl)) rfl (by decide) rfl (by decide) rfl rfl rfl (fun _ => rfl) (fun _ => rfl) (gj_Rq_1 (t := 53) rfl) (gj_Rq_2 (t := 53) rfl) (fun F23 => ?_)
  show gj_G E _ mc_10 p e s m args below meth c _ 89 [some (.ref 0)] [] A22 B22
  refine cs_ord F23 (gj_ckc_o ck_10 rfl (j := 41) (q := (89, .aload_n 0, 1, 0)) rfl rfl) ?_
  show gj_G E _ mc_10 p e s m args below meth c _ 90 [some (.ref 0)] [(.ref 0)] A22 B22
  refine cs_new (ci := 2) (q := (RX2, TX2, 12)) (n := 55) (idx := 58) (pc := 90) F23 (gj_ckc_d ck_10 (j := 42) (q := (90, .new 58, 3, 2)) rfl) rfl wcl_X10_58 win_2 wii_2 (by decide) rfl rfl (fun k => z22 55 k (by omega)) (fun k _ => rfl) (by decide) (by decide) (fun F24 => ?_)
  show gj_G E _ mc_10 p e s m args below meth c _ 93 [some (.ref 0)] [(.ref 55), (.ref 0)] A22 B22
  refine cs_ord F24 (gj_ckc_o ck_10 rfl (j := 43) (q := (93, .dup, 1, 0)) rfl rfl) ?_
  show gj_G E _ mc_10 p e s m args below meth c _ 94 [some (.ref 0)] [(.ref 55), (.ref 55), (.ref 0)] A22 B22
  refine cs_init (M2 := mc_2) (idx := 60) (pc := 94) (o := 55) F24 (gj_ckc_d ck_10 (j := 44) (q := (94, .invokespecial 60, 3, 2)) rfl) mok_10_60 rfl wim_2 rfl (mk_2_55 (E := E) (z22.le (by omega))) rfl (by decide) (by decide) (by decide) (fun A25 B25 h25 F25 => ?_)
  obtain ⟨z25, f25, g25, k25⟩ := h25
  show gj_G E _ mc_10 p e s m args below meth c _ 97 [some (.ref 0)] [(.ref 55), (.ref 0)] A25 B25
  refine cs_ref (ci := 10) (q := (RX10, TX10, 14)) (o := 0) (k := 8) (v := 55) (idx := 61) (pc := 97) (r2 := gj_Rq 60) F25 hin (gj_ckc_d ck_10 (j := 45) (q := (97, .putfield 61, 3, 1008)) rfl) rfl (gj_wF_in 1000611008 (gj_ct rfl)) rfl (by decide) rfl (by decide) rfl rfl rfl (fun _ => rfl) (fun _ => rfl) (gj_Rq_1 (t := 59) rfl) (gj_Rq_2 (t := 59) rfl) (fun F26 => ?_)
  show gj_G E _ mc_10 p e s m args below meth c _ 100 [some (.ref 0)] [] A25 B25
  refine cs_ord F26 (gj_ckc_o ck_10 rfl (j := 46) (q := (100, .aload_n 0, 1, 0)) rfl rfl) ?_
  show gj_G E _ mc_10 p e s m args below meth c _ 101 [some (.ref 0)] [(.ref 0)] A25 B25
  refine cs_new (ci := 5) (q := (RX5, TX5, 10)) (n := 61) (idx := 65) (pc := 101) F26 (gj_ckc_d ck_10 (j := 47) (q := (101, .new 65, 3, 5)) rfl) rfl wcl_X10_65 win_5 wii_5 (by decide) rfl rfl (fun k => z25 61 k (by omega)) (fun k _ => rfl) (by decide) (by decide) (fun F27 => ?_)
  show gj_G E _ mc_10 p e s m args below meth c _ 104 [some (.ref 0)] [(.ref 61), (.ref 0)] A25 B25
  refine cs_ord F27 (gj_ckc_o ck_10 rfl (j := 48) (q := (104, .dup, 1, 0)) rfl rfl) ?_
  show gj_G E _ mc_10 p e s m args below meth c _ 105 [some (.ref 0)] [(.ref 61), (.ref 61), (.ref 0)] A25 B25
  refine cs_init (M2 := mc_5) (idx := 67) (pc := 105) (o := 61) F27 (gj_ckc_d ck_10 (j := 49) (q := (105, .invokespecial 67, 3, 5)) rfl) mok_10_67 rfl wim_5 rfl (mk_5_61 (E := E) (z25.le (by omega))) rfl (by decide) (by decide) (by decide) (fun A28 B28 h28 F28 => ?_)
  obtain ⟨z28, f28, g28, k28⟩ := h28
  show gj_G E _ mc_10 p e s m args below meth c _ 108 [some (.ref 0)] [(.ref 61), (.ref 0)] A28 B28
  refine cs_ref (ci := 10) (q := (RX10, TX10, 14)) (o := 0) (k := 9) (v := 61) (idx := 68) (pc := 108) (r2 := gj_Rq 64) F28 hin (gj_ckc_d ck_10 (j := 50) (q := (108, .putfield 68, 3, 1009)) rfl) rfl (gj_wF_in 1000681009 (gj_ct rfl)) rfl (by decide) rfl (by decide) rfl rfl rfl (fun _ => rfl) (fun _ => rfl) (gj_Rq_1 (t := 63) rfl) (gj_Rq_2 (t := 63) rfl) (fun F29 => ?_)
  show gj_G E _ mc_10 p e s m args below meth c _ 111 [some (.ref 0)] [] A28 B28
  refine cs_ord F29 (gj_ckc_o ck_10 rfl (j := 51) (q := (111, .aload_n 0, 1, 0)) rfl rfl) ?_
  show gj_G E _ mc_10 p e s m args below meth c _ 112 [some (.ref 0)] [(.ref 0)] A28 B28
  refine cs_new (ci := 9) (q := (RX9, TX9, 10)) (n := 65) (idx := 72) (pc := 112) F29 (gj_ckc_d ck_10 (j := 52) (q := (112, .new 72, 3, 9)) rfl) rfl wcl_X10_72 win_9 wii_9 (by decide) rfl rfl (fun k => z28 65 k (by omega)) (fun k _ => rfl) (by decide) (by decide) (fun F30 => ?_)
  show gj_G E _ mc_10 p e s m args below meth c _ 115 [some (.ref 0)] [(.ref 65), (.ref 0)] A28 B28
  refine cs_ord F30 (gj_ckc_o ck_10 rfl (j := 53) (q := (115, .dup, 1, 0)) rfl rfl) ?_
  show gj_G E _ mc_10 p e s m args below meth c _ 116 [some (.ref 0)] [(.ref 65), (.ref 65), (.ref 0)] A28 B28
  refine cs_init (M2 := mc_9) (idx := 74) (pc := 116) (o := 65) F30 (gj_ckc_d ck_10 (j := 54) (q := (116, .invokespecial 74, 3, 9)) rfl) mok_10_74 rfl wim_9 rfl (mk_9_65 (E := E) (z28.le (by omega))) rfl (by decide) (by decide) (by decide) (fun A31 B31 h31 F31 => ?_)
  obtain ⟨z31, f31, g31, k31⟩ := h31
  show gj_G E _ mc_10 p e s m args below meth c _ 119 [some (.ref 0)] [(.ref 65), (.ref 0)] A31 B31
  refine cs_ref (ci := 10) (q := (RX10, TX10, 14)) (o := 0) (k := 10) (v := 65) (idx := 75) (pc := 119) (r2 := gj_Rq 80) F31 hin (gj_ckc_d ck_10 (j := 55) (q := (119, .putfield 75, 3, 1010)) rfl) rfl (gj_wF_in 1000751010 (gj_ct rfl)) rfl (by decide) rfl (by decide) rfl rfl rfl (fun _ => rfl) (fun _ => rfl) (gj_Rq_1 (t := 79) rfl) (gj_Rq_2 (t := 79) rfl) (fun F32 => ?_)
  show gj_G E _ mc_10 p e s m args below meth c _ 122 [some (.ref 0)] [] A31 B31
  refine cs_ord F32 (gj_ckc_o ck_10 rfl (j := 56) (q := (122, .aload_n 0, 1, 0)) rfl rfl) ?_
  show gj_G E _ mc_10 p e s m args below meth c _ 123 [some (.ref 0)] [(.ref 0)] A31 B31
  refine cs_ord F32 (gj_ckc_o ck_10 rfl (j := 57) (q := (123, .iconst 0, 1, 0)) rfl rfl) ?_
  show gj_G E _ mc_10 p e s m args below meth c _ 124 [some (.ref 0)] [(.int (i3 0)), (.ref 0)] A31 B31
  refine cs_ord F32 (gj_ckc_o ck_10 rfl (j := 58) (q := (124, .putfield 79, 3, 1011)) rfl rfl) ?_
  refine And.intro (Or.inl rfl) ?_
  show gj_G E _ mc_10 p e s m args below meth c _ 127 [some (.ref 0)] [] (gj_u2 A31 0 11 (i3 0)) B31
  refine cs_ord F32 (gj_ckc_o ck_10 rfl (j := 59) (q := (127, .aload_n 0, 1, 0)) rfl rfl) ?_
  show gj_G E _ mc_10 p e s m args below meth c _ 128 [some (.ref 0)] [(.ref 0)] (gj_u2 A31 0 11 (i3 0)) B31
  refine cs_ord F32 (gj_ckc_o ck_10 rfl (j := 60) (q := (128, .iconst 0, 1, 0)) rfl rfl) ?_
  show gj_G E _ mc_10 p e s m args below meth c _ 129 [some (.ref 0)] [(.int (i3 0)), (.ref 0)] (gj_u2 A31 0 11 (i3 0)) B31
  refine cs_ord F32 (gj_ckc_o ck_10 rfl (j := 61) (q := (129, .putfield 83, 3, 1012)) rfl rfl) ?_
  show gj_G E _ mc_10 p e s m args below meth c _ 132 [some (.ref 0)] [] (gj_u2 (gj_u2 A31 0 11 (i3 0)) 0 12 (i3 0)) B31
  refine cs_ord F32 (gj_ckc_o ck_10 rfl (j := 62) (q := (132, .aload_n 0, 1, 0)) rfl rfl) ?_
  show gj_G E _ mc_10 p e s m args below meth c _ 133 [some (.ref 0)] [(.ref 0)] (gj_u2 (gj_u2 A31 0 11 (i3 0)) 0 12 (i3 0)) B31
  refine cs_ord F32 (gj_ckc_o ck_10 rfl (j := 63) (q := (133, .iconst 0, 1, 0)) rfl rfl) ?_
  show gj_G E _ mc_10 p e s m args below meth c _ 134 [some (.ref 0)] [(.int (i3 0)), (.ref 0)] (gj_u2 (gj_u2 A31 0 11 (i3 0)) 0 12 (i3 0)) B31
  refine cs_ord F32 (gj_ckc_o ck_10 rfl (j := 64) (q := (134, .putfield 87, 3, 1013)) rfl rfl) ?_
  refine And.intro (Or.inl rfl) ?_
  show gj_G E _ mc_10 p e s m args below meth c _ 137 [some (.ref 0)] [] (gj_u2 (gj_u2 (gj_u2 A31 0 11 (i3 0)) 0 12 (i3 0)) 0 13 (i3 0)) B31
  refine cs_ret F32 (gj_ckc_d ck_10 (j := 65) (q := (137, .return_, 1, 0)) rfl) rfl ?_
  have fF : FI (Lk 0 1 81) SI (gj_u2 (gj_u2 (gj_u2 A31 0 11 (i3 0)) 0 12 (i3 0)) 0 13 (i3 0)) := ((((((((((((((FI.rf : FI (Lk 0 1 81) SI SI).tr (f2.le (fun o k z => by unfold Lk at z; unfold Lk; omega))).tr (f5.le (fun o k z => by unfold Lk at z; unfold Lk; omega))).tr (f8.le (fun o k z => by unfold Lk at z; unfold Lk; omega))).tr (f11.le (fun o k z => by unfold Lk at z; unfold Lk; omega))).tr (f14.le (fun o k z => by unfold Lk at z; unfold Lk; omega))).tr (f19.le (fun o k z => by unfold Lk at z; unfold Lk; omega))).tr (f22.le (fun o k z => by unfold Lk at z; unfold Lk; omega))).tr (f25.le (fun o k z => by unfold Lk at z; unfold Lk; omega))).tr (f28.le (fun o k z => by unfold Lk at z; unfold Lk; omega))).tr (f31.le (fun o k z => by unfold Lk at z; unfold Lk; omega))).u (by unfold Lk; omega)).u (by unfold Lk; omega)).u (by unfold Lk; omega))
  have gF : FJ (Lk 0 1 81) SJ B31 := (((((((((((FJ.rf : FJ (Lk 0 1 81) SJ SJ).tr (g2.le (fun o k z => by unfold Lk at z; unfold Lk; omega))).tr (g5.le (fun o k z => by unfold Lk at z; unfold Lk; omega))).tr (g8.le (fun o k z => by unfold Lk at z; unfold Lk; omega))).tr (g11.le (fun o k z => by unfold Lk at z; unfold Lk; omega))).tr (g14.le (fun o k z => by unfold Lk at z; unfold Lk; omega))).tr (g19.le (fun o k z => by unfold Lk at z; unfold Lk; omega))).tr (g22.le (fun o k z => by unfold Lk at z; unfold Lk; omega))).tr (g25.le (fun o k z => by unfold Lk at z; unfold Lk; omega))).tr (g28.le (fun o k z => by unfold Lk at z; unfold Lk; omega))).tr (g31.le (fun o k z => by unfold Lk at z; unfold Lk; omega)))
  have zF : ZZ 81 (gj_u2 (gj_u2 (gj_u2 A31 0 11 (i3 0)) 0 12 (i3 0)) 0 13 (i3 0)) B31 := ((((z31.le (by omega) : ZZ 81 A31 B31).u (by omega)).u (by omega)).u (by omega))
  have c99 : FI (fun a _ => a = 0) A31 (gj_u2 (gj_u2 (gj_u2 A31 0 11 (i3 0)) 0 12 (i3 0)) 0 13 (i3 0)) := ((((FI.rf : FI (fun a _ => a = 0) A31 A31).u rfl).u rfl).u rfl)
  have c31 : FI (fun a _ => a = 0 ∨ 65 ≤ a) A28 (gj_u2 (gj_u2 (gj_u2 A31 0 11 (i3 0)) 0 12 (i3 0)) 0 13 (i3 0)) := (f31.le (fun o k z => by unfold Lk at z; omega) : FI (fun a _ => a = 0 ∨ 65 ≤ a) A28 A31).tr (c99.le (fun o k z => by omega))
  have c28 : FI (fun a _ => a = 0 ∨ 61 ≤ a) A25 (gj_u2 (gj_u2 (gj_u2 A31 0 11 (i3 0)) 0 12 (i3 0)) 0 13 (i3 0)) := (f28.le (fun o k z => by unfold Lk at z; omega) : FI (fun a _ => a = 0 ∨ 61 ≤ a) A25 A28).tr (c31.le (fun o k z => by omega))
  have c25 : FI (fun a _ => a = 0 ∨ 55 ≤ a) A22 (gj_u2 (gj_u2 (gj_u2 A31 0 11 (i3 0)) 0 12 (i3 0)) 0 13 (i3 0)) := (f25.le (fun o k z => by unfold Lk at z; omega) : FI (fun a _ => a = 0 ∨ 55 ≤ a) A22 A25).tr (c28.le (fun o k z => by omega))
  have c22 : FI (fun a _ => a = 0 ∨ 52 ≤ a) A19 (gj_u2 (gj_u2 (gj_u2 A31 0 11 (i3 0)) 0 12 (i3 0)) 0 13 (i3 0)) := (f22.le (fun o k z => by unfold Lk at z; omega) : FI (fun a _ => a = 0 ∨ 52 ≤ a) A19 A22).tr (c25.le (fun o k z => by omega))
  have c19 : FI (fun a _ => a = 0 ∨ 42 ≤ a) A14 (gj_u2 (gj_u2 (gj_u2 A31 0 11 (i3 0)) 0 12 (i3 0)) 0 13 (i3 0)) := (f19.le (fun o k z => by unfold Lk at z; omega) : FI (fun a _ => a = 0 ∨ 42 ≤ a) A14 A19).tr (c22.le (fun o k z => by omega))
  have c14 : FI (fun a _ => a = 0 ∨ 37 ≤ a) A11 (gj_u2 (gj_u2 (gj_u2 A31 0 11 (i3 0)) 0 12 (i3 0)) 0 13 (i3 0)) := (f14.le (fun o k z => by unfold Lk at z; omega) : FI (fun a _ => a = 0 ∨ 37 ≤ a) A11 A14).tr (c19.le (fun o k z => by omega))
  have c11 : FI (fun a _ => a = 0 ∨ 29 ≤ a) A8 (gj_u2 (gj_u2 (gj_u2 A31 0 11 (i3 0)) 0 12 (i3 0)) 0 13 (i3 0)) := (f11.le (fun o k z => by unfold Lk at z; omega) : FI (fun a _ => a = 0 ∨ 29 ≤ a) A8 A11).tr (c14.le (fun o k z => by omega))
  have c8 : FI (fun a _ => a = 0 ∨ 16 ≤ a) A5 (gj_u2 (gj_u2 (gj_u2 A31 0 11 (i3 0)) 0 12 (i3 0)) 0 13 (i3 0)) := (f8.le (fun o k z => by unfold Lk at z; omega) : FI (fun a _ => a = 0 ∨ 16 ≤ a) A5 A8).tr (c11.le (fun o k z => by omega))
  have c5 : FI (fun a _ => a = 0 ∨ 3 ≤ a) A2 (gj_u2 (gj_u2 (gj_u2 A31 0 11 (i3 0)) 0 12 (i3 0)) 0 13 (i3 0)) := (f5.le (fun o k z => by unfold Lk at z; omega) : FI (fun a _ => a = 0 ∨ 3 ≤ a) A2 A5).tr (c8.le (fun o k z => by omega))
  have c2 : FI (fun a _ => a = 0 ∨ 1 ≤ a) SI (gj_u2 (gj_u2 (gj_u2 A31 0 11 (i3 0)) 0 12 (i3 0)) 0 13 (i3 0)) := (f2.le (fun o k z => by unfold Lk at z; omega) : FI (fun a _ => a = 0 ∨ 1 ≤ a) SI A2).tr (c5.le (fun o k z => by omega))
  exact ⟨zF, fF, gF, k5.1.f c8 ⟨by omega, fun k => by omega⟩, k5.2.1.f c8 ⟨by omega, fun k => by omega⟩, (by rw [c8 3 5 (by omega)]; exact k5.2.2.1), (by rw [c8 3 6 (by omega)]; exact k5.2.2.2.1), (by rw [c8 3 7 (by omega)]; exact k5.2.2.2.2.1), (by rw [c8 3 8 (by omega)]; exact k5.2.2.2.2.2.1), (by rw [c8 3 9 (by omega)]; exact k5.2.2.2.2.2.2.1), (by rw [c8 3 10 (by omega)]; exact k5.2.2.2.2.2.2.2.1), (by rw [c8 3 11 (by omega)]; exact k5.2.2.2.2.2.2.2.2.1), (by rw [c8 3 12 (by omega)]; exact k5.2.2.2.2.2.2.2.2.2), (by rw [c5 1 1 (by omega)]; exact k2.1), fun k => (by rw [c5 2 k (by omega)]; exact k2.2 k), (by rw [c22 42 9 (by omega)]; exact k19), k31.1, k31.2, rfl, rfl, rfl⟩
set_option maxHeartbeats 4000000 in
set_option maxRecDepth 20000 in
theorem mk_11_81 {E : gj_E} {SI : gj_I} {SJ : gj_J} (hz : ZZ 82 SI SJ) (hs : ∀ k, SI 81 k = 0) : gj_Mk E (82, gj_Rq 80) (103, gj_Rq 101) mc_11 21 2186 [.ref 81] SI SJ (fun A B => ZZ 103 A B ∧ FI (Lk 81 82 103) SI A ∧ FJ (Lk 81 82 103) SJ B ∧ RF FZ A ∧ (∀ k, A 83 k = 0) ∧ (∀ k, A 89 k = 0) ∧ A 81 13 = 0 ∧ A 81 3 = 0) := by
  refine cs_start (M := mc_11) rfl rfl rfl rfl ?_
  intro p e s m args below meth c hin F0
  refine cs_ord F0 (gj_ckc_o ck_11 rfl (j := 0) (q := (0, .aload_n 0, 1, 0)) rfl rfl) ?_
  show gj_G E _ mc_11 p e s m args below meth c _ 1 [some (.ref 81)] [(.ref 81)] SI SJ
  refine cs_obj (idx := 1) (pc := 1) (o := 81) F0 (gj_ckc_d ck_11 (j := 1) (q := (1, .invokespecial 1, 3, 99)) rfl) wob_X11 wobI wobC (by decide) (by decide) ?_
  show gj_G E _ mc_11 p e s m args below meth c _ 4 [some (.ref 81)] [] SI SJ
  refine cs_ord F0 (gj_ckc_o ck_11 rfl (j := 2) (q := (4, .aload_n 0, 1, 0)) rfl rfl) ?_
  show gj_G E _ mc_11 p e s m args below meth c _ 5 [some (.ref 81)] [(.ref 81)] SI SJ
  refine cs_ord F0 (gj_ckc_o ck_11 rfl (j := 3) (q := (5, .sipush 135, 3, 0)) rfl rfl) ?_
  show gj_G E _ mc_11 p e s m args below meth c _ 8 [some (.ref 81)] [(.int (i3 135)), (.ref 81)] SI SJ
  refine cs_arrI (n := 82) (N := 135) (pc := 8) F0 (gj_ckc_d ck_11 (j := 4) (q := (8, .newarray .int, 2, 0)) rfl) war_int rfl (by decide) (by decide) (by decide) rfl (fun k => hz 82 k (by omega)) (by decide) (by decide) (fun F1 => ?_)
  show gj_G E _ mc_11 p e s m args below meth c _ 10 [some (.ref 81)] [(.ref 82), (.ref 81)] SI SJ
  refine cs_ref (ci := 11) (q := (RX11, TX11, 49)) (o := 81) (k := 0) (v := 82) (idx := 7) (pc := 10) (r2 := gj_Rq 81) F1 hin (gj_ckc_d ck_11 (j := 5) (q := (10, .putfield 7, 3, 1100)) rfl) rfl (gj_wF_in 1100071100 (gj_ct rfl)) rfl (by decide) rfl (by decide) rfl rfl rfl (fun _ => rfl) (fun _ => rfl) (gj_Rq_1 (t := 80) rfl) (gj_Rq_2 (t := 80) rfl) (fun F2 => ?_)
  show gj_G E _ mc_11 p e s m args below meth c _ 13 [some (.ref 81)] [] SI SJ
  refine cs_ord F2 (gj_ckc_o ck_11 rfl (j := 6) (q := (13, .aload_n 0, 1, 0)) rfl rfl) ?_
  show gj_G E _ mc_11 p e s m args below meth c _ 14 [some (.ref 81)] [(.ref 81)] SI SJ
  refine cs_ord F2 (gj_ckc_o ck_11 rfl (j := 7) (q := (14, .sipush 135, 3, 0)) rfl rfl) ?_
  show gj_G E _ mc_11 p e s m args below meth c _ 17 [some (.ref 81)] [(.int (i3 135)), (.ref 81)] SI SJ
  refine cs_arrI (n := 83) (N := 135) (pc := 17) F2 (gj_ckc_d ck_11 (j := 8) (q := (17, .newarray .int, 2, 0)) rfl) war_int rfl (by decide) (by decide) (by decide) rfl (fun k => hz 83 k (by omega)) (by decide) (by decide) (fun F3 => ?_)
  show gj_G E _ mc_11 p e s m args below meth c _ 19 [some (.ref 81)] [(.ref 83), (.ref 81)] SI SJ
  refine cs_ref (ci := 11) (q := (RX11, TX11, 49)) (o := 81) (k := 1) (v := 83) (idx := 13) (pc := 19) (r2 := gj_Rq 82) F3 hin (gj_ckc_d ck_11 (j := 9) (q := (19, .putfield 13, 3, 1101)) rfl) rfl (gj_wF_in 1100131101 (gj_ct rfl)) rfl (by decide) rfl (by decide) rfl rfl rfl (fun _ => rfl) (fun _ => rfl) (gj_Rq_1 (t := 81) rfl) (gj_Rq_2 (t := 81) rfl) (fun F4 => ?_)
  show gj_G E _ mc_11 p e s m args below meth c _ 22 [some (.ref 81)] [] SI SJ
  refine cs_ord F4 (gj_ckc_o ck_11 rfl (j := 10) (q := (22, .aload_n 0, 1, 0)) rfl rfl) ?_
  show gj_G E _ mc_11 p e s m args below meth c _ 23 [some (.ref 81)] [(.ref 81)] SI SJ
  refine cs_ord F4 (gj_ckc_o ck_11 rfl (j := 11) (q := (23, .sipush 135, 3, 0)) rfl rfl) ?_
  show gj_G E _ mc_11 p e s m args below meth c _ 26 [some (.ref 81)] [(.int (i3 135)), (.ref 81)] SI SJ
  refine cs_arrI (n := 84) (N := 135) (pc := 26) F4 (gj_ckc_d ck_11 (j := 12) (q := (26, .newarray .int, 2, 0)) rfl) war_int rfl (by decide) (by decide) (by decide) rfl (fun k => hz 84 k (by omega)) (by decide) (by decide) (fun F5 => ?_)
  show gj_G E _ mc_11 p e s m args below meth c _ 28 [some (.ref 81)] [(.ref 84), (.ref 81)] SI SJ
  refine cs_ref (ci := 11) (q := (RX11, TX11, 49)) (o := 81) (k := 2) (v := 84) (idx := 16) (pc := 28) (r2 := gj_Rq 83) F5 hin (gj_ckc_d ck_11 (j := 13) (q := (28, .putfield 16, 3, 1102)) rfl) rfl (gj_wF_in 1100161102 (gj_ct rfl)) rfl (by decide) rfl (by decide) rfl rfl rfl (fun _ => rfl) (fun _ => rfl) (gj_Rq_1 (t := 82) rfl) (gj_Rq_2 (t := 82) rfl) (fun F6 => ?_)
  show gj_G E _ mc_11 p e s m args below meth c _ 31 [some (.ref 81)] [] SI SJ
  refine cs_ord F6 (gj_ckc_o ck_11 rfl (j := 14) (q := (31, .aload_n 0, 1, 0)) rfl rfl) ?_
  show gj_G E _ mc_11 p e s m args below meth c _ 32 [some (.ref 81)] [(.ref 81)] SI SJ
  refine cs_ord F6 (gj_ckc_o ck_11 rfl (j := 15) (q := (32, .bipush 16, 2, 0)) rfl rfl) ?_
  show gj_G E _ mc_11 p e s m args below meth c _ 34 [some (.ref 81)] [(.int (i3 16)), (.ref 81)] SI SJ
  refine cs_arrJ (n := 85) (N := 16) (pc := 34) F6 (gj_ckc_d ck_11 (j := 16) (q := (34, .newarray .long, 2, 2)) rfl) war_long rfl (by decide) (by decide) (by decide) rfl (fun k => hz 85 k (by omega)) (by decide) (by decide) (fun F7 => ?_)
  show gj_G E _ mc_11 p e s m args below meth c _ 36 [some (.ref 81)] [(.ref 85), (.ref 81)] SI SJ
  refine cs_ref (ci := 11) (q := (RX11, TX11, 49)) (o := 81) (k := 4) (v := 85) (idx := 19) (pc := 36) (r2 := gj_Rq 84) F7 hin (gj_ckc_d ck_11 (j := 17) (q := (36, .putfield 19, 3, 1104)) rfl) rfl (gj_wF_in 1100191104 (gj_ct rfl)) rfl (by decide) rfl (by decide) rfl rfl rfl (fun _ => rfl) (fun _ => rfl) (gj_Rq_1 (t := 83) rfl) (gj_Rq_2 (t := 83) rfl) (fun F8 => ?_)
  show gj_G E _ mc_11 p e s m args below meth c _ 39 [some (.ref 81)] [] SI SJ
  refine cs_ord F8 (gj_ckc_o ck_11 rfl (j := 18) (q := (39, .aload_n 0, 1, 0)) rfl rfl) ?_
  show gj_G E _ mc_11 p e s m args below meth c _ 40 [some (.ref 81)] [(.ref 81)] SI SJ
  refine cs_ord F8 (gj_ckc_o ck_11 rfl (j := 19) (q := (40, .bipush 16, 2, 0)) rfl rfl) ?_
  show gj_G E _ mc_11 p e s m args below meth c _ 42 [some (.ref 81)] [(.int (i3 16)), (.ref 81)] SI SJ
  refine cs_arrJ (n := 86) (N := 16) (pc := 42) F8 (gj_ckc_d ck_11 (j := 20) (q := (42, .newarray .long, 2, 2)) rfl) war_long rfl (by decide) (by decide) (by decide) rfl (fun k => hz 86 k (by omega)) (by decide) (by decide) (fun F9 => ?_)
  show gj_G E _ mc_11 p e s m args below meth c _ 44 [some (.ref 81)] [(.ref 86), (.ref 81)] SI SJ
  refine cs_ref (ci := 11) (q := (RX11, TX11, 49)) (o := 81) (k := 5) (v := 86) (idx := 23) (pc := 44) (r2 := gj_Rq 85) F9 hin (gj_ckc_d ck_11 (j := 21) (q := (44, .putfield 23, 3, 1105)) rfl) rfl (gj_wF_in 1100231105 (gj_ct rfl)) rfl (by decide) rfl (by decide) rfl rfl rfl (fun _ => rfl) (fun _ => rfl) (gj_Rq_1 (t := 84) rfl) (gj_Rq_2 (t := 84) rfl) (fun F10 => ?_)
  show gj_G E _ mc_11 p e s m args below meth c _ 47 [some (.ref 81)] [] SI SJ
  refine cs_ord F10 (gj_ckc_o ck_11 rfl (j := 22) (q := (47, .aload_n 0, 1, 0)) rfl rfl) ?_
  show gj_G E _ mc_11 p e s m args below meth c _ 48 [some (.ref 81)] [(.ref 81)] SI SJ
  refine cs_ord F10 (gj_ckc_o ck_11 rfl (j := 23) (q := (48, .bipush 16, 2, 0)) rfl rfl) ?_
  show gj_G E _ mc_11 p e s m args below meth c _ 50 [some (.ref 81)] [(.int (i3 16)), (.ref 81)] SI SJ
  refine cs_arrJ (n := 87) (N := 16) (pc := 50) F10 (gj_ckc_d ck_11 (j := 24) (q := (50, .newarray .long, 2, 2)) rfl) war_long rfl (by decide) (by decide) (by decide) rfl (fun k => hz 87 k (by omega)) (by decide) (by decide) (fun F11 => ?_)
  show gj_G E _ mc_11 p e s m args below meth c _ 52 [some (.ref 81)] [(.ref 87), (.ref 81)] SI SJ
  refine cs_ref (ci := 11) (q := (RX11, TX11, 49)) (o := 81) (k := 6) (v := 87) (idx := 26) (pc := 52) (r2 := gj_Rq 86) F11 hin (gj_ckc_d ck_11 (j := 25) (q := (52, .putfield 26, 3, 1106)) rfl) rfl (gj_wF_in 1100261106 (gj_ct rfl)) rfl (by decide) rfl (by decide) rfl rfl rfl (fun _ => rfl) (fun _ => rfl) (gj_Rq_1 (t := 85) rfl) (gj_Rq_2 (t := 85) rfl) (fun F12 => ?_)
  show gj_G E _ mc_11 p e s m args below meth c _ 55 [some (.ref 81)] [] SI SJ
  refine cs_ord F12 (gj_ckc_o ck_11 rfl (j := 26) (q := (55, .aload_n 0, 1, 0)) rfl rfl) ?_
  show gj_G E _ mc_11 p e s m args below meth c _ 56 [some (.ref 81)] [(.ref 81)] SI SJ
  refine cs_ord F12 (gj_ckc_o ck_11 rfl (j := 27) (q := (56, .bipush 16, 2, 0)) rfl rfl) ?_
  show gj_G E _ mc_11 p e s m args below meth c _ 58 [some (.ref 81)] [(.int (i3 16)), (.ref 81)] SI SJ
  refine cs_arrI (n := 88) (N := 16) (pc := 58) F12 (gj_ckc_d ck_11 (j := 28) (q := (58, .newarray .int, 2, 0)) rfl) war_int rfl (by decide) (by decide) (by decide) rfl (fun k => hz 88 k (by omega)) (by decide) (by decide) (fun F13 => ?_)
  show gj_G E _ mc_11 p e s m args below meth c _ 60 [some (.ref 81)] [(.ref 88), (.ref 81)] SI SJ
  refine cs_ref (ci := 11) (q := (RX11, TX11, 49)) (o := 81) (k := 7) (v := 88) (idx := 29) (pc := 60) (r2 := gj_Rq 87) F13 hin (gj_ckc_d ck_11 (j := 29) (q := (60, .putfield 29, 3, 1107)) rfl) rfl (gj_wF_in 1100291107 (gj_ct rfl)) rfl (by decide) rfl (by decide) rfl rfl rfl (fun _ => rfl) (fun _ => rfl) (gj_Rq_1 (t := 86) rfl) (gj_Rq_2 (t := 86) rfl) (fun F14 => ?_)
  show gj_G E _ mc_11 p e s m args below meth c _ 63 [some (.ref 81)] [] SI SJ
  refine cs_ord F14 (gj_ckc_o ck_11 rfl (j := 30) (q := (63, .aload_n 0, 1, 0)) rfl rfl) ?_
  show gj_G E _ mc_11 p e s m args below meth c _ 64 [some (.ref 81)] [(.ref 81)] SI SJ
  refine cs_ord F14 (gj_ckc_o ck_11 rfl (j := 31) (q := (64, .sipush 240, 3, 0)) rfl rfl) ?_
  show gj_G E _ mc_11 p e s m args below meth c _ 67 [some (.ref 81)] [(.int (i3 240)), (.ref 81)] SI SJ
  refine cs_arrB (n := 89) (N := 240) (pc := 67) F14 (gj_ckc_d ck_11 (j := 32) (q := (67, .newarray .byte, 2, 1)) rfl) war_byte rfl (by decide) (by decide) (by decide) rfl (fun k => hz 89 k (by omega)) (by decide) (by decide) (fun F15 => ?_)
  show gj_G E _ mc_11 p e s m args below meth c _ 69 [some (.ref 81)] [(.ref 89), (.ref 81)] SI SJ
  refine cs_ref (ci := 11) (q := (RX11, TX11, 49)) (o := 81) (k := 12) (v := 89) (idx := 32) (pc := 69) (r2 := gj_Rq 88) F15 hin (gj_ckc_d ck_11 (j := 33) (q := (69, .putfield 32, 3, 1112)) rfl) rfl (gj_wF_in 1100321112 (gj_ct rfl)) rfl (by decide) rfl (by decide) rfl rfl rfl (fun _ => rfl) (fun _ => rfl) (gj_Rq_1 (t := 87) rfl) (gj_Rq_2 (t := 87) rfl) (fun F16 => ?_)
  show gj_G E _ mc_11 p e s m args below meth c _ 72 [some (.ref 81)] [] SI SJ
  refine cs_ord F16 (gj_ckc_o ck_11 rfl (j := 34) (q := (72, .aload_n 0, 1, 0)) rfl rfl) ?_
  show gj_G E _ mc_11 p e s m args below meth c _ 73 [some (.ref 81)] [(.ref 81)] SI SJ
  refine cs_ord F16 (gj_ckc_o ck_11 rfl (j := 35) (q := (73, .bipush 40, 2, 0)) rfl rfl) ?_
  show gj_G E _ mc_11 p e s m args below meth c _ 75 [some (.ref 81)] [(.int (i3 40)), (.ref 81)] SI SJ
  refine cs_arrI (n := 90) (N := 40) (pc := 75) F16 (gj_ckc_d ck_11 (j := 36) (q := (75, .newarray .int, 2, 0)) rfl) war_int rfl (by decide) (by decide) (by decide) rfl (fun k => hz 90 k (by omega)) (by decide) (by decide) (fun F17 => ?_)
  show gj_G E _ mc_11 p e s m args below meth c _ 77 [some (.ref 81)] [(.ref 90), (.ref 81)] SI SJ
  refine cs_ref (ci := 11) (q := (RX11, TX11, 49)) (o := 81) (k := 18) (v := 90) (idx := 36) (pc := 77) (r2 := gj_Rq 89) F17 hin (gj_ckc_d ck_11 (j := 37) (q := (77, .putfield 36, 3, 1118)) rfl) rfl (gj_wF_in 1100361118 (gj_ct rfl)) rfl (by decide) rfl (by decide) rfl rfl rfl (fun _ => rfl) (fun _ => rfl) (gj_Rq_1 (t := 88) rfl) (gj_Rq_2 (t := 88) rfl) (fun F18 => ?_)
  show gj_G E _ mc_11 p e s m args below meth c _ 80 [some (.ref 81)] [] SI SJ
  refine cs_ord F18 (gj_ckc_o ck_11 rfl (j := 38) (q := (80, .aload_n 0, 1, 0)) rfl rfl) ?_
  show gj_G E _ mc_11 p e s m args below meth c _ 81 [some (.ref 81)] [(.ref 81)] SI SJ
  refine cs_ord F18 (gj_ckc_o ck_11 rfl (j := 39) (q := (81, .bipush 12, 2, 0)) rfl rfl) ?_
  show gj_G E _ mc_11 p e s m args below meth c _ 83 [some (.ref 81)] [(.int (i3 12)), (.ref 81)] SI SJ
  refine cs_arrJ (n := 91) (N := 12) (pc := 83) F18 (gj_ckc_d ck_11 (j := 40) (q := (83, .newarray .long, 2, 2)) rfl) war_long rfl (by decide) (by decide) (by decide) rfl (fun k => hz 91 k (by omega)) (by decide) (by decide) (fun F19 => ?_)
  show gj_G E _ mc_11 p e s m args below meth c _ 85 [some (.ref 81)] [(.ref 91), (.ref 81)] SI SJ
  refine cs_ref (ci := 11) (q := (RX11, TX11, 49)) (o := 81) (k := 20) (v := 91) (idx := 39) (pc := 85) (r2 := gj_Rq 90) F19 hin (gj_ckc_d ck_11 (j := 41) (q := (85, .putfield 39, 3, 1120)) rfl) rfl (gj_wF_in 1100391120 (gj_ct rfl)) rfl (by decide) rfl (by decide) rfl rfl rfl (fun _ => rfl) (fun _ => rfl) (gj_Rq_1 (t := 89) rfl) (gj_Rq_2 (t := 89) rfl) (fun F20 => ?_)
  show gj_G E _ mc_11 p e s m args below meth c _ 88 [some (.ref 81)] [] SI SJ
  refine cs_ord F20 (gj_ckc_o ck_11 rfl (j := 42) (q := (88, .aload_n 0, 1, 0)) rfl rfl) ?_
  show gj_G E _ mc_11 p e s m args below meth c _ 89 [some (.ref 81)] [(.ref 81)] SI SJ
  refine cs_ord F20 (gj_ckc_o ck_11 rfl (j := 43) (q := (89, .iconst 3, 1, 0)) rfl rfl) ?_
  show gj_G E _ mc_11 p e s m args below meth c _ 90 [some (.ref 81)] [(.int (i3 3)), (.ref 81)] SI SJ
  refine cs_arrJ (n := 92) (N := 3) (pc := 90) F20 (gj_ckc_d ck_11 (j := 44) (q := (90, .newarray .long, 2, 2)) rfl) war_long rfl (by decide) (by decide) (by decide) rfl (fun k => hz 92 k (by omega)) (by decide) (by decide) (fun F21 => ?_)
  show gj_G E _ mc_11 p e s m args below meth c _ 92 [some (.ref 81)] [(.ref 92), (.ref 81)] SI SJ
  refine cs_ref (ci := 11) (q := (RX11, TX11, 49)) (o := 81) (k := 25) (v := 92) (idx := 42) (pc := 92) (r2 := gj_Rq 91) F21 hin (gj_ckc_d ck_11 (j := 45) (q := (92, .putfield 42, 3, 1125)) rfl) rfl (gj_wF_in 1100421125 (gj_ct rfl)) rfl (by decide) rfl (by decide) rfl rfl rfl (fun _ => rfl) (fun _ => rfl) (gj_Rq_1 (t := 90) rfl) (gj_Rq_2 (t := 90) rfl) (fun F22 => ?_)
  show gj_G E _ mc_11 p e s m args below meth c _ 95 [some (.ref 81)] [] SI SJ
  refine cs_ord F22 (gj_ckc_o ck_11 rfl (j := 46) (q := (95, .aload_n 0, 1, 0)) rfl rfl) ?_
  show gj_G E _ mc_11 p e s m args below meth c _ 96 [some (.ref 81)] [(.ref 81)] SI SJ
  refine cs_ord F22 (gj_ckc_o ck_11 rfl (j := 47) (q := (96, .iconst 3, 1, 0)) rfl rfl) ?_
  show gj_G E _ mc_11 p e s m args below meth c _ 97 [some (.ref 81)] [(.int (i3 3)), (.ref 81)] SI SJ
  refine cs_arrI (n := 93) (N := 3) (pc := 97) F22 (gj_ckc_d ck_11 (j := 48) (q := (97, .newarray .int, 2, 0)) rfl) war_int rfl (by decide) (by decide) (by decide) rfl (fun k => hz 93 k (by omega)) (by decide) (by decide) (fun F23 => ?_)
  show gj_G E _ mc_11 p e s m args below meth c _ 99 [some (.ref 81)] [(.ref 93), (.ref 81)] SI SJ
  refine cs_ref (ci := 11) (q := (RX11, TX11, 49)) (o := 81) (k := 26) (v := 93) (idx := 45) (pc := 99) (r2 := gj_Rq 92) F23 hin (gj_ckc_d ck_11 (j := 49) (q := (99, .putfield 45, 3, 1126)) rfl) rfl (gj_wF_in 1100451126 (gj_ct rfl)) rfl (by decide) rfl (by decide) rfl rfl rfl (fun _ => rfl) (fun _ => rfl) (gj_Rq_1 (t := 91) rfl) (gj_Rq_2 (t := 91) rfl) (fun F24 => ?_)
  show gj_G E _ mc_11 p e s m args below meth c _ 102 [some (.ref 81)] [] SI SJ
  refine cs_ord F24 (gj_ckc_o ck_11 rfl (j := 50) (q := (102, .aload_n 0, 1, 0)) rfl rfl) ?_
  show gj_G E _ mc_11 p e s m args below meth c _ 103 [some (.ref 81)] [(.ref 81)] SI SJ
  refine cs_ord F24 (gj_ckc_o ck_11 rfl (j := 51) (q := (103, .iconst 3, 1, 0)) rfl rfl) ?_
  show gj_G E _ mc_11 p e s m args below meth c _ 104 [some (.ref 81)] [(.int (i3 3)), (.ref 81)] SI SJ
  refine cs_arrI (n := 94) (N := 3) (pc := 104) F24 (gj_ckc_d ck_11 (j := 52) (q := (104, .newarray .int, 2, 0)) rfl) war_int rfl (by decide) (by decide) (by decide) rfl (fun k => hz 94 k (by omega)) (by decide) (by decide) (fun F25 => ?_)
  show gj_G E _ mc_11 p e s m args below meth c _ 106 [some (.ref 81)] [(.ref 94), (.ref 81)] SI SJ
  refine cs_ref (ci := 11) (q := (RX11, TX11, 49)) (o := 81) (k := 27) (v := 94) (idx := 48) (pc := 106) (r2 := gj_Rq 93) F25 hin (gj_ckc_d ck_11 (j := 53) (q := (106, .putfield 48, 3, 1127)) rfl) rfl (gj_wF_in 1100481127 (gj_ct rfl)) rfl (by decide) rfl (by decide) rfl rfl rfl (fun _ => rfl) (fun _ => rfl) (gj_Rq_1 (t := 92) rfl) (gj_Rq_2 (t := 92) rfl) (fun F26 => ?_)
  show gj_G E _ mc_11 p e s m args below meth c _ 109 [some (.ref 81)] [] SI SJ
  refine cs_ord F26 (gj_ckc_o ck_11 rfl (j := 54) (q := (109, .aload_n 0, 1, 0)) rfl rfl) ?_
  show gj_G E _ mc_11 p e s m args below meth c _ 110 [some (.ref 81)] [(.ref 81)] SI SJ
  refine cs_ord F26 (gj_ckc_o ck_11 rfl (j := 55) (q := (110, .iconst 3, 1, 0)) rfl rfl) ?_
  show gj_G E _ mc_11 p e s m args below meth c _ 111 [some (.ref 81)] [(.int (i3 3)), (.ref 81)] SI SJ
  refine cs_arrJ (n := 95) (N := 3) (pc := 111) F26 (gj_ckc_d ck_11 (j := 56) (q := (111, .newarray .long, 2, 2)) rfl) war_long rfl (by decide) (by decide) (by decide) rfl (fun k => hz 95 k (by omega)) (by decide) (by decide) (fun F27 => ?_)
  show gj_G E _ mc_11 p e s m args below meth c _ 113 [some (.ref 81)] [(.ref 95), (.ref 81)] SI SJ
  refine cs_ref (ci := 11) (q := (RX11, TX11, 49)) (o := 81) (k := 28) (v := 95) (idx := 51) (pc := 113) (r2 := gj_Rq 94) F27 hin (gj_ckc_d ck_11 (j := 57) (q := (113, .putfield 51, 3, 1128)) rfl) rfl (gj_wF_in 1100511128 (gj_ct rfl)) rfl (by decide) rfl (by decide) rfl rfl rfl (fun _ => rfl) (fun _ => rfl) (gj_Rq_1 (t := 93) rfl) (gj_Rq_2 (t := 93) rfl) (fun F28 => ?_)
  show gj_G E _ mc_11 p e s m args below meth c _ 116 [some (.ref 81)] [] SI SJ
  refine cs_ord F28 (gj_ckc_o ck_11 rfl (j := 58) (q := (116, .aload_n 0, 1, 0)) rfl rfl) ?_
  show gj_G E _ mc_11 p e s m args below meth c _ 117 [some (.ref 81)] [(.ref 81)] SI SJ
  refine cs_ord F28 (gj_ckc_o ck_11 rfl (j := 59) (q := (117, .iconst 3, 1, 0)) rfl rfl) ?_
  show gj_G E _ mc_11 p e s m args below meth c _ 118 [some (.ref 81)] [(.int (i3 3)), (.ref 81)] SI SJ
  refine cs_arrJ (n := 96) (N := 3) (pc := 118) F28 (gj_ckc_d ck_11 (j := 60) (q := (118, .newarray .long, 2, 2)) rfl) war_long rfl (by decide) (by decide) (by decide) rfl (fun k => hz 96 k (by omega)) (by decide) (by decide) (fun F29 => ?_)
  show gj_G E _ mc_11 p e s m args below meth c _ 120 [some (.ref 81)] [(.ref 96), (.ref 81)] SI SJ
  refine cs_ref (ci := 11) (q := (RX11, TX11, 49)) (o := 81) (k := 32) (v := 96) (idx := 54) (pc := 120) (r2 := gj_Rq 95) F29 hin (gj_ckc_d ck_11 (j := 61) (q := (120, .putfield 54, 3, 1132)) rfl) rfl (gj_wF_in 1100541132 (gj_ct rfl)) rfl (by decide) rfl (by decide) rfl rfl rfl (fun _ => rfl) (fun _ => rfl) (gj_Rq_1 (t := 94) rfl) (gj_Rq_2 (t := 94) rfl) (fun F30 => ?_)
  show gj_G E _ mc_11 p e s m args below meth c _ 123 [some (.ref 81)] [] SI SJ
  refine cs_ord F30 (gj_ckc_o ck_11 rfl (j := 62) (q := (123, .aload_n 0, 1, 0)) rfl rfl) ?_
  show gj_G E _ mc_11 p e s m args below meth c _ 124 [some (.ref 81)] [(.ref 81)] SI SJ
  refine cs_ord F30 (gj_ckc_o ck_11 rfl (j := 63) (q := (124, .bipush 70, 2, 0)) rfl rfl) ?_
  show gj_G E _ mc_11 p e s m args below meth c _ 126 [some (.ref 81)] [(.int (i3 70)), (.ref 81)] SI SJ
  refine cs_arrJ (n := 97) (N := 70) (pc := 126) F30 (gj_ckc_d ck_11 (j := 64) (q := (126, .newarray .long, 2, 2)) rfl) war_long rfl (by decide) (by decide) (by decide) rfl (fun k => hz 97 k (by omega)) (by decide) (by decide) (fun F31 => ?_)
  show gj_G E _ mc_11 p e s m args below meth c _ 128 [some (.ref 81)] [(.ref 97), (.ref 81)] SI SJ
  refine cs_ref (ci := 11) (q := (RX11, TX11, 49)) (o := 81) (k := 34) (v := 97) (idx := 57) (pc := 128) (r2 := gj_Rq 96) F31 hin (gj_ckc_d ck_11 (j := 65) (q := (128, .putfield 57, 3, 1134)) rfl) rfl (gj_wF_in 1100571134 (gj_ct rfl)) rfl (by decide) rfl (by decide) rfl rfl rfl (fun _ => rfl) (fun _ => rfl) (gj_Rq_1 (t := 95) rfl) (gj_Rq_2 (t := 95) rfl) (fun F32 => ?_)
  show gj_G E _ mc_11 p e s m args below meth c _ 131 [some (.ref 81)] [] SI SJ
  refine cs_ord F32 (gj_ckc_o ck_11 rfl (j := 66) (q := (131, .aload_n 0, 1, 0)) rfl rfl) ?_
  show gj_G E _ mc_11 p e s m args below meth c _ 132 [some (.ref 81)] [(.ref 81)] SI SJ
  refine cs_ord F32 (gj_ckc_o ck_11 rfl (j := 67) (q := (132, .bipush 70, 2, 0)) rfl rfl) ?_
  show gj_G E _ mc_11 p e s m args below meth c _ 134 [some (.ref 81)] [(.int (i3 70)), (.ref 81)] SI SJ
  refine cs_arrJ (n := 98) (N := 70) (pc := 134) F32 (gj_ckc_d ck_11 (j := 68) (q := (134, .newarray .long, 2, 2)) rfl) war_long rfl (by decide) (by decide) (by decide) rfl (fun k => hz 98 k (by omega)) (by decide) (by decide) (fun F33 => ?_)
  show gj_G E _ mc_11 p e s m args below meth c _ 136 [some (.ref 81)] [(.ref 98), (.ref 81)] SI SJ
  refine cs_ref (ci := 11) (q := (RX11, TX11, 49)) (o := 81) (k := 35) (v := 98) (idx := 60) (pc := 136) (r2 := gj_Rq 97) F33 hin (gj_ckc_d ck_11 (j := 69) (q := (136, .putfield 60, 3, 1135)) rfl) rfl (gj_wF_in 1100601135 (gj_ct rfl)) rfl (by decide) rfl (by decide) rfl rfl rfl (fun _ => rfl) (fun _ => rfl) (gj_Rq_1 (t := 96) rfl) (gj_Rq_2 (t := 96) rfl) (fun F34 => ?_)
  show gj_G E _ mc_11 p e s m args below meth c _ 139 [some (.ref 81)] [] SI SJ
  refine cs_ord F34 (gj_ckc_o ck_11 rfl (j := 70) (q := (139, .aload_n 0, 1, 0)) rfl rfl) ?_
  show gj_G E _ mc_11 p e s m args below meth c _ 140 [some (.ref 81)] [(.ref 81)] SI SJ
  refine cs_ord F34 (gj_ckc_o ck_11 rfl (j := 71) (q := (140, .bipush 70, 2, 0)) rfl rfl) ?_
  show gj_G E _ mc_11 p e s m args below meth c _ 142 [some (.ref 81)] [(.int (i3 70)), (.ref 81)] SI SJ
  refine cs_arrJ (n := 99) (N := 70) (pc := 142) F34 (gj_ckc_d ck_11 (j := 72) (q := (142, .newarray .long, 2, 2)) rfl) war_long rfl (by decide) (by decide) (by decide) rfl (fun k => hz 99 k (by omega)) (by decide) (by decide) (fun F35 => ?_)
  show gj_G E _ mc_11 p e s m args below meth c _ 144 [some (.ref 81)] [(.ref 99), (.ref 81)] SI SJ
  refine cs_ref (ci := 11) (q := (RX11, TX11, 49)) (o := 81) (k := 36) (v := 99) (idx := 63) (pc := 144) (r2 := gj_Rq 98) F35 hin (gj_ckc_d ck_11 (j := 73) (q := (144, .putfield 63, 3, 1136)) rfl) rfl (gj_wF_in 1100631136 (gj_ct rfl)) rfl (by decide) rfl (by decide) rfl rfl rfl (fun _ => rfl) (fun _ => rfl) (gj_Rq_1 (t := 97) rfl) (gj_Rq_2 (t := 97) rfl) (fun F36 => ?_)
  show gj_G E _ mc_11 p e s m args below meth c _ 147 [some (.ref 81)] [] SI SJ
  refine cs_ord F36 (gj_ckc_o ck_11 rfl (j := 74) (q := (147, .aload_n 0, 1, 0)) rfl rfl) ?_
  show gj_G E _ mc_11 p e s m args below meth c _ 148 [some (.ref 81)] [(.ref 81)] SI SJ
  refine cs_ord F36 (gj_ckc_o ck_11 rfl (j := 75) (q := (148, .sipush 400, 3, 0)) rfl rfl) ?_
  show gj_G E _ mc_11 p e s m args below meth c _ 151 [some (.ref 81)] [(.int (i3 400)), (.ref 81)] SI SJ
  refine cs_arrJ (n := 100) (N := 400) (pc := 151) F36 (gj_ckc_d ck_11 (j := 76) (q := (151, .newarray .long, 2, 2)) rfl) war_long rfl (by decide) (by decide) (by decide) rfl (fun k => hz 100 k (by omega)) (by decide) (by decide) (fun F37 => ?_)
  show gj_G E _ mc_11 p e s m args below meth c _ 153 [some (.ref 81)] [(.ref 100), (.ref 81)] SI SJ
  refine cs_ref (ci := 11) (q := (RX11, TX11, 49)) (o := 81) (k := 45) (v := 100) (idx := 66) (pc := 153) (r2 := gj_Rq 99) F37 hin (gj_ckc_d ck_11 (j := 77) (q := (153, .putfield 66, 3, 1145)) rfl) rfl (gj_wF_in 1100661145 (gj_ct rfl)) rfl (by decide) rfl (by decide) rfl rfl rfl (fun _ => rfl) (fun _ => rfl) (gj_Rq_1 (t := 98) rfl) (gj_Rq_2 (t := 98) rfl) (fun F38 => ?_)
  show gj_G E _ mc_11 p e s m args below meth c _ 156 [some (.ref 81)] [] SI SJ
  refine cs_ord F38 (gj_ckc_o ck_11 rfl (j := 78) (q := (156, .aload_n 0, 1, 0)) rfl rfl) ?_
  show gj_G E _ mc_11 p e s m args below meth c _ 157 [some (.ref 81)] [(.ref 81)] SI SJ
  refine cs_ord F38 (gj_ckc_o ck_11 rfl (j := 79) (q := (157, .sipush 400, 3, 0)) rfl rfl) ?_
  show gj_G E _ mc_11 p e s m args below meth c _ 160 [some (.ref 81)] [(.int (i3 400)), (.ref 81)] SI SJ
  refine cs_arrJ (n := 101) (N := 400) (pc := 160) F38 (gj_ckc_d ck_11 (j := 80) (q := (160, .newarray .long, 2, 2)) rfl) war_long rfl (by decide) (by decide) (by decide) rfl (fun k => hz 101 k (by omega)) (by decide) (by decide) (fun F39 => ?_)
  show gj_G E _ mc_11 p e s m args below meth c _ 162 [some (.ref 81)] [(.ref 101), (.ref 81)] SI SJ
  refine cs_ref (ci := 11) (q := (RX11, TX11, 49)) (o := 81) (k := 46) (v := 101) (idx := 69) (pc := 162) (r2 := gj_Rq 100) F39 hin (gj_ckc_d ck_11 (j := 81) (q := (162, .putfield 69, 3, 1146)) rfl) rfl (gj_wF_in 1100691146 (gj_ct rfl)) rfl (by decide) rfl (by decide) rfl rfl rfl (fun _ => rfl) (fun _ => rfl) (gj_Rq_1 (t := 99) rfl) (gj_Rq_2 (t := 99) rfl) (fun F40 => ?_)
  show gj_G E _ mc_11 p e s m args below meth c _ 165 [some (.ref 81)] [] SI SJ
  refine cs_ord F40 (gj_ckc_o ck_11 rfl (j := 82) (q := (165, .aload_n 0, 1, 0)) rfl rfl) ?_
  show gj_G E _ mc_11 p e s m args below meth c _ 166 [some (.ref 81)] [(.ref 81)] SI SJ
  refine cs_ord F40 (gj_ckc_o ck_11 rfl (j := 83) (q := (166, .sipush 400, 3, 0)) rfl rfl) ?_
  show gj_G E _ mc_11 p e s m args below meth c _ 169 [some (.ref 81)] [(.int (i3 400)), (.ref 81)] SI SJ
  refine cs_arrJ (n := 102) (N := 400) (pc := 169) F40 (gj_ckc_d ck_11 (j := 84) (q := (169, .newarray .long, 2, 2)) rfl) war_long rfl (by decide) (by decide) (by decide) rfl (fun k => hz 102 k (by omega)) (by decide) (by decide) (fun F41 => ?_)
  show gj_G E _ mc_11 p e s m args below meth c _ 171 [some (.ref 81)] [(.ref 102), (.ref 81)] SI SJ
  refine cs_ref (ci := 11) (q := (RX11, TX11, 49)) (o := 81) (k := 47) (v := 102) (idx := 72) (pc := 171) (r2 := gj_Rq 101) F41 hin (gj_ckc_d ck_11 (j := 85) (q := (171, .putfield 72, 3, 1147)) rfl) rfl (gj_wF_in 1100721147 (gj_ct rfl)) rfl (by decide) rfl (by decide) rfl rfl rfl (fun _ => rfl) (fun _ => rfl) (gj_Rq_1 (t := 100) rfl) (gj_Rq_2 (t := 100) rfl) (fun F42 => ?_)
  show gj_G E _ mc_11 p e s m args below meth c _ 174 [some (.ref 81)] [] SI SJ
  refine cs_ord F42 (gj_ckc_o ck_11 rfl (j := 86) (q := (174, .aload_n 0, 1, 0)) rfl rfl) ?_
  show gj_G E _ mc_11 p e s m args below meth c _ 175 [some (.ref 81)] [(.ref 81)] SI SJ
  refine cs_ord F42 (gj_ckc_o ck_11 rfl (j := 87) (q := (175, .getfield 7, 3, 1100)) rfl rfl) ?_
  show gj_G E _ mc_11 p e s m args below meth c _ 178 [some (.ref 81)] [(.ref 82)] SI SJ
  refine cs_ord F42 (gj_ckc_o ck_11 rfl (j := 88) (q := (178, .iconst 0, 1, 0)) rfl rfl) ?_
  show gj_G E _ mc_11 p e s m args below meth c _ 179 [some (.ref 81)] [(.int (i3 0)), (.ref 82)] SI SJ
  refine cs_ord F42 (gj_ckc_o ck_11 rfl (j := 89) (q := (179, .iconst 4, 1, 0)) rfl rfl) ?_
  show gj_G E _ mc_11 p e s m args below meth c _ 180 [some (.ref 81)] [(.int (i3 4)), (.int (i3 0)), (.ref 82)] SI SJ
  refine cs_ord F42 (gj_ckc_o ck_11 rfl (j := 90) (q := (180, .iastore, 1, 0)) rfl rfl) ?_
  refine And.intro ((i3_in (by omega) (by omega)).mpr (by omega) : vp_in (i3 0) 135) ?_
  show gj_G E _ mc_11 p e s m args below meth c _ 181 [some (.ref 81)] [] (gj_u2 SI 82 0 (i3 4)) SJ
  refine cs_ord F42 (gj_ckc_o ck_11 rfl (j := 91) (q := (181, .aload_n 0, 1, 0)) rfl rfl) ?_
  show gj_G E _ mc_11 p e s m args below meth c _ 182 [some (.ref 81)] [(.ref 81)] (gj_u2 SI 82 0 (i3 4)) SJ
  refine cs_ord F42 (gj_ckc_o ck_11 rfl (j := 92) (q := (182, .getfield 7, 3, 1100)) rfl rfl) ?_
  show gj_G E _ mc_11 p e s m args below meth c _ 185 [some (.ref 81)] [(.ref 82)] (gj_u2 SI 82 0 (i3 4)) SJ
  refine cs_ord F42 (gj_ckc_o ck_11 rfl (j := 93) (q := (185, .iconst 2, 1, 0)) rfl rfl) ?_
  show gj_G E _ mc_11 p e s m args below meth c _ 186 [some (.ref 81)] [(.int (i3 2)), (.ref 82)] (gj_u2 SI 82 0 (i3 4)) SJ
  refine cs_ord F42 (gj_ckc_o ck_11 rfl (j := 94) (q := (186, .iconst 4, 1, 0)) rfl rfl) ?_
  show gj_G E _ mc_11 p e s m args below meth c _ 187 [some (.ref 81)] [(.int (i3 4)), (.int (i3 2)), (.ref 82)] (gj_u2 SI 82 0 (i3 4)) SJ
  refine cs_ord F42 (gj_ckc_o ck_11 rfl (j := 95) (q := (187, .iastore, 1, 0)) rfl rfl) ?_
  refine And.intro ((i3_in (by omega) (by omega)).mpr (by omega) : vp_in (i3 2) 135) ?_
  show gj_G E _ mc_11 p e s m args below meth c _ 188 [some (.ref 81)] [] (gj_u2 (gj_u2 SI 82 0 (i3 4)) 82 2 (i3 4)) SJ
  refine cs_ord F42 (gj_ckc_o ck_11 rfl (j := 96) (q := (188, .aload_n 0, 1, 0)) rfl rfl) ?_
  show gj_G E _ mc_11 p e s m args below meth c _ 189 [some (.ref 81)] [(.ref 81)] (gj_u2 (gj_u2 SI 82 0 (i3 4)) 82 2 (i3 4)) SJ
  refine cs_ord F42 (gj_ckc_o ck_11 rfl (j := 97) (q := (189, .getfield 7, 3, 1100)) rfl rfl) ?_
  show gj_G E _ mc_11 p e s m args below meth c _ 192 [some (.ref 81)] [(.ref 82)] (gj_u2 (gj_u2 SI 82 0 (i3 4)) 82 2 (i3 4)) SJ
  refine cs_ord F42 (gj_ckc_o ck_11 rfl (j := 98) (q := (192, .iconst 3, 1, 0)) rfl rfl) ?_
  show gj_G E _ mc_11 p e s m args below meth c _ 193 [some (.ref 81)] [(.int (i3 3)), (.ref 82)] (gj_u2 (gj_u2 SI 82 0 (i3 4)) 82 2 (i3 4)) SJ
  refine cs_ord F42 (gj_ckc_o ck_11 rfl (j := 99) (q := (193, .iconst 4, 1, 0)) rfl rfl) ?_
  show gj_G E _ mc_11 p e s m args below meth c _ 194 [some (.ref 81)] [(.int (i3 4)), (.int (i3 3)), (.ref 82)] (gj_u2 (gj_u2 SI 82 0 (i3 4)) 82 2 (i3 4)) SJ
  refine cs_ord F42 (gj_ckc_o ck_11 rfl (j := 100) (q := (194, .iastore, 1, 0)) rfl rfl) ?_
  refine And.intro ((i3_in (by omega) (by omega)).mpr (by omega) : vp_in (i3 3) 135) ?_
  show gj_G E _ mc_11 p e s m args below meth c _ 195 [some (.ref 81)] [] (gj_u2 (gj_u2 (gj_u2 SI 82 0 (i3 4)) 82 2 (i3 4)) 82 3 (i3 4)) SJ
  refine cs_ord F42 (gj_ckc_o ck_11 rfl (j := 101) (q := (195, .aload_n 0, 1, 0)) rfl rfl) ?_
  show gj_G E _ mc_11 p e s m args below meth c _ 196 [some (.ref 81)] [(.ref 81)] (gj_u2 (gj_u2 (gj_u2 SI 82 0 (i3 4)) 82 2 (i3 4)) 82 3 (i3 4)) SJ
  refine cs_ord F42 (gj_ckc_o ck_11 rfl (j := 102) (q := (196, .getfield 7, 3, 1100)) rfl rfl) ?_
  show gj_G E _ mc_11 p e s m args below meth c _ 199 [some (.ref 81)] [(.ref 82)] (gj_u2 (gj_u2 (gj_u2 SI 82 0 (i3 4)) 82 2 (i3 4)) 82 3 (i3 4)) SJ
  refine cs_ord F42 (gj_ckc_o ck_11 rfl (j := 103) (q := (199, .bipush 11, 2, 0)) rfl rfl) ?_
  show gj_G E _ mc_11 p e s m args below meth c _ 201 [some (.ref 81)] [(.int (i3 11)), (.ref 82)] (gj_u2 (gj_u2 (gj_u2 SI 82 0 (i3 4)) 82 2 (i3 4)) 82 3 (i3 4)) SJ
  refine cs_ord F42 (gj_ckc_o ck_11 rfl (j := 104) (q := (201, .iconst 4, 1, 0)) rfl rfl) ?_
  show gj_G E _ mc_11 p e s m args below meth c _ 202 [some (.ref 81)] [(.int (i3 4)), (.int (i3 11)), (.ref 82)] (gj_u2 (gj_u2 (gj_u2 SI 82 0 (i3 4)) 82 2 (i3 4)) 82 3 (i3 4)) SJ
  refine cs_ord F42 (gj_ckc_o ck_11 rfl (j := 105) (q := (202, .iastore, 1, 0)) rfl rfl) ?_
  refine And.intro ((i3_in (by omega) (by omega)).mpr (by omega) : vp_in (i3 11) 135) ?_
  show gj_G E _ mc_11 p e s m args below meth c _ 203 [some (.ref 81)] [] (gj_u2 (gj_u2 (gj_u2 (gj_u2 SI 82 0 (i3 4)) 82 2 (i3 4)) 82 3 (i3 4)) 82 11 (i3 4)) SJ
  refine cs_ord F42 (gj_ckc_o ck_11 rfl (j := 106) (q := (203, .aload_n 0, 1, 0)) rfl rfl) ?_
  show gj_G E _ mc_11 p e s m args below meth c _ 204 [some (.ref 81)] [(.ref 81)] (gj_u2 (gj_u2 (gj_u2 (gj_u2 SI 82 0 (i3 4)) 82 2 (i3 4)) 82 3 (i3 4)) 82 11 (i3 4)) SJ
  refine cs_ord F42 (gj_ckc_o ck_11 rfl (j := 107) (q := (204, .getfield 7, 3, 1100)) rfl rfl) ?_
  show gj_G E _ mc_11 p e s m args below meth c _ 207 [some (.ref 81)] [(.ref 82)] (gj_u2 (gj_u2 (gj_u2 (gj_u2 SI 82 0 (i3 4)) 82 2 (i3 4)) 82 3 (i3 4)) 82 11 (i3 4)) SJ
  refine cs_ord F42 (gj_ckc_o ck_11 rfl (j := 108) (q := (207, .bipush 12, 2, 0)) rfl rfl) ?_
  show gj_G E _ mc_11 p e s m args below meth c _ 209 [some (.ref 81)] [(.int (i3 12)), (.ref 82)] (gj_u2 (gj_u2 (gj_u2 (gj_u2 SI 82 0 (i3 4)) 82 2 (i3 4)) 82 3 (i3 4)) 82 11 (i3 4)) SJ
  refine cs_ord F42 (gj_ckc_o ck_11 rfl (j := 109) (q := (209, .iconst 4, 1, 0)) rfl rfl) ?_
  show gj_G E _ mc_11 p e s m args below meth c _ 210 [some (.ref 81)] [(.int (i3 4)), (.int (i3 12)), (.ref 82)] (gj_u2 (gj_u2 (gj_u2 (gj_u2 SI 82 0 (i3 4)) 82 2 (i3 4)) 82 3 (i3 4)) 82 11 (i3 4)) SJ
  refine cs_ord F42 (gj_ckc_o ck_11 rfl (j := 110) (q := (210, .iastore, 1, 0)) rfl rfl) ?_
  refine And.intro ((i3_in (by omega) (by omega)).mpr (by omega) : vp_in (i3 12) 135) ?_
  show gj_G E _ mc_11 p e s m args below meth c _ 211 [some (.ref 81)] [] (gj_u2 (gj_u2 (gj_u2 (gj_u2 (gj_u2 SI 82 0 (i3 4)) 82 2 (i3 4)) 82 3 (i3 4)) 82 11 (i3 4)) 82 12 (i3 4)) SJ
  refine cs_ord F42 (gj_ckc_o ck_11 rfl (j := 111) (q := (211, .aload_n 0, 1, 0)) rfl rfl) ?_
  show gj_G E _ mc_11 p e s m args below meth c _ 212 [some (.ref 81)] [(.ref 81)] (gj_u2 (gj_u2 (gj_u2 (gj_u2 (gj_u2 SI 82 0 (i3 4)) 82 2 (i3 4)) 82 3 (i3 4)) 82 11 (i3 4)) 82 12 (i3 4)) SJ
  refine cs_ord F42 (gj_ckc_o ck_11 rfl (j := 112) (q := (212, .getfield 7, 3, 1100)) rfl rfl) ?_
  show gj_G E _ mc_11 p e s m args below meth c _ 215 [some (.ref 81)] [(.ref 82)] (gj_u2 (gj_u2 (gj_u2 (gj_u2 (gj_u2 SI 82 0 (i3 4)) 82 2 (i3 4)) 82 3 (i3 4)) 82 11 (i3 4)) 82 12 (i3 4)) SJ
  refine cs_ord F42 (gj_ckc_o ck_11 rfl (j := 113) (q := (215, .bipush 30, 2, 0)) rfl rfl) ?_
  show gj_G E _ mc_11 p e s m args below meth c _ 217 [some (.ref 81)] [(.int (i3 30)), (.ref 82)] (gj_u2 (gj_u2 (gj_u2 (gj_u2 (gj_u2 SI 82 0 (i3 4)) 82 2 (i3 4)) 82 3 (i3 4)) 82 11 (i3 4)) 82 12 (i3 4)) SJ
  refine cs_ord F42 (gj_ckc_o ck_11 rfl (j := 114) (q := (217, .iconst 1, 1, 0)) rfl rfl) ?_
  show gj_G E _ mc_11 p e s m args below meth c _ 218 [some (.ref 81)] [(.int (i3 1)), (.int (i3 30)), (.ref 82)] (gj_u2 (gj_u2 (gj_u2 (gj_u2 (gj_u2 SI 82 0 (i3 4)) 82 2 (i3 4)) 82 3 (i3 4)) 82 11 (i3 4)) 82 12 (i3 4)) SJ
  refine cs_ord F42 (gj_ckc_o ck_11 rfl (j := 115) (q := (218, .iastore, 1, 0)) rfl rfl) ?_
  refine And.intro ((i3_in (by omega) (by omega)).mpr (by omega) : vp_in (i3 30) 135) ?_
  show gj_G E _ mc_11 p e s m args below meth c _ 219 [some (.ref 81)] [] (gj_u2 (gj_u2 (gj_u2 (gj_u2 (gj_u2 (gj_u2 SI 82 0 (i3 4)) 82 2 (i3 4)) 82 3 (i3 4)) 82 11 (i3 4)) 82 12 (i3 4)) 82 30 (i3 1)) SJ
  refine cs_ord F42 (gj_ckc_o ck_11 rfl (j := 116) (q := (219, .aload_n 0, 1, 0)) rfl rfl) ?_
  show gj_G E _ mc_11 p e s m args below meth c _ 220 [some (.ref 81)] [(.ref 81)] (gj_u2 (gj_u2 (gj_u2 (gj_u2 (gj_u2 (gj_u2 SI 82 0 (i3 4)) 82 2 (i3 4)) 82 3 (i3 4)) 82 11 (i3 4)) 82 12 (i3 4)) 82 30 (i3 1)) SJ
  refine cs_ord F42 (gj_ckc_o ck_11 rfl (j := 117) (q := (220, .getfield 7, 3, 1100)) rfl rfl) ?_
  show gj_G E _ mc_11 p e s m args below meth c _ 223 [some (.ref 81)] [(.ref 82)] (gj_u2 (gj_u2 (gj_u2 (gj_u2 (gj_u2 (gj_u2 SI 82 0 (i3 4)) 82 2 (i3 4)) 82 3 (i3 4)) 82 11 (i3 4)) 82 12 (i3 4)) 82 30 (i3 1)) SJ
  refine cs_ord F42 (gj_ckc_o ck_11 rfl (j := 118) (q := (223, .bipush 31, 2, 0)) rfl rfl) ?_
  show gj_G E _ mc_11 p e s m args below meth c _ 225 [some (.ref 81)] [(.int (i3 31)), (.ref 82)] (gj_u2 (gj_u2 (gj_u2 (gj_u2 (gj_u2 (gj_u2 SI 82 0 (i3 4)) 82 2 (i3 4)) 82 3 (i3 4)) 82 11 (i3 4)) 82 12 (i3 4)) 82 30 (i3 1)) SJ
  refine cs_ord F42 (gj_ckc_o ck_11 rfl (j := 119) (q := (225, .iconst 1, 1, 0)) rfl rfl) ?_
  show gj_G E _ mc_11 p e s m args below meth c _ 226 [some (.ref 81)] [(.int (i3 1)), (.int (i3 31)), (.ref 82)] (gj_u2 (gj_u2 (gj_u2 (gj_u2 (gj_u2 (gj_u2 SI 82 0 (i3 4)) 82 2 (i3 4)) 82 3 (i3 4)) 82 11 (i3 4)) 82 12 (i3 4)) 82 30 (i3 1)) SJ
  refine cs_ord F42 (gj_ckc_o ck_11 rfl (j := 120) (q := (226, .iastore, 1, 0)) rfl rfl) ?_
  refine And.intro ((i3_in (by omega) (by omega)).mpr (by omega) : vp_in (i3 31) 135) ?_
  show gj_G E _ mc_11 p e s m args below meth c _ 227 [some (.ref 81)] [] (gj_u2 (gj_u2 (gj_u2 (gj_u2 (gj_u2 (gj_u2 (gj_u2 SI 82 0 (i3 4)) 82 2 (i3 4)) 82 3 (i3 4)) 82 11 (i3 4)) 82 12 (i3 4)) 82 30 (i3 1)) 82 31 (i3 1)) SJ
  refine cs_ord F42 (gj_ckc_o ck_11 rfl (j := 121) (q := (227, .aload_n 0, 1, 0)) rfl rfl) ?_
  show gj_G E _ mc_11 p e s m args below meth c _ 228 [some (.ref 81)] [(.ref 81)] (gj_u2 (gj_u2 (gj_u2 (gj_u2 (gj_u2 (gj_u2 (gj_u2 SI 82 0 (i3 4)) 82 2 (i3 4)) 82 3 (i3 4)) 82 11 (i3 4)) 82 12 (i3 4)) 82 30 (i3 1)) 82 31 (i3 1)) SJ
  refine cs_ord F42 (gj_ckc_o ck_11 rfl (j := 122) (q := (228, .getfield 7, 3, 1100)) rfl rfl) ?_
  show gj_G E _ mc_11 p e s m args below meth c _ 231 [some (.ref 81)] [(.ref 82)] (gj_u2 (gj_u2 (gj_u2 (gj_u2 (gj_u2 (gj_u2 (gj_u2 SI 82 0 (i3 4)) 82 2 (i3 4)) 82 3 (i3 4)) 82 11 (i3 4)) 82 12 (i3 4)) 82 30 (i3 1)) 82 31 (i3 1)) SJ
  refine cs_ord F42 (gj_ckc_o ck_11 rfl (j := 123) (q := (231, .bipush 32, 2, 0)) rfl rfl) ?_
  show gj_G E _ mc_11 p e s m args below meth c _ 233 [some (.ref 81)] [(.int (i3 32)), (.ref 82)] (gj_u2 (gj_u2 (gj_u2 (gj_u2 (gj_u2 (gj_u2 (gj_u2 SI 82 0 (i3 4)) 82 2 (i3 4)) 82 3 (i3 4)) 82 11 (i3 4)) 82 12 (i3 4)) 82 30 (i3 1)) 82 31 (i3 1)) SJ
  refine cs_ord F42 (gj_ckc_o ck_11 rfl (j := 124) (q := (233, .iconst 2, 1, 0)) rfl rfl) ?_
  show gj_G E _ mc_11 p e s m args below meth c _ 234 [some (.ref 81)] [(.int (i3 2)), (.int (i3 32)), (.ref 82)] (gj_u2 (gj_u2 (gj_u2 (gj_u2 (gj_u2 (gj_u2 (gj_u2 SI 82 0 (i3 4)) 82 2 (i3 4)) 82 3 (i3 4)) 82 11 (i3 4)) 82 12 (i3 4)) 82 30 (i3 1)) 82 31 (i3 1)) SJ
  refine cs_ord F42 (gj_ckc_o ck_11 rfl (j := 125) (q := (234, .iastore, 1, 0)) rfl rfl) ?_
  refine And.intro ((i3_in (by omega) (by omega)).mpr (by omega) : vp_in (i3 32) 135) ?_
  show gj_G E _ mc_11 p e s m args below meth c _ 235 [some (.ref 81)] [] (gj_u2 (gj_u2 (gj_u2 (gj_u2 (gj_u2 (gj_u2 (gj_u2 (gj_u2 SI 82 0 (i3 4)) 82 2 (i3 4)) 82 3 (i3 4)) 82 11 (i3 4)) 82 12 (i3 4)) 82 30 (i3 1)) 82 31 (i3 1)) 82 32 (i3 2)) SJ
  refine cs_ord F42 (gj_ckc_o ck_11 rfl (j := 126) (q := (235, .aload_n 0, 1, 0)) rfl rfl) ?_
  show gj_G E _ mc_11 p e s m args below meth c _ 236 [some (.ref 81)] [(.ref 81)] (gj_u2 (gj_u2 (gj_u2 (gj_u2 (gj_u2 (gj_u2 (gj_u2 (gj_u2 SI 82 0 (i3 4)) 82 2 (i3 4)) 82 3 (i3 4)) 82 11 (i3 4)) 82 12 (i3 4)) 82 30 (i3 1)) 82 31 (i3 1)) 82 32 (i3 2)) SJ
  refine cs_ord F42 (gj_ckc_o ck_11 rfl (j := 127) (q := (236, .getfield 7, 3, 1100)) rfl rfl) ?_
  show gj_G E _ mc_11 p e s m args below meth c _ 239 [some (.ref 81)] [(.ref 82)] (gj_u2 (gj_u2 (gj_u2 (gj_u2 (gj_u2 (gj_u2 (gj_u2 (gj_u2 SI 82 0 (i3 4)) 82 2 (i3 4)) 82 3 (i3 4)) 82 11 (i3 4)) 82 12 (i3 4)) 82 30 (i3 1)) 82 31 (i3 1)) 82 32 (i3 2)) SJ
  refine cs_ord F42 (gj_ckc_o ck_11 rfl (j := 128) (q := (239, .bipush 33, 2, 0)) rfl rfl) ?_
  show gj_G E _ mc_11 p e s m args below meth c _ 241 [some (.ref 81)] [(.int (i3 33)), (.ref 82)] (gj_u2 (gj_u2 (gj_u2 (gj_u2 (gj_u2 (gj_u2 (gj_u2 (gj_u2 SI 82 0 (i3 4)) 82 2 (i3 4)) 82 3 (i3 4)) 82 11 (i3 4)) 82 12 (i3 4)) 82 30 (i3 1)) 82 31 (i3 1)) 82 32 (i3 2)) SJ
  refine cs_ord F42 (gj_ckc_o ck_11 rfl (j := 129) (q := (241, .iconst 2, 1, 0)) rfl rfl) ?_
  show gj_G E _ mc_11 p e s m args below meth c _ 242 [some (.ref 81)] [(.int (i3 2)), (.int (i3 33)), (.ref 82)] (gj_u2 (gj_u2 (gj_u2 (gj_u2 (gj_u2 (gj_u2 (gj_u2 (gj_u2 SI 82 0 (i3 4)) 82 2 (i3 4)) 82 3 (i3 4)) 82 11 (i3 4)) 82 12 (i3 4)) 82 30 (i3 1)) 82 31 (i3 1)) 82 32 (i3 2)) SJ
  refine cs_ord F42 (gj_ckc_o ck_11 rfl (j := 130) (q := (242, .iastore, 1, 0)) rfl rfl) ?_
  refine And.intro ((i3_in (by omega) (by omega)).mpr (by omega) : vp_in (i3 33) 135) ?_
  show gj_G E _ mc_11 p e s m args below meth c _ 243 [some (.ref 81)] [] (gj_u2 (gj_u2 (gj_u2 (gj_u2 (gj_u2 (gj_u2 (gj_u2 (gj_u2 (gj_u2 SI 82 0 (i3 4)) 82 2 (i3 4)) 82 3 (i3 4)) 82 11 (i3 4)) 82 12 (i3 4)) 82 30 (i3 1)) 82 31 (i3 1)) 82 32 (i3 2)) 82 33 (i3 2)) SJ
  refine cs_ord F42 (gj_ckc_o ck_11 rfl (j := 131) (q := (243, .aload_n 0, 1, 0)) rfl rfl) ?_
  show gj_G E _ mc_11 p e s m args below meth c _ 244 [some (.ref 81)] [(.ref 81)] (gj_u2 (gj_u2 (gj_u2 (gj_u2 (gj_u2 (gj_u2 (gj_u2 (gj_u2 (gj_u2 SI 82 0 (i3 4)) 82 2 (i3 4)) 82 3 (i3 4)) 82 11 (i3 4)) 82 12 (i3 4)) 82 30 (i3 1)) 82 31 (i3 1)) 82 32 (i3 2)) 82 33 (i3 2)) SJ
  refine cs_ord F42 (gj_ckc_o ck_11 rfl (j := 132) (q := (244, .getfield 7, 3, 1100)) rfl rfl) ?_
  show gj_G E _ mc_11 p e s m args below meth c _ 247 [some (.ref 81)] [(.ref 82)] (gj_u2 (gj_u2 (gj_u2 (gj_u2 (gj_u2 (gj_u2 (gj_u2 (gj_u2 (gj_u2 SI 82 0 (i3 4)) 82 2 (i3 4)) 82 3 (i3 4)) 82 11 (i3 4)) 82 12 (i3 4)) 82 30 (i3 1)) 82 31 (i3 1)) 82 32 (i3 2)) 82 33 (i3 2)) SJ
  refine cs_ord F42 (gj_ckc_o ck_11 rfl (j := 133) (q := (247, .bipush 34, 2, 0)) rfl rfl) ?_
  show gj_G E _ mc_11 p e s m args below meth c _ 249 [some (.ref 81)] [(.int (i3 34)), (.ref 82)] (gj_u2 (gj_u2 (gj_u2 (gj_u2 (gj_u2 (gj_u2 (gj_u2 (gj_u2 (gj_u2 SI 82 0 (i3 4)) 82 2 (i3 4)) 82 3 (i3 4)) 82 11 (i3 4)) 82 12 (i3 4)) 82 30 (i3 1)) 82 31 (i3 1)) 82 32 (i3 2)) 82 33 (i3 2)) SJ
  refine cs_ord F42 (gj_ckc_o ck_11 rfl (j := 134) (q := (249, .iconst 1, 1, 0)) rfl rfl) ?_
  show gj_G E _ mc_11 p e s m args below meth c _ 250 [some (.ref 81)] [(.int (i3 1)), (.int (i3 34)), (.ref 82)] (gj_u2 (gj_u2 (gj_u2 (gj_u2 (gj_u2 (gj_u2 (gj_u2 (gj_u2 (gj_u2 SI 82 0 (i3 4)) 82 2 (i3 4)) 82 3 (i3 4)) 82 11 (i3 4)) 82 12 (i3 4)) 82 30 (i3 1)) 82 31 (i3 1)) 82 32 (i3 2)) 82 33 (i3 2)) SJ
  refine cs_ord F42 (gj_ckc_o ck_11 rfl (j := 135) (q := (250, .iastore, 1, 0)) rfl rfl) ?_
  refine And.intro ((i3_in (by omega) (by omega)).mpr (by omega) : vp_in (i3 34) 135) ?_
  show gj_G E _ mc_11 p e s m args below meth c _ 251 [some (.ref 81)] [] (gj_u2 (gj_u2 (gj_u2 (gj_u2 (gj_u2 (gj_u2 (gj_u2 (gj_u2 (gj_u2 (gj_u2 SI 82 0 (i3 4)) 82 2 (i3 4)) 82 3 (i3 4)) 82 11 (i3 4)) 82 12 (i3 4)) 82 30 (i3 1)) 82 31 (i3 1)) 82 32 (i3 2)) 82 33 (i3 2)) 82 34 (i3 1)) SJ
  refine cs_ret F42 (gj_ckc_d ck_11 (j := 136) (q := (251, .return_, 1, 0)) rfl) rfl ?_
  have fF : FI (Lk 81 82 103) SI (gj_u2 (gj_u2 (gj_u2 (gj_u2 (gj_u2 (gj_u2 (gj_u2 (gj_u2 (gj_u2 (gj_u2 SI 82 0 (i3 4)) 82 2 (i3 4)) 82 3 (i3 4)) 82 11 (i3 4)) 82 12 (i3 4)) 82 30 (i3 1)) 82 31 (i3 1)) 82 32 (i3 2)) 82 33 (i3 2)) 82 34 (i3 1)) := (((((((((((FI.rf : FI (Lk 81 82 103) SI SI).u (by unfold Lk; omega)).u (by unfold Lk; omega)).u (by unfold Lk; omega)).u (by unfold Lk; omega)).u (by unfold Lk; omega)).u (by unfold Lk; omega)).u (by unfold Lk; omega)).u (by unfold Lk; omega)).u (by unfold Lk; omega)).u (by unfold Lk; omega))
  have gF : FJ (Lk 81 82 103) SJ SJ := (FJ.rf : FJ (Lk 81 82 103) SJ SJ)
  have zF : ZZ 103 (gj_u2 (gj_u2 (gj_u2 (gj_u2 (gj_u2 (gj_u2 (gj_u2 (gj_u2 (gj_u2 (gj_u2 SI 82 0 (i3 4)) 82 2 (i3 4)) 82 3 (i3 4)) 82 11 (i3 4)) 82 12 (i3 4)) 82 30 (i3 1)) 82 31 (i3 1)) 82 32 (i3 2)) 82 33 (i3 2)) 82 34 (i3 1)) SJ := (((((((((((hz.le (by omega) : ZZ 103 SI SJ).u (by omega)).u (by omega)).u (by omega)).u (by omega)).u (by omega)).u (by omega)).u (by omega)).u (by omega)).u (by omega)).u (by omega))
  have r0 : RF (fun _ => 0) SI := fun k _ => (hz 82 k (by omega)).1
  exact ⟨zF, fF, gF, (RF.u (RF.u (RF.u (RF.u (RF.u (RF.u (RF.u (RF.u (RF.u (RF.u r0 0 4 rfl) 2 4 rfl) 3 4 rfl) 11 4 rfl) 12 4 rfl) 30 1 rfl) 31 1 rfl) 32 2 rfl) 33 2 rfl) 34 1 rfl), fun k => (hz 83 k (by omega)).1, fun k => (hz 89 k (by omega)).1, hs 13, hs 3⟩
