/-! 21.vcA: what the machine asks of each method, from its entry (st_) and from each loop head (lp_): printed by a program, checked by the kernel -/
set_option maxRecDepth 20000 in
/-- GraspJudge$Bundle.clear -/
theorem st_0_42 {E : gj_E} {Q : gj_I → gj_J → Prop} (SI : gj_I) (SJ : gj_J) (h : Q (gj_u2 SI 42 9 (i3 0)) SJ) : DoV E 0 [(.ref 42)] SI SJ Q := by
  refine gj_start (M := mt_0) ok_0 (Nat.le_of_ble_eq_true rfl) ?_
  refine gj_goq gj_clT ok_0 [] ?_
  show QV Q none (gj_u2 SI 42 9 (i3 0)) SJ
  exact ⟨rfl, h⟩
set_option maxRecDepth 20000 in
theorem st_0_66 {E : gj_E} {Q : gj_I → gj_J → Prop} (SI : gj_I) (SJ : gj_J) (h : Q (gj_u2 SI 66 9 (i3 0)) SJ) : DoV E 0 [(.ref 66)] SI SJ Q := by
  refine gj_start (M := mt_0) ok_0 (Nat.le_of_ble_eq_true rfl) ?_
  refine gj_goq gj_clT ok_0 [] ?_
  show QV Q none (gj_u2 SI 66 9 (i3 0)) SJ
  exact ⟨rfl, h⟩
set_option maxRecDepth 20000 in
/-- GraspJudge$Bundle.add -/
theorem st_1_42 {E : gj_E} {Q : gj_I → gj_J → Prop} (a1 : Int32) (a2 : Int32) (a3 : Int32) (a4 : Int32) (SI : gj_I) (SJ : gj_J) (h : ((SI 42 9) < (i3 14) → vp_in (SI 42 9) 14 ∧ (Q (gj_u2 (gj_u2 SI 46 (gj_n (SI 42 9)) a1) 42 9 ((SI 42 9) + (i3 1))) (gj_w2 (gj_w2 (gj_w2 SJ 43 (gj_n (SI 42 9)) (a2).toInt64) 44 (gj_n (SI 42 9)) (a3).toInt64) 45 (gj_n (SI 42 9)) (a4).toInt64))) ∧ (¬ (SI 42 9) < (i3 14) → Q SI SJ)) : DoV E 1 [(.ref 42), (.int a1), (.int a2), (.int a3), (.int a4)] SI SJ Q := by
  refine gj_start (M := mt_1) ok_1 (Nat.le_of_ble_eq_true rfl) ?_
  refine gj_goq gj_clT ok_1 [] ?_
  show ((SI 42 9) < (i3 14) → gj_Goes E om0 mt_1 10 [some (.ref 42), some (.int a1), some (.int a2), some (.int a3), some (.int a4)] [] SI SJ (QV Q)) ∧ (¬ (SI 42 9) < (i3 14) → QV Q none SI SJ)
  refine ⟨fun c1 => ?_, fun c1 => ?_⟩
  · refine gj_goq gj_clT ok_1 [] ?_
    show vp_in (SI 42 9) 14 ∧ (vp_in (SI 42 9) 14 ∧ (vp_in (SI 42 9) 14 ∧ (vp_in (SI 42 9) 14 ∧ (QV Q none (gj_u2 (gj_u2 SI 46 (gj_n (SI 42 9)) a1) 42 9 ((SI 42 9) + (i3 1))) (gj_w2 (gj_w2 (gj_w2 SJ 43 (gj_n (SI 42 9)) (a2).toInt64) 44 (gj_n (SI 42 9)) (a3).toInt64) 45 (gj_n (SI 42 9)) (a4).toInt64)))))
    have k2 := (h.1 c1).1
    refine ⟨k2, ?_⟩
    refine ⟨k2, ?_⟩
    refine ⟨k2, ?_⟩
    refine ⟨k2, ?_⟩
    exact ⟨rfl, (h.1 c1).2⟩
  · exact ⟨rfl, (h.2 c1)⟩
set_option maxRecDepth 20000 in
theorem st_1_66 {E : gj_E} {Q : gj_I → gj_J → Prop} (a1 : Int32) (a2 : Int32) (a3 : Int32) (a4 : Int32) (SI : gj_I) (SJ : gj_J) (h : ((SI 66 9) < (i3 14) → vp_in (SI 66 9) 14 ∧ (Q (gj_u2 (gj_u2 SI 70 (gj_n (SI 66 9)) a1) 66 9 ((SI 66 9) + (i3 1))) (gj_w2 (gj_w2 (gj_w2 SJ 67 (gj_n (SI 66 9)) (a2).toInt64) 68 (gj_n (SI 66 9)) (a3).toInt64) 69 (gj_n (SI 66 9)) (a4).toInt64))) ∧ (¬ (SI 66 9) < (i3 14) → Q SI SJ)) : DoV E 1 [(.ref 66), (.int a1), (.int a2), (.int a3), (.int a4)] SI SJ Q := by
  refine gj_start (M := mt_1) ok_1 (Nat.le_of_ble_eq_true rfl) ?_
  refine gj_goq gj_clT ok_1 [] ?_
  show ((SI 66 9) < (i3 14) → gj_Goes E om0 mt_1 10 [some (.ref 66), some (.int a1), some (.int a2), some (.int a3), some (.int a4)] [] SI SJ (QV Q)) ∧ (¬ (SI 66 9) < (i3 14) → QV Q none SI SJ)
  refine ⟨fun c1 => ?_, fun c1 => ?_⟩
  · refine gj_goq gj_clT ok_1 [] ?_
    show vp_in (SI 66 9) 14 ∧ (vp_in (SI 66 9) 14 ∧ (vp_in (SI 66 9) 14 ∧ (vp_in (SI 66 9) 14 ∧ (QV Q none (gj_u2 (gj_u2 SI 70 (gj_n (SI 66 9)) a1) 66 9 ((SI 66 9) + (i3 1))) (gj_w2 (gj_w2 (gj_w2 SJ 67 (gj_n (SI 66 9)) (a2).toInt64) 68 (gj_n (SI 66 9)) (a3).toInt64) 69 (gj_n (SI 66 9)) (a4).toInt64)))))
    have k2 := (h.1 c1).1
    refine ⟨k2, ?_⟩
    refine ⟨k2, ?_⟩
    refine ⟨k2, ?_⟩
    refine ⟨k2, ?_⟩
    exact ⟨rfl, (h.1 c1).2⟩
  · exact ⟨rfl, (h.2 c1)⟩
set_option maxRecDepth 20000 in
/-- GraspJudge$Bundle.couple -/
theorem st_2 {E : gj_E} {Q : Int32 → gj_I → gj_J → Prop} (a1 : Int32) (a2 : Int32) (SI : gj_I) (SJ : gj_J) (h : Q (((a2 * (a2 - (i3 1))) / (i3 2)) + a1) SI SJ) : DoI E 2 [(.int a1), (.int a2)] SI SJ Q := by
  refine gj_start (M := mt_2) ok_2 (Nat.le_of_ble_eq_true rfl) ?_
  refine gj_goq gj_clT ok_2 [] ?_
  show ¬ (i3 2) = 0 ∧ (QI Q (some (.int (((a2 * (a2 - (i3 1))) / (i3 2)) + a1))) SI SJ)
  refine ⟨(by decide), ?_⟩
  exact ⟨_, rfl, h⟩
set_option maxRecDepth 20000 in
/-- GraspJudge$Bundle.everyone -/
theorem st_3_42 {E : gj_E} {Q : Int32 → gj_I → gj_J → Prop} (SI : gj_I) (SJ : gj_J) (h : Q (((i3 1) <<< ((SI 42 9) &&& 31)) - (i3 1)) SI SJ) : DoI E 3 [(.ref 42)] SI SJ Q := by
  refine gj_start (M := mt_3) ok_3 (Nat.le_of_ble_eq_true rfl) ?_
  refine gj_goq gj_clT ok_3 [] ?_
  show QI Q (some (.int (((i3 1) <<< ((SI 42 9) &&& 31)) - (i3 1)))) SI SJ
  exact ⟨_, rfl, h⟩
set_option maxRecDepth 20000 in
theorem st_3_66 {E : gj_E} {Q : Int32 → gj_I → gj_J → Prop} (SI : gj_I) (SJ : gj_J) (h : Q (((i3 1) <<< ((SI 66 9) &&& 31)) - (i3 1)) SI SJ) : DoI E 3 [(.ref 66)] SI SJ Q := by
  refine gj_start (M := mt_3) ok_3 (Nat.le_of_ble_eq_true rfl) ?_
  refine gj_goq gj_clT ok_3 [] ?_
  show QI Q (some (.int (((i3 1) <<< ((SI 66 9) &&& 31)) - (i3 1)))) SI SJ
  exact ⟨_, rfl, h⟩
set_option maxRecDepth 20000 in
/-- GraspJudge$Bundle.ownedBy -/
theorem st_4 {E : gj_E} {Q : Int32 → gj_I → gj_J → Prop} (a1 : Int32) (SI : gj_I) (SJ : gj_J) (h : GoI E mt_4 4 [some (.ref 42), some (.int a1), some (.int (i3 0)), some (.int (i3 0))] SI SJ Q) : DoI E 4 [(.ref 42), (.int a1)] SI SJ Q := by
  refine gj_start (M := mt_4) ok_4 (Nat.le_of_ble_eq_true rfl) ?_
  refine gj_goq gj_clT ok_4 [4] ?_
  show gj_Goes E om0 mt_4 4 [some (.ref 42), some (.int a1), some (.int (i3 0)), some (.int (i3 0))] [] SI SJ (QI Q)
  exact h
set_option maxRecDepth 20000 in
theorem lp_4_4 {E : gj_E} {Q : Int32 → gj_I → gj_J → Prop} (x1 : Int32) (x2 : Int32) (x3 : Int32) (SI : gj_I) (SJ : gj_J) (h : ((SI 42 9) ≤ x3 → Q x2 SI SJ) ∧ (¬ (SI 42 9) ≤ x3 → vp_in x3 14 ∧ ((¬ ((x1 >>> ((SI 46 (gj_n x3)) &&& 31)) &&& (i3 1)) = (i3 1) → GoI E mt_4 4 [some (.ref 42), some (.int x1), some (.int x2), some (.int (x3 + (i3 1)))] SI SJ Q) ∧ (((x1 >>> ((SI 46 (gj_n x3)) &&& 31)) &&& (i3 1)) = (i3 1) → GoI E mt_4 4 [some (.ref 42), some (.int x1), some (.int (x2 ||| ((i3 1) <<< (x3 &&& 31)))), some (.int (x3 + (i3 1)))] SI SJ Q)))) : GoI E mt_4 4 [some (.ref 42), some (.int x1), some (.int x2), some (.int x3)] SI SJ Q := by
  refine gj_goq gj_clT ok_4 [4] ?_
  show ((SI 42 9) ≤ x3 → gj_Goes E om0 mt_4 38 [some (.ref 42), some (.int x1), some (.int x2), some (.int x3)] [] SI SJ (QI Q)) ∧ (¬ (SI 42 9) ≤ x3 → vp_in x3 14 ∧ ((¬ ((x1 >>> ((SI 46 (gj_n x3)) &&& 31)) &&& (i3 1)) = (i3 1) → gj_Goes E om0 mt_4 32 [some (.ref 42), some (.int x1), some (.int x2), some (.int x3)] [] SI SJ (QI Q)) ∧ (((x1 >>> ((SI 46 (gj_n x3)) &&& 31)) &&& (i3 1)) = (i3 1) → gj_Goes E om0 mt_4 4 [some (.ref 42), some (.int x1), some (.int (x2 ||| ((i3 1) <<< (x3 &&& 31)))), some (.int (x3 + (i3 1)))] [] SI SJ (QI Q))))
  refine ⟨fun c1 => ?_, fun c1 => ?_⟩
  · refine gj_goq gj_clT ok_4 [4] ?_
    show QI Q (some (.int x2)) SI SJ
    exact ⟨_, rfl, (h.1 c1)⟩
  · have k2 := (h.2 c1).1
    refine ⟨k2, ?_⟩
    refine ⟨fun c3 => ?_, fun c3 => ?_⟩
    · refine gj_goq gj_clT ok_4 [4] ?_
      show gj_Goes E om0 mt_4 4 [some (.ref 42), some (.int x1), some (.int x2), some (.int (x3 + (i3 1)))] [] SI SJ (QI Q)
      exact ((h.2 c1).2.1 c3)
    · exact ((h.2 c1).2.2 c3)
set_option maxRecDepth 20000 in
/-- GraspJudge$Bundle.pair -/
theorem st_5_42 {E : gj_E} {Q : gj_I → gj_J → Prop} (SI : gj_I) (SJ : gj_J) (h : GoV E mt_5 2 [some (.ref 42), some (.int (i3 0)), none, none] SI SJ Q) : DoV E 5 [(.ref 42)] SI SJ Q := by
  refine gj_start (M := mt_5) ok_5 (Nat.le_of_ble_eq_true rfl) ?_
  refine gj_goq gj_clT ok_5 [2, 14, 27, 132] ?_
  show gj_Goes E om0 mt_5 2 [some (.ref 42), some (.int (i3 0)), none, none] [] SI SJ (QV Q)
  exact h
set_option maxRecDepth 20000 in
theorem lp_5_2_42 {E : gj_E} {Q : gj_I → gj_J → Prop} (x1 : Int32) (SI : gj_I) (SJ : gj_J) (h : ((SI 42 9) ≤ x1 → Q SI SJ) ∧ (¬ (SI 42 9) ≤ x1 → GoV E mt_5 14 [some (.ref 42), some (.int x1), some (.int (x1 + (i3 1))), none] SI SJ Q)) : GoV E mt_5 2 [some (.ref 42), some (.int x1), none, none] SI SJ Q := by
  refine gj_goq gj_clT ok_5 [2, 14, 27, 132] ?_
  show ((SI 42 9) ≤ x1 → gj_Goes E om0 mt_5 144 [some (.ref 42), some (.int x1), none, none] [] SI SJ (QV Q)) ∧ (¬ (SI 42 9) ≤ x1 → gj_Goes E om0 mt_5 14 [some (.ref 42), some (.int x1), some (.int (x1 + (i3 1))), none] [] SI SJ (QV Q))
  refine ⟨fun c1 => ?_, fun c1 => ?_⟩
  · refine gj_goq gj_clT ok_5 [2, 14, 27, 132] ?_
    show QV Q none SI SJ
    exact ⟨rfl, (h.1 c1)⟩
  · exact (h.2 c1)
set_option maxRecDepth 20000 in
theorem lp_5_14_42 {E : gj_E} {Q : gj_I → gj_J → Prop} (x1 : Int32) (x2 : Int32) (SI : gj_I) (SJ : gj_J) (h : ((SI 42 9) ≤ x2 → GoV E mt_5 2 [some (.ref 42), some (.int (x1 + (i3 1))), none, none] SI SJ Q) ∧ (¬ (SI 42 9) ≤ x2 → DoI E 2 [(.int x1), (.int x2)] SI SJ (fun r1 SI2 SJ2 => vp_in x1 14 ∧ (vp_in x2 14 ∧ (vp_in r1 91 ∧ (DoV E 6 [(.ref 42), (.int r1)] SI2 (gj_w2 (gj_w2 (gj_w2 SJ2 47 (gj_n r1) (((SJ2 44 (gj_n x1)) * (SJ2 45 (gj_n x2))) - ((SJ2 45 (gj_n x1)) * (SJ2 44 (gj_n x2))))) 48 (gj_n r1) (((SJ2 45 (gj_n x1)) * (SJ2 43 (gj_n x2))) - ((SJ2 43 (gj_n x1)) * (SJ2 45 (gj_n x2))))) 49 (gj_n r1) (((SJ2 43 (gj_n x1)) * (SJ2 44 (gj_n x2))) - ((SJ2 44 (gj_n x1)) * (SJ2 43 (gj_n x2))))) (fun SI4 SJ4 => GoV E mt_5 14 [some (.ref 42), some (.int x1), some (.int (x2 + (i3 1))), none] SI4 SJ4 Q))))))) : GoV E mt_5 14 [some (.ref 42), some (.int x1), some (.int x2), none] SI SJ Q := by
  refine gj_goq gj_clT ok_5 [2, 14, 27, 132] ?_
  show ((SI 42 9) ≤ x2 → gj_Goes E om0 mt_5 138 [some (.ref 42), some (.int x1), some (.int x2), none] [] SI SJ (QV Q)) ∧ (¬ (SI 42 9) ≤ x2 → gj_Do E om0 (gj_mt 2) [(.int x1), (.int x2)] SI SJ _)
  refine ⟨fun c1 => ?_, fun c1 => ?_⟩
  · refine gj_goq gj_clT ok_5 [2, 14, 27, 132] ?_
    show gj_Goes E om0 mt_5 2 [some (.ref 42), some (.int (x1 + (i3 1))), some (.int x2), none] [] SI SJ (QV Q)
    exact gj_fh (h.1 c1) (And.intro (Or.inr rfl) (And.intro (Or.inr rfl) (And.intro (Or.inl rfl) (And.intro (Or.inl rfl) trivial))))
  · refine gj_Do.mono (h.2 c1) (fun v_ SI2 SJ2 h_ => ?_)
    obtain ⟨r1, rfl, q2⟩ := h_
    show gj_Goes E om0 mt_5 27 [some (.ref 42), some (.int x1), some (.int x2), none] [(.int r1)] SI2 SJ2 (QV Q)
    refine gj_goq gj_clT ok_5 [2, 14, 27, 132] ?_
    show vp_in x1 14 ∧ (vp_in x2 14 ∧ (vp_in x1 14 ∧ (vp_in x2 14 ∧ (vp_in r1 91 ∧ (vp_in x1 14 ∧ (vp_in x2 14 ∧ (vp_in x1 14 ∧ (vp_in x2 14 ∧ (vp_in r1 91 ∧ (vp_in x1 14 ∧ (vp_in x2 14 ∧ (vp_in x1 14 ∧ (vp_in x2 14 ∧ (vp_in r1 91 ∧ (gj_Do E om0 (gj_mt 6) [(.ref 42), (.int r1)] SI2 (gj_w2 (gj_w2 (gj_w2 SJ2 47 (gj_n r1) (((SJ2 44 (gj_n x1)) * (SJ2 45 (gj_n x2))) - ((SJ2 45 (gj_n x1)) * (SJ2 44 (gj_n x2))))) 48 (gj_n r1) (((SJ2 45 (gj_n x1)) * (SJ2 43 (gj_n x2))) - ((SJ2 43 (gj_n x1)) * (SJ2 45 (gj_n x2))))) 49 (gj_n r1) (((SJ2 43 (gj_n x1)) * (SJ2 44 (gj_n x2))) - ((SJ2 44 (gj_n x1)) * (SJ2 43 (gj_n x2))))) _)))))))))))))))
    have k3 := q2.1
    refine ⟨k3, ?_⟩
    have k4 := q2.2.1
    refine ⟨k4, ?_⟩
    refine ⟨k3, ?_⟩
    refine ⟨k4, ?_⟩
    have k5 := q2.2.2.1
    refine ⟨k5, ?_⟩
    refine ⟨k3, ?_⟩
    refine ⟨k4, ?_⟩
    refine ⟨k3, ?_⟩
    refine ⟨k4, ?_⟩
    refine ⟨k5, ?_⟩
    refine ⟨k3, ?_⟩
    refine ⟨k4, ?_⟩
    refine ⟨k3, ?_⟩
    refine ⟨k4, ?_⟩
    refine ⟨k5, ?_⟩
    refine gj_Do.mono q2.2.2.2 (fun v_ SI4 SJ4 h_ => ?_)
    obtain ⟨rfl, q6⟩ := h_
    show gj_Goes E om0 mt_5 132 [some (.ref 42), some (.int x1), some (.int x2), some (.int r1)] [] SI4 SJ4 (QV Q)
    refine gj_goq gj_clT ok_5 [2, 14, 27, 132] ?_
    show gj_Goes E om0 mt_5 14 [some (.ref 42), some (.int x1), some (.int (x2 + (i3 1))), some (.int r1)] [] SI4 SJ4 (QV Q)
    exact gj_fh q6 (And.intro (Or.inr rfl) (And.intro (Or.inr rfl) (And.intro (Or.inr rfl) (And.intro (Or.inl rfl) trivial))))
set_option maxRecDepth 20000 in
theorem st_5_66 {E : gj_E} {Q : gj_I → gj_J → Prop} (SI : gj_I) (SJ : gj_J) (h : GoV E mt_5 2 [some (.ref 66), some (.int (i3 0)), none, none] SI SJ Q) : DoV E 5 [(.ref 66)] SI SJ Q := by
  refine gj_start (M := mt_5) ok_5 (Nat.le_of_ble_eq_true rfl) ?_
  refine gj_goq gj_clT ok_5 [2, 14, 27, 132] ?_
  show gj_Goes E om0 mt_5 2 [some (.ref 66), some (.int (i3 0)), none, none] [] SI SJ (QV Q)
  exact h
set_option maxRecDepth 20000 in
theorem lp_5_2_66 {E : gj_E} {Q : gj_I → gj_J → Prop} (x1 : Int32) (SI : gj_I) (SJ : gj_J) (h : ((SI 66 9) ≤ x1 → Q SI SJ) ∧ (¬ (SI 66 9) ≤ x1 → GoV E mt_5 14 [some (.ref 66), some (.int x1), some (.int (x1 + (i3 1))), none] SI SJ Q)) : GoV E mt_5 2 [some (.ref 66), some (.int x1), none, none] SI SJ Q := by
  refine gj_goq gj_clT ok_5 [2, 14, 27, 132] ?_
  show ((SI 66 9) ≤ x1 → gj_Goes E om0 mt_5 144 [some (.ref 66), some (.int x1), none, none] [] SI SJ (QV Q)) ∧ (¬ (SI 66 9) ≤ x1 → gj_Goes E om0 mt_5 14 [some (.ref 66), some (.int x1), some (.int (x1 + (i3 1))), none] [] SI SJ (QV Q))
  refine ⟨fun c1 => ?_, fun c1 => ?_⟩
  · refine gj_goq gj_clT ok_5 [2, 14, 27, 132] ?_
    show QV Q none SI SJ
    exact ⟨rfl, (h.1 c1)⟩
  · exact (h.2 c1)
set_option maxRecDepth 20000 in
theorem lp_5_14_66 {E : gj_E} {Q : gj_I → gj_J → Prop} (x1 : Int32) (x2 : Int32) (SI : gj_I) (SJ : gj_J) (h : ((SI 66 9) ≤ x2 → GoV E mt_5 2 [some (.ref 66), some (.int (x1 + (i3 1))), none, none] SI SJ Q) ∧ (¬ (SI 66 9) ≤ x2 → DoI E 2 [(.int x1), (.int x2)] SI SJ (fun r1 SI2 SJ2 => vp_in x1 14 ∧ (vp_in x2 14 ∧ (vp_in r1 91 ∧ (DoV E 6 [(.ref 66), (.int r1)] SI2 (gj_w2 (gj_w2 (gj_w2 SJ2 71 (gj_n r1) (((SJ2 68 (gj_n x1)) * (SJ2 69 (gj_n x2))) - ((SJ2 69 (gj_n x1)) * (SJ2 68 (gj_n x2))))) 72 (gj_n r1) (((SJ2 69 (gj_n x1)) * (SJ2 67 (gj_n x2))) - ((SJ2 67 (gj_n x1)) * (SJ2 69 (gj_n x2))))) 73 (gj_n r1) (((SJ2 67 (gj_n x1)) * (SJ2 68 (gj_n x2))) - ((SJ2 68 (gj_n x1)) * (SJ2 67 (gj_n x2))))) (fun SI4 SJ4 => GoV E mt_5 14 [some (.ref 66), some (.int x1), some (.int (x2 + (i3 1))), none] SI4 SJ4 Q))))))) : GoV E mt_5 14 [some (.ref 66), some (.int x1), some (.int x2), none] SI SJ Q := by
  refine gj_goq gj_clT ok_5 [2, 14, 27, 132] ?_
  show ((SI 66 9) ≤ x2 → gj_Goes E om0 mt_5 138 [some (.ref 66), some (.int x1), some (.int x2), none] [] SI SJ (QV Q)) ∧ (¬ (SI 66 9) ≤ x2 → gj_Do E om0 (gj_mt 2) [(.int x1), (.int x2)] SI SJ _)
  refine ⟨fun c1 => ?_, fun c1 => ?_⟩
  · refine gj_goq gj_clT ok_5 [2, 14, 27, 132] ?_
    show gj_Goes E om0 mt_5 2 [some (.ref 66), some (.int (x1 + (i3 1))), some (.int x2), none] [] SI SJ (QV Q)
    exact gj_fh (h.1 c1) (And.intro (Or.inr rfl) (And.intro (Or.inr rfl) (And.intro (Or.inl rfl) (And.intro (Or.inl rfl) trivial))))
  · refine gj_Do.mono (h.2 c1) (fun v_ SI2 SJ2 h_ => ?_)
    obtain ⟨r1, rfl, q2⟩ := h_
    show gj_Goes E om0 mt_5 27 [some (.ref 66), some (.int x1), some (.int x2), none] [(.int r1)] SI2 SJ2 (QV Q)
    refine gj_goq gj_clT ok_5 [2, 14, 27, 132] ?_
    show vp_in x1 14 ∧ (vp_in x2 14 ∧ (vp_in x1 14 ∧ (vp_in x2 14 ∧ (vp_in r1 91 ∧ (vp_in x1 14 ∧ (vp_in x2 14 ∧ (vp_in x1 14 ∧ (vp_in x2 14 ∧ (vp_in r1 91 ∧ (vp_in x1 14 ∧ (vp_in x2 14 ∧ (vp_in x1 14 ∧ (vp_in x2 14 ∧ (vp_in r1 91 ∧ (gj_Do E om0 (gj_mt 6) [(.ref 66), (.int r1)] SI2 (gj_w2 (gj_w2 (gj_w2 SJ2 71 (gj_n r1) (((SJ2 68 (gj_n x1)) * (SJ2 69 (gj_n x2))) - ((SJ2 69 (gj_n x1)) * (SJ2 68 (gj_n x2))))) 72 (gj_n r1) (((SJ2 69 (gj_n x1)) * (SJ2 67 (gj_n x2))) - ((SJ2 67 (gj_n x1)) * (SJ2 69 (gj_n x2))))) 73 (gj_n r1) (((SJ2 67 (gj_n x1)) * (SJ2 68 (gj_n x2))) - ((SJ2 68 (gj_n x1)) * (SJ2 67 (gj_n x2))))) _)))))))))))))))
    have k3 := q2.1
    refine ⟨k3, ?_⟩
    have k4 := q2.2.1
    refine ⟨k4, ?_⟩
    refine ⟨k3, ?_⟩
    refine ⟨k4, ?_⟩
    have k5 := q2.2.2.1
    refine ⟨k5, ?_⟩
    refine ⟨k3, ?_⟩
    refine ⟨k4, ?_⟩
    refine ⟨k3, ?_⟩
    refine ⟨k4, ?_⟩
    refine ⟨k5, ?_⟩
    refine ⟨k3, ?_⟩
    refine ⟨k4, ?_⟩
    refine ⟨k3, ?_⟩
    refine ⟨k4, ?_⟩
    refine ⟨k5, ?_⟩
    refine gj_Do.mono q2.2.2.2 (fun v_ SI4 SJ4 h_ => ?_)
    obtain ⟨rfl, q6⟩ := h_
    show gj_Goes E om0 mt_5 132 [some (.ref 66), some (.int x1), some (.int x2), some (.int r1)] [] SI4 SJ4 (QV Q)
    refine gj_goq gj_clT ok_5 [2, 14, 27, 132] ?_
    show gj_Goes E om0 mt_5 14 [some (.ref 66), some (.int x1), some (.int (x2 + (i3 1))), some (.int r1)] [] SI4 SJ4 (QV Q)
    exact gj_fh q6 (And.intro (Or.inr rfl) (And.intro (Or.inr rfl) (And.intro (Or.inr rfl) (And.intro (Or.inl rfl) trivial))))
set_option maxRecDepth 20000 in
/-- GraspJudge$Bundle.sort -/
theorem st_6_42 {E : gj_E} {Q : gj_I → gj_J → Prop} (a1 : Int32) (SI : gj_I) (SJ : gj_J) (h : vp_in a1 91 ∧ (GoV E mt_6 32 [some (.ref 42), some (.int a1), some (.long (SJ 47 (gj_n a1))), none, some (.long (SJ 48 (gj_n a1))), none, some (.long (SJ 49 (gj_n a1))), none, some (.int (i3 0)), some (.int (i3 0)), some (.int (i3 0)), none, none] SI SJ Q)) : DoV E 6 [(.ref 42), (.int a1)] SI SJ Q := by
  refine gj_start (M := mt_6) ok_6 (Nat.le_of_ble_eq_true rfl) ?_
  refine gj_goq gj_clT ok_6 [7, 15, 23, 26, 29, 32, 74, 90, 109] ?_
  show vp_in a1 91 ∧ (gj_Goes E om0 mt_6 7 [some (.ref 42), some (.int a1), some (.long (SJ 47 (gj_n a1))), none, none, none, none, none, none, none, none, none, none] [] SI SJ (QV Q))
  have k1 := h.1
  refine ⟨k1, ?_⟩
  refine gj_goq gj_clT ok_6 [7, 15, 23, 26, 29, 32, 74, 90, 109] ?_
  show vp_in a1 91 ∧ (gj_Goes E om0 mt_6 15 [some (.ref 42), some (.int a1), some (.long (SJ 47 (gj_n a1))), none, some (.long (SJ 48 (gj_n a1))), none, none, none, none, none, none, none, none] [] SI SJ (QV Q))
  refine ⟨k1, ?_⟩
  refine gj_goq gj_clT ok_6 [7, 15, 23, 26, 29, 32, 74, 90, 109] ?_
  show vp_in a1 91 ∧ (gj_Goes E om0 mt_6 23 [some (.ref 42), some (.int a1), some (.long (SJ 47 (gj_n a1))), none, some (.long (SJ 48 (gj_n a1))), none, some (.long (SJ 49 (gj_n a1))), none, none, none, none, none, none] [] SI SJ (QV Q))
  refine ⟨k1, ?_⟩
  refine gj_goq gj_clT ok_6 [7, 15, 23, 26, 29, 32, 74, 90, 109] ?_
  show gj_Goes E om0 mt_6 26 [some (.ref 42), some (.int a1), some (.long (SJ 47 (gj_n a1))), none, some (.long (SJ 48 (gj_n a1))), none, some (.long (SJ 49 (gj_n a1))), none, some (.int (i3 0)), none, none, none, none] [] SI SJ (QV Q)
  refine gj_goq gj_clT ok_6 [7, 15, 23, 26, 29, 32, 74, 90, 109] ?_
  show gj_Goes E om0 mt_6 29 [some (.ref 42), some (.int a1), some (.long (SJ 47 (gj_n a1))), none, some (.long (SJ 48 (gj_n a1))), none, some (.long (SJ 49 (gj_n a1))), none, some (.int (i3 0)), some (.int (i3 0)), none, none, none] [] SI SJ (QV Q)
  refine gj_goq gj_clT ok_6 [7, 15, 23, 26, 29, 32, 74, 90, 109] ?_
  show gj_Goes E om0 mt_6 32 [some (.ref 42), some (.int a1), some (.long (SJ 47 (gj_n a1))), none, some (.long (SJ 48 (gj_n a1))), none, some (.long (SJ 49 (gj_n a1))), none, some (.int (i3 0)), some (.int (i3 0)), some (.int (i3 0)), none, none] [] SI SJ (QV Q)
  exact h.2
set_option maxRecDepth 20000 in
theorem lp_6_32_42 {E : gj_E} {Q : gj_I → gj_J → Prop} (x1 : Int32) (x2 : Int64) (x4 : Int64) (x6 : Int64) (x8 : Int32) (x9 : Int32) (x10 : Int32) (SI : gj_I) (SJ : gj_J) (h : ((SI 42 9) ≤ x10 → vp_in x1 91 ∧ (Q (gj_u2 (gj_u2 SI 50 (gj_n x1) x8) 51 (gj_n x1) x9) SJ)) ∧ (¬ (SI 42 9) ≤ x10 → vp_in x10 14 ∧ ((((((SJ 43 (gj_n x10)) * x2) + ((SJ 44 (gj_n x10)) * x4)) + ((SJ 45 (gj_n x10)) * x6)) ≤ (i6 0) → (((((SJ 43 (gj_n x10)) * x2) + ((SJ 44 (gj_n x10)) * x4)) + ((SJ 45 (gj_n x10)) * x6)) ≥ (i6 0) → GoV E mt_6 32 [some (.ref 42), some (.int x1), some (.long x2), none, some (.long x4), none, some (.long x6), none, some (.int x8), some (.int x9), some (.int (x10 + (i3 1))), none, none] SI SJ Q) ∧ (¬ ((((SJ 43 (gj_n x10)) * x2) + ((SJ 44 (gj_n x10)) * x4)) + ((SJ 45 (gj_n x10)) * x6)) ≥ (i6 0) → GoV E mt_6 32 [some (.ref 42), some (.int x1), some (.long x2), none, some (.long x4), none, some (.long x6), none, some (.int x8), some (.int (x9 ||| ((i3 1) <<< (x10 &&& 31)))), some (.int (x10 + (i3 1))), none, none] SI SJ Q)) ∧ (¬ ((((SJ 43 (gj_n x10)) * x2) + ((SJ 44 (gj_n x10)) * x4)) + ((SJ 45 (gj_n x10)) * x6)) ≤ (i6 0) → GoV E mt_6 32 [some (.ref 42), some (.int x1), some (.long x2), none, some (.long x4), none, some (.long x6), none, some (.int (x8 ||| ((i3 1) <<< (x10 &&& 31)))), some (.int x9), some (.int (x10 + (i3 1))), none, none] SI SJ Q)))) : GoV E mt_6 32 [some (.ref 42), some (.int x1), some (.long x2), none, some (.long x4), none, some (.long x6), none, some (.int x8), some (.int x9), some (.int x10), none, none] SI SJ Q := by
  refine gj_goq gj_clT ok_6 [7, 15, 23, 26, 29, 32, 74, 90, 109] ?_
  show ((SI 42 9) ≤ x10 → gj_Goes E om0 mt_6 115 [some (.ref 42), some (.int x1), some (.long x2), none, some (.long x4), none, some (.long x6), none, some (.int x8), some (.int x9), some (.int x10), none, none] [] SI SJ (QV Q)) ∧ (¬ (SI 42 9) ≤ x10 → vp_in x10 14 ∧ (vp_in x10 14 ∧ (vp_in x10 14 ∧ (gj_Goes E om0 mt_6 74 [some (.ref 42), some (.int x1), some (.long x2), none, some (.long x4), none, some (.long x6), none, some (.int x8), some (.int x9), some (.int x10), some (.long ((((SJ 43 (gj_n x10)) * x2) + ((SJ 44 (gj_n x10)) * x4)) + ((SJ 45 (gj_n x10)) * x6))), none] [] SI SJ (QV Q)))))
  refine ⟨fun c1 => ?_, fun c1 => ?_⟩
  · refine gj_goq gj_clT ok_6 [7, 15, 23, 26, 29, 32, 74, 90, 109] ?_
    show vp_in x1 91 ∧ (vp_in x1 91 ∧ (QV Q none (gj_u2 (gj_u2 SI 50 (gj_n x1) x8) 51 (gj_n x1) x9) SJ))
    have k2 := (h.1 c1).1
    refine ⟨k2, ?_⟩
    refine ⟨k2, ?_⟩
    exact ⟨rfl, (h.1 c1).2⟩
  · have k3 := (h.2 c1).1
    refine ⟨k3, ?_⟩
    refine ⟨k3, ?_⟩
    refine ⟨k3, ?_⟩
    refine gj_goq gj_clT ok_6 [7, 15, 23, 26, 29, 32, 74, 90, 109] ?_
    show ((lg_cmp ((((SJ 43 (gj_n x10)) * x2) + ((SJ 44 (gj_n x10)) * x4)) + ((SJ 45 (gj_n x10)) * x6)) (i6 0)) ≤ 0 → gj_Goes E om0 mt_6 93 [some (.ref 42), some (.int x1), some (.long x2), none, some (.long x4), none, some (.long x6), none, some (.int x8), some (.int x9), some (.int x10), some (.long ((((SJ 43 (gj_n x10)) * x2) + ((SJ 44 (gj_n x10)) * x4)) + ((SJ 45 (gj_n x10)) * x6))), none] [] SI SJ (QV Q)) ∧ (¬ (lg_cmp ((((SJ 43 (gj_n x10)) * x2) + ((SJ 44 (gj_n x10)) * x4)) + ((SJ 45 (gj_n x10)) * x6)) (i6 0)) ≤ 0 → gj_Goes E om0 mt_6 90 [some (.ref 42), some (.int x1), some (.long x2), none, some (.long x4), none, some (.long x6), none, some (.int (x8 ||| ((i3 1) <<< (x10 &&& 31)))), some (.int x9), some (.int x10), some (.long ((((SJ 43 (gj_n x10)) * x2) + ((SJ 44 (gj_n x10)) * x4)) + ((SJ 45 (gj_n x10)) * x6))), none] [] SI SJ (QV Q))
    refine ⟨fun c4 => ?_, fun c4 => ?_⟩
    · refine gj_goq gj_clT ok_6 [7, 15, 23, 26, 29, 32, 74, 90, 109] ?_
      show (0 ≤ (lg_cmp ((((SJ 43 (gj_n x10)) * x2) + ((SJ 44 (gj_n x10)) * x4)) + ((SJ 45 (gj_n x10)) * x6)) (i6 0)) → gj_Goes E om0 mt_6 109 [some (.ref 42), some (.int x1), some (.long x2), none, some (.long x4), none, some (.long x6), none, some (.int x8), some (.int x9), some (.int x10), some (.long ((((SJ 43 (gj_n x10)) * x2) + ((SJ 44 (gj_n x10)) * x4)) + ((SJ 45 (gj_n x10)) * x6))), none] [] SI SJ (QV Q)) ∧ (¬ 0 ≤ (lg_cmp ((((SJ 43 (gj_n x10)) * x2) + ((SJ 44 (gj_n x10)) * x4)) + ((SJ 45 (gj_n x10)) * x6)) (i6 0)) → gj_Goes E om0 mt_6 109 [some (.ref 42), some (.int x1), some (.long x2), none, some (.long x4), none, some (.long x6), none, some (.int x8), some (.int (x9 ||| ((i3 1) <<< (x10 &&& 31)))), some (.int x10), some (.long ((((SJ 43 (gj_n x10)) * x2) + ((SJ 44 (gj_n x10)) * x4)) + ((SJ 45 (gj_n x10)) * x6))), none] [] SI SJ (QV Q))
      refine ⟨fun c5 => ?_, fun c5 => ?_⟩
      · refine gj_goq gj_clT ok_6 [7, 15, 23, 26, 29, 32, 74, 90, 109] ?_
        show gj_Goes E om0 mt_6 32 [some (.ref 42), some (.int x1), some (.long x2), none, some (.long x4), none, some (.long x6), none, some (.int x8), some (.int x9), some (.int (x10 + (i3 1))), some (.long ((((SJ 43 (gj_n x10)) * x2) + ((SJ 44 (gj_n x10)) * x4)) + ((SJ 45 (gj_n x10)) * x6))), none] [] SI SJ (QV Q)
        exact gj_fh (((h.2 c1).2.1 (lgc_le.mp c4)).1 (lgc_ge.mp c5)) (And.intro (Or.inr rfl) (And.intro (Or.inr rfl) (And.intro (Or.inr rfl) (And.intro (Or.inl rfl) (And.intro (Or.inr rfl) (And.intro (Or.inl rfl) (And.intro (Or.inr rfl) (And.intro (Or.inl rfl) (And.intro (Or.inr rfl) (And.intro (Or.inr rfl) (And.intro (Or.inr rfl) (And.intro (Or.inl rfl) (And.intro (Or.inl rfl) trivial)))))))))))))
      · refine gj_goq gj_clT ok_6 [7, 15, 23, 26, 29, 32, 74, 90, 109] ?_
        show gj_Goes E om0 mt_6 32 [some (.ref 42), some (.int x1), some (.long x2), none, some (.long x4), none, some (.long x6), none, some (.int x8), some (.int (x9 ||| ((i3 1) <<< (x10 &&& 31)))), some (.int (x10 + (i3 1))), some (.long ((((SJ 43 (gj_n x10)) * x2) + ((SJ 44 (gj_n x10)) * x4)) + ((SJ 45 (gj_n x10)) * x6))), none] [] SI SJ (QV Q)
        exact gj_fh (((h.2 c1).2.1 (lgc_le.mp c4)).2 (fun z_ => c5 (lgc_ge.mpr z_))) (And.intro (Or.inr rfl) (And.intro (Or.inr rfl) (And.intro (Or.inr rfl) (And.intro (Or.inl rfl) (And.intro (Or.inr rfl) (And.intro (Or.inl rfl) (And.intro (Or.inr rfl) (And.intro (Or.inl rfl) (And.intro (Or.inr rfl) (And.intro (Or.inr rfl) (And.intro (Or.inr rfl) (And.intro (Or.inl rfl) (And.intro (Or.inl rfl) trivial)))))))))))))
    · refine gj_goq gj_clT ok_6 [7, 15, 23, 26, 29, 32, 74, 90, 109] ?_
      show gj_Goes E om0 mt_6 109 [some (.ref 42), some (.int x1), some (.long x2), none, some (.long x4), none, some (.long x6), none, some (.int (x8 ||| ((i3 1) <<< (x10 &&& 31)))), some (.int x9), some (.int x10), some (.long ((((SJ 43 (gj_n x10)) * x2) + ((SJ 44 (gj_n x10)) * x4)) + ((SJ 45 (gj_n x10)) * x6))), none] [] SI SJ (QV Q)
      refine gj_goq gj_clT ok_6 [7, 15, 23, 26, 29, 32, 74, 90, 109] ?_
      show gj_Goes E om0 mt_6 32 [some (.ref 42), some (.int x1), some (.long x2), none, some (.long x4), none, some (.long x6), none, some (.int (x8 ||| ((i3 1) <<< (x10 &&& 31)))), some (.int x9), some (.int (x10 + (i3 1))), some (.long ((((SJ 43 (gj_n x10)) * x2) + ((SJ 44 (gj_n x10)) * x4)) + ((SJ 45 (gj_n x10)) * x6))), none] [] SI SJ (QV Q)
      exact gj_fh ((h.2 c1).2.2 (fun z_ => c4 (lgc_le.mpr z_))) (And.intro (Or.inr rfl) (And.intro (Or.inr rfl) (And.intro (Or.inr rfl) (And.intro (Or.inl rfl) (And.intro (Or.inr rfl) (And.intro (Or.inl rfl) (And.intro (Or.inr rfl) (And.intro (Or.inl rfl) (And.intro (Or.inr rfl) (And.intro (Or.inr rfl) (And.intro (Or.inr rfl) (And.intro (Or.inl rfl) (And.intro (Or.inl rfl) trivial)))))))))))))
set_option maxRecDepth 20000 in
theorem st_6_66 {E : gj_E} {Q : gj_I → gj_J → Prop} (a1 : Int32) (SI : gj_I) (SJ : gj_J) (h : vp_in a1 91 ∧ (GoV E mt_6 32 [some (.ref 66), some (.int a1), some (.long (SJ 71 (gj_n a1))), none, some (.long (SJ 72 (gj_n a1))), none, some (.long (SJ 73 (gj_n a1))), none, some (.int (i3 0)), some (.int (i3 0)), some (.int (i3 0)), none, none] SI SJ Q)) : DoV E 6 [(.ref 66), (.int a1)] SI SJ Q := by
  refine gj_start (M := mt_6) ok_6 (Nat.le_of_ble_eq_true rfl) ?_
  refine gj_goq gj_clT ok_6 [7, 15, 23, 26, 29, 32, 74, 90, 109] ?_
  show vp_in a1 91 ∧ (gj_Goes E om0 mt_6 7 [some (.ref 66), some (.int a1), some (.long (SJ 71 (gj_n a1))), none, none, none, none, none, none, none, none, none, none] [] SI SJ (QV Q))
  have k1 := h.1
  refine ⟨k1, ?_⟩
  refine gj_goq gj_clT ok_6 [7, 15, 23, 26, 29, 32, 74, 90, 109] ?_
  show vp_in a1 91 ∧ (gj_Goes E om0 mt_6 15 [some (.ref 66), some (.int a1), some (.long (SJ 71 (gj_n a1))), none, some (.long (SJ 72 (gj_n a1))), none, none, none, none, none, none, none, none] [] SI SJ (QV Q))
  refine ⟨k1, ?_⟩
  refine gj_goq gj_clT ok_6 [7, 15, 23, 26, 29, 32, 74, 90, 109] ?_
  show vp_in a1 91 ∧ (gj_Goes E om0 mt_6 23 [some (.ref 66), some (.int a1), some (.long (SJ 71 (gj_n a1))), none, some (.long (SJ 72 (gj_n a1))), none, some (.long (SJ 73 (gj_n a1))), none, none, none, none, none, none] [] SI SJ (QV Q))
  refine ⟨k1, ?_⟩
  refine gj_goq gj_clT ok_6 [7, 15, 23, 26, 29, 32, 74, 90, 109] ?_
  show gj_Goes E om0 mt_6 26 [some (.ref 66), some (.int a1), some (.long (SJ 71 (gj_n a1))), none, some (.long (SJ 72 (gj_n a1))), none, some (.long (SJ 73 (gj_n a1))), none, some (.int (i3 0)), none, none, none, none] [] SI SJ (QV Q)
  refine gj_goq gj_clT ok_6 [7, 15, 23, 26, 29, 32, 74, 90, 109] ?_
  show gj_Goes E om0 mt_6 29 [some (.ref 66), some (.int a1), some (.long (SJ 71 (gj_n a1))), none, some (.long (SJ 72 (gj_n a1))), none, some (.long (SJ 73 (gj_n a1))), none, some (.int (i3 0)), some (.int (i3 0)), none, none, none] [] SI SJ (QV Q)
  refine gj_goq gj_clT ok_6 [7, 15, 23, 26, 29, 32, 74, 90, 109] ?_
  show gj_Goes E om0 mt_6 32 [some (.ref 66), some (.int a1), some (.long (SJ 71 (gj_n a1))), none, some (.long (SJ 72 (gj_n a1))), none, some (.long (SJ 73 (gj_n a1))), none, some (.int (i3 0)), some (.int (i3 0)), some (.int (i3 0)), none, none] [] SI SJ (QV Q)
  exact h.2
set_option maxRecDepth 20000 in
theorem lp_6_32_66 {E : gj_E} {Q : gj_I → gj_J → Prop} (x1 : Int32) (x2 : Int64) (x4 : Int64) (x6 : Int64) (x8 : Int32) (x9 : Int32) (x10 : Int32) (SI : gj_I) (SJ : gj_J) (h : ((SI 66 9) ≤ x10 → vp_in x1 91 ∧ (Q (gj_u2 (gj_u2 SI 74 (gj_n x1) x8) 75 (gj_n x1) x9) SJ)) ∧ (¬ (SI 66 9) ≤ x10 → vp_in x10 14 ∧ ((((((SJ 67 (gj_n x10)) * x2) + ((SJ 68 (gj_n x10)) * x4)) + ((SJ 69 (gj_n x10)) * x6)) ≤ (i6 0) → (((((SJ 67 (gj_n x10)) * x2) + ((SJ 68 (gj_n x10)) * x4)) + ((SJ 69 (gj_n x10)) * x6)) ≥ (i6 0) → GoV E mt_6 32 [some (.ref 66), some (.int x1), some (.long x2), none, some (.long x4), none, some (.long x6), none, some (.int x8), some (.int x9), some (.int (x10 + (i3 1))), none, none] SI SJ Q) ∧ (¬ ((((SJ 67 (gj_n x10)) * x2) + ((SJ 68 (gj_n x10)) * x4)) + ((SJ 69 (gj_n x10)) * x6)) ≥ (i6 0) → GoV E mt_6 32 [some (.ref 66), some (.int x1), some (.long x2), none, some (.long x4), none, some (.long x6), none, some (.int x8), some (.int (x9 ||| ((i3 1) <<< (x10 &&& 31)))), some (.int (x10 + (i3 1))), none, none] SI SJ Q)) ∧ (¬ ((((SJ 67 (gj_n x10)) * x2) + ((SJ 68 (gj_n x10)) * x4)) + ((SJ 69 (gj_n x10)) * x6)) ≤ (i6 0) → GoV E mt_6 32 [some (.ref 66), some (.int x1), some (.long x2), none, some (.long x4), none, some (.long x6), none, some (.int (x8 ||| ((i3 1) <<< (x10 &&& 31)))), some (.int x9), some (.int (x10 + (i3 1))), none, none] SI SJ Q)))) : GoV E mt_6 32 [some (.ref 66), some (.int x1), some (.long x2), none, some (.long x4), none, some (.long x6), none, some (.int x8), some (.int x9), some (.int x10), none, none] SI SJ Q := by
  refine gj_goq gj_clT ok_6 [7, 15, 23, 26, 29, 32, 74, 90, 109] ?_
  show ((SI 66 9) ≤ x10 → gj_Goes E om0 mt_6 115 [some (.ref 66), some (.int x1), some (.long x2), none, some (.long x4), none, some (.long x6), none, some (.int x8), some (.int x9), some (.int x10), none, none] [] SI SJ (QV Q)) ∧ (¬ (SI 66 9) ≤ x10 → vp_in x10 14 ∧ (vp_in x10 14 ∧ (vp_in x10 14 ∧ (gj_Goes E om0 mt_6 74 [some (.ref 66), some (.int x1), some (.long x2), none, some (.long x4), none, some (.long x6), none, some (.int x8), some (.int x9), some (.int x10), some (.long ((((SJ 67 (gj_n x10)) * x2) + ((SJ 68 (gj_n x10)) * x4)) + ((SJ 69 (gj_n x10)) * x6))), none] [] SI SJ (QV Q)))))
  refine ⟨fun c1 => ?_, fun c1 => ?_⟩
  · refine gj_goq gj_clT ok_6 [7, 15, 23, 26, 29, 32, 74, 90, 109] ?_
    show vp_in x1 91 ∧ (vp_in x1 91 ∧ (QV Q none (gj_u2 (gj_u2 SI 74 (gj_n x1) x8) 75 (gj_n x1) x9) SJ))
    have k2 := (h.1 c1).1
    refine ⟨k2, ?_⟩
    refine ⟨k2, ?_⟩
    exact ⟨rfl, (h.1 c1).2⟩
  · have k3 := (h.2 c1).1
    refine ⟨k3, ?_⟩
    refine ⟨k3, ?_⟩
    refine ⟨k3, ?_⟩
    refine gj_goq gj_clT ok_6 [7, 15, 23, 26, 29, 32, 74, 90, 109] ?_
    show ((lg_cmp ((((SJ 67 (gj_n x10)) * x2) + ((SJ 68 (gj_n x10)) * x4)) + ((SJ 69 (gj_n x10)) * x6)) (i6 0)) ≤ 0 → gj_Goes E om0 mt_6 93 [some (.ref 66), some (.int x1), some (.long x2), none, some (.long x4), none, some (.long x6), none, some (.int x8), some (.int x9), some (.int x10), some (.long ((((SJ 67 (gj_n x10)) * x2) + ((SJ 68 (gj_n x10)) * x4)) + ((SJ 69 (gj_n x10)) * x6))), none] [] SI SJ (QV Q)) ∧ (¬ (lg_cmp ((((SJ 67 (gj_n x10)) * x2) + ((SJ 68 (gj_n x10)) * x4)) + ((SJ 69 (gj_n x10)) * x6)) (i6 0)) ≤ 0 → gj_Goes E om0 mt_6 90 [some (.ref 66), some (.int x1), some (.long x2), none, some (.long x4), none, some (.long x6), none, some (.int (x8 ||| ((i3 1) <<< (x10 &&& 31)))), some (.int x9), some (.int x10), some (.long ((((SJ 67 (gj_n x10)) * x2) + ((SJ 68 (gj_n x10)) * x4)) + ((SJ 69 (gj_n x10)) * x6))), none] [] SI SJ (QV Q))
    refine ⟨fun c4 => ?_, fun c4 => ?_⟩
    · refine gj_goq gj_clT ok_6 [7, 15, 23, 26, 29, 32, 74, 90, 109] ?_
      show (0 ≤ (lg_cmp ((((SJ 67 (gj_n x10)) * x2) + ((SJ 68 (gj_n x10)) * x4)) + ((SJ 69 (gj_n x10)) * x6)) (i6 0)) → gj_Goes E om0 mt_6 109 [some (.ref 66), some (.int x1), some (.long x2), none, some (.long x4), none, some (.long x6), none, some (.int x8), some (.int x9), some (.int x10), some (.long ((((SJ 67 (gj_n x10)) * x2) + ((SJ 68 (gj_n x10)) * x4)) + ((SJ 69 (gj_n x10)) * x6))), none] [] SI SJ (QV Q)) ∧ (¬ 0 ≤ (lg_cmp ((((SJ 67 (gj_n x10)) * x2) + ((SJ 68 (gj_n x10)) * x4)) + ((SJ 69 (gj_n x10)) * x6)) (i6 0)) → gj_Goes E om0 mt_6 109 [some (.ref 66), some (.int x1), some (.long x2), none, some (.long x4), none, some (.long x6), none, some (.int x8), some (.int (x9 ||| ((i3 1) <<< (x10 &&& 31)))), some (.int x10), some (.long ((((SJ 67 (gj_n x10)) * x2) + ((SJ 68 (gj_n x10)) * x4)) + ((SJ 69 (gj_n x10)) * x6))), none] [] SI SJ (QV Q))
      refine ⟨fun c5 => ?_, fun c5 => ?_⟩
      · refine gj_goq gj_clT ok_6 [7, 15, 23, 26, 29, 32, 74, 90, 109] ?_
        show gj_Goes E om0 mt_6 32 [some (.ref 66), some (.int x1), some (.long x2), none, some (.long x4), none, some (.long x6), none, some (.int x8), some (.int x9), some (.int (x10 + (i3 1))), some (.long ((((SJ 67 (gj_n x10)) * x2) + ((SJ 68 (gj_n x10)) * x4)) + ((SJ 69 (gj_n x10)) * x6))), none] [] SI SJ (QV Q)
        exact gj_fh (((h.2 c1).2.1 (lgc_le.mp c4)).1 (lgc_ge.mp c5)) (And.intro (Or.inr rfl) (And.intro (Or.inr rfl) (And.intro (Or.inr rfl) (And.intro (Or.inl rfl) (And.intro (Or.inr rfl) (And.intro (Or.inl rfl) (And.intro (Or.inr rfl) (And.intro (Or.inl rfl) (And.intro (Or.inr rfl) (And.intro (Or.inr rfl) (And.intro (Or.inr rfl) (And.intro (Or.inl rfl) (And.intro (Or.inl rfl) trivial)))))))))))))
      · refine gj_goq gj_clT ok_6 [7, 15, 23, 26, 29, 32, 74, 90, 109] ?_
        show gj_Goes E om0 mt_6 32 [some (.ref 66), some (.int x1), some (.long x2), none, some (.long x4), none, some (.long x6), none, some (.int x8), some (.int (x9 ||| ((i3 1) <<< (x10 &&& 31)))), some (.int (x10 + (i3 1))), some (.long ((((SJ 67 (gj_n x10)) * x2) + ((SJ 68 (gj_n x10)) * x4)) + ((SJ 69 (gj_n x10)) * x6))), none] [] SI SJ (QV Q)
        exact gj_fh (((h.2 c1).2.1 (lgc_le.mp c4)).2 (fun z_ => c5 (lgc_ge.mpr z_))) (And.intro (Or.inr rfl) (And.intro (Or.inr rfl) (And.intro (Or.inr rfl) (And.intro (Or.inl rfl) (And.intro (Or.inr rfl) (And.intro (Or.inl rfl) (And.intro (Or.inr rfl) (And.intro (Or.inl rfl) (And.intro (Or.inr rfl) (And.intro (Or.inr rfl) (And.intro (Or.inr rfl) (And.intro (Or.inl rfl) (And.intro (Or.inl rfl) trivial)))))))))))))
    · refine gj_goq gj_clT ok_6 [7, 15, 23, 26, 29, 32, 74, 90, 109] ?_
      show gj_Goes E om0 mt_6 109 [some (.ref 66), some (.int x1), some (.long x2), none, some (.long x4), none, some (.long x6), none, some (.int (x8 ||| ((i3 1) <<< (x10 &&& 31)))), some (.int x9), some (.int x10), some (.long ((((SJ 67 (gj_n x10)) * x2) + ((SJ 68 (gj_n x10)) * x4)) + ((SJ 69 (gj_n x10)) * x6))), none] [] SI SJ (QV Q)
      refine gj_goq gj_clT ok_6 [7, 15, 23, 26, 29, 32, 74, 90, 109] ?_
      show gj_Goes E om0 mt_6 32 [some (.ref 66), some (.int x1), some (.long x2), none, some (.long x4), none, some (.long x6), none, some (.int (x8 ||| ((i3 1) <<< (x10 &&& 31)))), some (.int x9), some (.int (x10 + (i3 1))), some (.long ((((SJ 67 (gj_n x10)) * x2) + ((SJ 68 (gj_n x10)) * x4)) + ((SJ 69 (gj_n x10)) * x6))), none] [] SI SJ (QV Q)
      exact gj_fh ((h.2 c1).2.2 (fun z_ => c4 (lgc_le.mpr z_))) (And.intro (Or.inr rfl) (And.intro (Or.inr rfl) (And.intro (Or.inr rfl) (And.intro (Or.inl rfl) (And.intro (Or.inr rfl) (And.intro (Or.inl rfl) (And.intro (Or.inr rfl) (And.intro (Or.inl rfl) (And.intro (Or.inr rfl) (And.intro (Or.inr rfl) (And.intro (Or.inr rfl) (And.intro (Or.inl rfl) (And.intro (Or.inl rfl) trivial)))))))))))))
set_option maxRecDepth 20000 in
/-- GraspJudge$Bundle.volume -/
theorem st_7_42 {E : gj_E} {Q : Int64 → gj_I → gj_J → Prop} (a1 : Int32) (a2 : Int32) (SI : gj_I) (SJ : gj_J) (h : vp_in a1 14 ∧ (vp_in a2 91 ∧ (Q ((((SJ 43 (gj_n a1)) * (SJ 47 (gj_n a2))) + ((SJ 44 (gj_n a1)) * (SJ 48 (gj_n a2)))) + ((SJ 45 (gj_n a1)) * (SJ 49 (gj_n a2)))) SI SJ))) : DoL E 7 [(.ref 42), (.int a1), (.int a2)] SI SJ Q := by
  refine gj_start (M := mt_7) ok_7 (Nat.le_of_ble_eq_true rfl) ?_
  refine gj_goq gj_clT ok_7 [] ?_
  show vp_in a1 14 ∧ (vp_in a2 91 ∧ (vp_in a1 14 ∧ (vp_in a2 91 ∧ (vp_in a1 14 ∧ (vp_in a2 91 ∧ (QL Q (some (.long ((((SJ 43 (gj_n a1)) * (SJ 47 (gj_n a2))) + ((SJ 44 (gj_n a1)) * (SJ 48 (gj_n a2)))) + ((SJ 45 (gj_n a1)) * (SJ 49 (gj_n a2)))))) SI SJ))))))
  have k1 := h.1
  refine ⟨k1, ?_⟩
  have k2 := h.2.1
  refine ⟨k2, ?_⟩
  refine ⟨k1, ?_⟩
  refine ⟨k2, ?_⟩
  refine ⟨k1, ?_⟩
  refine ⟨k2, ?_⟩
  exact ⟨_, rfl, h.2.2⟩
set_option maxRecDepth 20000 in
theorem st_7_66 {E : gj_E} {Q : Int64 → gj_I → gj_J → Prop} (a1 : Int32) (a2 : Int32) (SI : gj_I) (SJ : gj_J) (h : vp_in a1 14 ∧ (vp_in a2 91 ∧ (Q ((((SJ 67 (gj_n a1)) * (SJ 71 (gj_n a2))) + ((SJ 68 (gj_n a1)) * (SJ 72 (gj_n a2)))) + ((SJ 69 (gj_n a1)) * (SJ 73 (gj_n a2)))) SI SJ))) : DoL E 7 [(.ref 66), (.int a1), (.int a2)] SI SJ Q := by
  refine gj_start (M := mt_7) ok_7 (Nat.le_of_ble_eq_true rfl) ?_
  refine gj_goq gj_clT ok_7 [] ?_
  show vp_in a1 14 ∧ (vp_in a2 91 ∧ (vp_in a1 14 ∧ (vp_in a2 91 ∧ (vp_in a1 14 ∧ (vp_in a2 91 ∧ (QL Q (some (.long ((((SJ 67 (gj_n a1)) * (SJ 71 (gj_n a2))) + ((SJ 68 (gj_n a1)) * (SJ 72 (gj_n a2)))) + ((SJ 69 (gj_n a1)) * (SJ 73 (gj_n a2)))))) SI SJ))))))
  have k1 := h.1
  refine ⟨k1, ?_⟩
  have k2 := h.2.1
  refine ⟨k2, ?_⟩
  refine ⟨k1, ?_⟩
  refine ⟨k2, ?_⟩
  refine ⟨k1, ?_⟩
  refine ⟨k2, ?_⟩
  exact ⟨_, rfl, h.2.2⟩
set_option maxRecDepth 20000 in
/-- GraspJudge$Bundle.isPlane -/
theorem st_8_42 {E : gj_E} {Q : Int32 → gj_I → gj_J → Prop} (a1 : Int32) (SI : gj_I) (SJ : gj_J) (h : vp_in a1 91 ∧ ((¬ (SJ 47 (gj_n a1)) = (i6 0) → Q (i3 1) SI SJ) ∧ ((SJ 47 (gj_n a1)) = (i6 0) → (¬ (SJ 48 (gj_n a1)) = (i6 0) → Q (i3 1) SI SJ) ∧ ((SJ 48 (gj_n a1)) = (i6 0) → ((SJ 49 (gj_n a1)) = (i6 0) → Q (i3 0) SI SJ) ∧ (¬ (SJ 49 (gj_n a1)) = (i6 0) → Q (i3 1) SI SJ))))) : DoI E 8 [(.ref 42), (.int a1)] SI SJ Q := by
  refine gj_start (M := mt_8) ok_8 (Nat.le_of_ble_eq_true rfl) ?_
  refine gj_goq gj_clT ok_8 [] ?_
  show vp_in a1 91 ∧ ((¬ (lg_cmp (SJ 47 (gj_n a1)) (i6 0)) = 0 → gj_Goes E om0 mt_8 33 [some (.ref 42), some (.int a1)] [] SI SJ (QI Q)) ∧ ((lg_cmp (SJ 47 (gj_n a1)) (i6 0)) = 0 → vp_in a1 91 ∧ ((¬ (lg_cmp (SJ 48 (gj_n a1)) (i6 0)) = 0 → gj_Goes E om0 mt_8 33 [some (.ref 42), some (.int a1)] [] SI SJ (QI Q)) ∧ ((lg_cmp (SJ 48 (gj_n a1)) (i6 0)) = 0 → vp_in a1 91 ∧ (((lg_cmp (SJ 49 (gj_n a1)) (i6 0)) = 0 → gj_Goes E om0 mt_8 37 [some (.ref 42), some (.int a1)] [] SI SJ (QI Q)) ∧ (¬ (lg_cmp (SJ 49 (gj_n a1)) (i6 0)) = 0 → gj_Goes E om0 mt_8 38 [some (.ref 42), some (.int a1)] [(.int (i3 1))] SI SJ (QI Q)))))))
  have k1 := h.1
  refine ⟨k1, ?_⟩
  refine ⟨fun c2 => ?_, fun c2 => ?_⟩
  · refine gj_goq gj_clT ok_8 [] ?_
    show gj_Goes E om0 mt_8 38 [some (.ref 42), some (.int a1)] [(.int (i3 1))] SI SJ (QI Q)
    refine gj_goq gj_clT ok_8 [] ?_
    show ((i3 1) = 0 ∨ (i3 1) = 1) ∧ (QI Q (some (.int (i3 1))) SI SJ)
    refine ⟨(Or.inr rfl), ?_⟩
    exact ⟨_, rfl, (h.2.1 (fun z_ => c2 (lgc_eq.mpr z_)))⟩
  · refine ⟨k1, ?_⟩
    refine ⟨fun c3 => ?_, fun c3 => ?_⟩
    · refine gj_goq gj_clT ok_8 [] ?_
      show gj_Goes E om0 mt_8 38 [some (.ref 42), some (.int a1)] [(.int (i3 1))] SI SJ (QI Q)
      refine gj_goq gj_clT ok_8 [] ?_
      show ((i3 1) = 0 ∨ (i3 1) = 1) ∧ (QI Q (some (.int (i3 1))) SI SJ)
      refine ⟨(Or.inr rfl), ?_⟩
      exact ⟨_, rfl, ((h.2.2 (lgc_eq.mp c2)).1 (fun z_ => c3 (lgc_eq.mpr z_)))⟩
    · refine ⟨k1, ?_⟩
      refine ⟨fun c4 => ?_, fun c4 => ?_⟩
      · refine gj_goq gj_clT ok_8 [] ?_
        show ((i3 0) = 0 ∨ (i3 0) = 1) ∧ (QI Q (some (.int (i3 0))) SI SJ)
        refine ⟨(Or.inl rfl), ?_⟩
        exact ⟨_, rfl, (((h.2.2 (lgc_eq.mp c2)).2 (lgc_eq.mp c3)).1 (lgc_eq.mp c4))⟩
      · refine gj_goq gj_clT ok_8 [] ?_
        show ((i3 1) = 0 ∨ (i3 1) = 1) ∧ (QI Q (some (.int (i3 1))) SI SJ)
        refine ⟨(Or.inr rfl), ?_⟩
        exact ⟨_, rfl, (((h.2.2 (lgc_eq.mp c2)).2 (lgc_eq.mp c3)).2 (fun z_ => c4 (lgc_eq.mpr z_)))⟩
set_option maxRecDepth 20000 in
theorem st_8_66 {E : gj_E} {Q : Int32 → gj_I → gj_J → Prop} (a1 : Int32) (SI : gj_I) (SJ : gj_J) (h : vp_in a1 91 ∧ ((¬ (SJ 71 (gj_n a1)) = (i6 0) → Q (i3 1) SI SJ) ∧ ((SJ 71 (gj_n a1)) = (i6 0) → (¬ (SJ 72 (gj_n a1)) = (i6 0) → Q (i3 1) SI SJ) ∧ ((SJ 72 (gj_n a1)) = (i6 0) → ((SJ 73 (gj_n a1)) = (i6 0) → Q (i3 0) SI SJ) ∧ (¬ (SJ 73 (gj_n a1)) = (i6 0) → Q (i3 1) SI SJ))))) : DoI E 8 [(.ref 66), (.int a1)] SI SJ Q := by
  refine gj_start (M := mt_8) ok_8 (Nat.le_of_ble_eq_true rfl) ?_
  refine gj_goq gj_clT ok_8 [] ?_
  show vp_in a1 91 ∧ ((¬ (lg_cmp (SJ 71 (gj_n a1)) (i6 0)) = 0 → gj_Goes E om0 mt_8 33 [some (.ref 66), some (.int a1)] [] SI SJ (QI Q)) ∧ ((lg_cmp (SJ 71 (gj_n a1)) (i6 0)) = 0 → vp_in a1 91 ∧ ((¬ (lg_cmp (SJ 72 (gj_n a1)) (i6 0)) = 0 → gj_Goes E om0 mt_8 33 [some (.ref 66), some (.int a1)] [] SI SJ (QI Q)) ∧ ((lg_cmp (SJ 72 (gj_n a1)) (i6 0)) = 0 → vp_in a1 91 ∧ (((lg_cmp (SJ 73 (gj_n a1)) (i6 0)) = 0 → gj_Goes E om0 mt_8 37 [some (.ref 66), some (.int a1)] [] SI SJ (QI Q)) ∧ (¬ (lg_cmp (SJ 73 (gj_n a1)) (i6 0)) = 0 → gj_Goes E om0 mt_8 38 [some (.ref 66), some (.int a1)] [(.int (i3 1))] SI SJ (QI Q)))))))
  have k1 := h.1
  refine ⟨k1, ?_⟩
  refine ⟨fun c2 => ?_, fun c2 => ?_⟩
  · refine gj_goq gj_clT ok_8 [] ?_
    show gj_Goes E om0 mt_8 38 [some (.ref 66), some (.int a1)] [(.int (i3 1))] SI SJ (QI Q)
    refine gj_goq gj_clT ok_8 [] ?_
    show ((i3 1) = 0 ∨ (i3 1) = 1) ∧ (QI Q (some (.int (i3 1))) SI SJ)
    refine ⟨(Or.inr rfl), ?_⟩
    exact ⟨_, rfl, (h.2.1 (fun z_ => c2 (lgc_eq.mpr z_)))⟩
  · refine ⟨k1, ?_⟩
    refine ⟨fun c3 => ?_, fun c3 => ?_⟩
    · refine gj_goq gj_clT ok_8 [] ?_
      show gj_Goes E om0 mt_8 38 [some (.ref 66), some (.int a1)] [(.int (i3 1))] SI SJ (QI Q)
      refine gj_goq gj_clT ok_8 [] ?_
      show ((i3 1) = 0 ∨ (i3 1) = 1) ∧ (QI Q (some (.int (i3 1))) SI SJ)
      refine ⟨(Or.inr rfl), ?_⟩
      exact ⟨_, rfl, ((h.2.2 (lgc_eq.mp c2)).1 (fun z_ => c3 (lgc_eq.mpr z_)))⟩
    · refine ⟨k1, ?_⟩
      refine ⟨fun c4 => ?_, fun c4 => ?_⟩
      · refine gj_goq gj_clT ok_8 [] ?_
        show ((i3 0) = 0 ∨ (i3 0) = 1) ∧ (QI Q (some (.int (i3 0))) SI SJ)
        refine ⟨(Or.inl rfl), ?_⟩
        exact ⟨_, rfl, (((h.2.2 (lgc_eq.mp c2)).2 (lgc_eq.mp c3)).1 (lgc_eq.mp c4))⟩
      · refine gj_goq gj_clT ok_8 [] ?_
        show ((i3 1) = 0 ∨ (i3 1) = 1) ∧ (QI Q (some (.int (i3 1))) SI SJ)
        refine ⟨(Or.inr rfl), ?_⟩
        exact ⟨_, rfl, (((h.2.2 (lgc_eq.mp c2)).2 (lgc_eq.mp c3)).2 (fun z_ => c4 (lgc_eq.mpr z_)))⟩
set_option maxRecDepth 20000 in
/-- GraspJudge$Bundle.height -/
theorem st_9 {E : gj_E} {Q : Int32 → gj_I → gj_J → Prop} (SI : gj_I) (SJ : gj_J) (h : GoI E mt_9 11 [some (.ref 42), some (.int (if (SI 42 9) < (i3 1) then (SI 42 9) else (i3 1))), some (.int (i3 0)), none, none] SI SJ Q) : DoI E 9 [(.ref 42)] SI SJ Q := by
  refine gj_start (M := mt_9) ok_9 (Nat.le_of_ble_eq_true rfl) ?_
  refine gj_goq gj_clT ok_9 [11, 23, 36, 44] ?_
  show gj_Goes E om0 mt_9 11 [some (.ref 42), some (.int (if (SI 42 9) < (i3 1) then (SI 42 9) else (i3 1))), some (.int (i3 0)), none, none] [] SI SJ (QI Q)
  exact h
set_option maxRecDepth 20000 in
theorem lp_9_11 {E : gj_E} {Q : Int32 → gj_I → gj_J → Prop} (x1 : Int32) (x2 : Int32) (SI : gj_I) (SJ : gj_J) (h : ((SI 42 9) ≤ x2 → Q x1 SI SJ) ∧ (¬ (SI 42 9) ≤ x2 → GoI E mt_9 23 [some (.ref 42), some (.int x1), some (.int x2), some (.int (x2 + (i3 1))), none] SI SJ Q)) : GoI E mt_9 11 [some (.ref 42), some (.int x1), some (.int x2), none, none] SI SJ Q := by
  refine gj_goq gj_clT ok_9 [11, 23, 36, 44] ?_
  show ((SI 42 9) ≤ x2 → gj_Goes E om0 mt_9 87 [some (.ref 42), some (.int x1), some (.int x2), none, none] [] SI SJ (QI Q)) ∧ (¬ (SI 42 9) ≤ x2 → gj_Goes E om0 mt_9 23 [some (.ref 42), some (.int x1), some (.int x2), some (.int (x2 + (i3 1))), none] [] SI SJ (QI Q))
  refine ⟨fun c1 => ?_, fun c1 => ?_⟩
  · refine gj_goq gj_clT ok_9 [11, 23, 36, 44] ?_
    show QI Q (some (.int x1)) SI SJ
    exact ⟨_, rfl, (h.1 c1)⟩
  · exact (h.2 c1)
set_option maxRecDepth 20000 in
theorem lp_9_23 {E : gj_E} {Q : Int32 → gj_I → gj_J → Prop} (x1 : Int32) (x2 : Int32) (x3 : Int32) (SI : gj_I) (SJ : gj_J) (h : ((SI 42 9) ≤ x3 → GoI E mt_9 11 [some (.ref 42), some (.int x1), some (.int (x2 + (i3 1))), none, none] SI SJ Q) ∧ (¬ (SI 42 9) ≤ x3 → DoI E 2 [(.int x2), (.int x3)] SI SJ (fun r1 SI2 SJ2 => DoI E 8 [(.ref 42), (.int r1)] SI2 SJ2 (fun r3 SI4 SJ4 => (r3 = 0 → GoI E mt_9 23 [some (.ref 42), some (.int x1), some (.int x2), some (.int (x3 + (i3 1))), none] SI4 SJ4 Q) ∧ (¬ r3 = 0 → vp_in r1 91 ∧ ((¬ ((SI4 50 (gj_n r1)) ||| (SI4 51 (gj_n r1))) = 0 → GoI E mt_9 23 [some (.ref 42), some (.int (if x1 < (i3 3) then (i3 3) else x1)), some (.int x2), some (.int (x3 + (i3 1))), none] SI4 SJ4 Q) ∧ (((SI4 50 (gj_n r1)) ||| (SI4 51 (gj_n r1))) = 0 → GoI E mt_9 23 [some (.ref 42), some (.int (if x1 < (i3 2) then (i3 2) else x1)), some (.int x2), some (.int (x3 + (i3 1))), none] SI4 SJ4 Q))))))) : GoI E mt_9 23 [some (.ref 42), some (.int x1), some (.int x2), some (.int x3), none] SI SJ Q := by
  refine gj_goq gj_clT ok_9 [11, 23, 36, 44] ?_
  show ((SI 42 9) ≤ x3 → gj_Goes E om0 mt_9 81 [some (.ref 42), some (.int x1), some (.int x2), some (.int x3), none] [] SI SJ (QI Q)) ∧ (¬ (SI 42 9) ≤ x3 → gj_Do E om0 (gj_mt 2) [(.int x2), (.int x3)] SI SJ _)
  refine ⟨fun c1 => ?_, fun c1 => ?_⟩
  · refine gj_goq gj_clT ok_9 [11, 23, 36, 44] ?_
    show gj_Goes E om0 mt_9 11 [some (.ref 42), some (.int x1), some (.int (x2 + (i3 1))), some (.int x3), none] [] SI SJ (QI Q)
    exact gj_fh (h.1 c1) (And.intro (Or.inr rfl) (And.intro (Or.inr rfl) (And.intro (Or.inr rfl) (And.intro (Or.inl rfl) (And.intro (Or.inl rfl) trivial)))))
  · refine gj_Do.mono (h.2 c1) (fun v_ SI2 SJ2 h_ => ?_)
    obtain ⟨r1, rfl, q2⟩ := h_
    show gj_Goes E om0 mt_9 36 [some (.ref 42), some (.int x1), some (.int x2), some (.int x3), none] [(.int r1)] SI2 SJ2 (QI Q)
    refine gj_goq gj_clT ok_9 [11, 23, 36, 44] ?_
    show gj_Do E om0 (gj_mt 8) [(.ref 42), (.int r1)] SI2 SJ2 _
    refine gj_Do.mono q2 (fun v_ SI4 SJ4 h_ => ?_)
    obtain ⟨r3, rfl, q3⟩ := h_
    show gj_Goes E om0 mt_9 44 [some (.ref 42), some (.int x1), some (.int x2), some (.int x3), some (.int r1)] [(.int r3)] SI4 SJ4 (QI Q)
    refine gj_goq gj_clT ok_9 [11, 23, 36, 44] ?_
    show (r3 = 0 → gj_Goes E om0 mt_9 75 [some (.ref 42), some (.int x1), some (.int x2), some (.int x3), some (.int r1)] [] SI4 SJ4 (QI Q)) ∧ (¬ r3 = 0 → vp_in r1 91 ∧ (vp_in r1 91 ∧ ((¬ ((SI4 50 (gj_n r1)) ||| (SI4 51 (gj_n r1))) = 0 → gj_Goes E om0 mt_9 70 [some (.ref 42), some (.int x1), some (.int x2), some (.int x3), some (.int r1)] [(.int x1)] SI4 SJ4 (QI Q)) ∧ (((SI4 50 (gj_n r1)) ||| (SI4 51 (gj_n r1))) = 0 → gj_Goes E om0 mt_9 71 [some (.ref 42), some (.int x1), some (.int x2), some (.int x3), some (.int r1)] [(.int (i3 2)), (.int x1)] SI4 SJ4 (QI Q)))))
    refine ⟨fun c4 => ?_, fun c4 => ?_⟩
    · refine gj_goq gj_clT ok_9 [11, 23, 36, 44] ?_
      show gj_Goes E om0 mt_9 23 [some (.ref 42), some (.int x1), some (.int x2), some (.int (x3 + (i3 1))), some (.int r1)] [] SI4 SJ4 (QI Q)
      exact gj_fh (q3.1 c4) (And.intro (Or.inr rfl) (And.intro (Or.inr rfl) (And.intro (Or.inr rfl) (And.intro (Or.inr rfl) (And.intro (Or.inl rfl) trivial)))))
    · have k5 := (q3.2 c4).1
      refine ⟨k5, ?_⟩
      refine ⟨k5, ?_⟩
      refine ⟨fun c6 => ?_, fun c6 => ?_⟩
      · refine gj_goq gj_clT ok_9 [11, 23, 36, 44] ?_
        show gj_Goes E om0 mt_9 23 [some (.ref 42), some (.int (if x1 < (i3 3) then (i3 3) else x1)), some (.int x2), some (.int (x3 + (i3 1))), some (.int r1)] [] SI4 SJ4 (QI Q)
        exact gj_fh ((q3.2 c4).2.1 c6) (And.intro (Or.inr rfl) (And.intro (Or.inr rfl) (And.intro (Or.inr rfl) (And.intro (Or.inr rfl) (And.intro (Or.inl rfl) trivial)))))
      · refine gj_goq gj_clT ok_9 [11, 23, 36, 44] ?_
        show gj_Goes E om0 mt_9 23 [some (.ref 42), some (.int (if x1 < (i3 2) then (i3 2) else x1)), some (.int x2), some (.int (x3 + (i3 1))), some (.int r1)] [] SI4 SJ4 (QI Q)
        exact gj_fh ((q3.2 c4).2.2 c6) (And.intro (Or.inr rfl) (And.intro (Or.inr rfl) (And.intro (Or.inr rfl) (And.intro (Or.inr rfl) (And.intro (Or.inl rfl) trivial)))))
set_option maxRecDepth 20000 in
/-- GraspJudge$Bundle.spans -/
theorem st_10_42 {E : gj_E} {Q : Int32 → gj_I → gj_J → Prop} (a1 : Int32) (SI : gj_I) (SJ : gj_J) (h : GoI E mt_10 4 [some (.ref 42), some (.int a1), some (.int (i3 0)), some (.int (i3 0)), none, none] SI SJ Q) : DoI E 10 [(.ref 42), (.int a1)] SI SJ Q := by
  refine gj_start (M := mt_10) ok_10 (Nat.le_of_ble_eq_true rfl) ?_
  refine gj_goq gj_clT ok_10 [4, 28, 43, 60] ?_
  show gj_Goes E om0 mt_10 4 [some (.ref 42), some (.int a1), some (.int (i3 0)), some (.int (i3 0)), none, none] [] SI SJ (QI Q)
  exact h
set_option maxRecDepth 20000 in
theorem lp_10_4_42 {E : gj_E} {Q : Int32 → gj_I → gj_J → Prop} (x1 : Int32) (x2 : Int32) (x3 : Int32) (SI : gj_I) (SJ : gj_J) (h : ((SI 42 9) ≤ x3 → (x2 = 0 ∨ x2 = 1) ∧ (Q x2 SI SJ)) ∧ (¬ (SI 42 9) ≤ x3 → (¬ ((x1 >>> (x3 &&& 31)) &&& (i3 1)) = 0 → GoI E mt_10 28 [some (.ref 42), some (.int x1), some (.int x2), some (.int x3), some (.int (x3 + (i3 1))), none] SI SJ Q) ∧ (((x1 >>> (x3 &&& 31)) &&& (i3 1)) = 0 → GoI E mt_10 4 [some (.ref 42), some (.int x1), some (.int x2), some (.int (x3 + (i3 1))), none, none] SI SJ Q))) : GoI E mt_10 4 [some (.ref 42), some (.int x1), some (.int x2), some (.int x3), none, none] SI SJ Q := by
  refine gj_goq gj_clT ok_10 [4, 28, 43, 60] ?_
  show ((SI 42 9) ≤ x3 → gj_Goes E om0 mt_10 106 [some (.ref 42), some (.int x1), some (.int x2), some (.int x3), none, none] [] SI SJ (QI Q)) ∧ (¬ (SI 42 9) ≤ x3 → (¬ ((x1 >>> (x3 &&& 31)) &&& (i3 1)) = 0 → gj_Goes E om0 mt_10 23 [some (.ref 42), some (.int x1), some (.int x2), some (.int x3), none, none] [] SI SJ (QI Q)) ∧ (((x1 >>> (x3 &&& 31)) &&& (i3 1)) = 0 → gj_Goes E om0 mt_10 100 [some (.ref 42), some (.int x1), some (.int x2), some (.int x3), none, none] [] SI SJ (QI Q)))
  refine ⟨fun c1 => ?_, fun c1 => ?_⟩
  · refine gj_goq gj_clT ok_10 [4, 28, 43, 60] ?_
    show (x2 = 0 ∨ x2 = 1) ∧ (QI Q (some (.int x2)) SI SJ)
    have k2 := (h.1 c1).1
    refine ⟨k2, ?_⟩
    exact ⟨_, rfl, (h.1 c1).2⟩
  · refine ⟨fun c3 => ?_, fun c3 => ?_⟩
    · refine gj_goq gj_clT ok_10 [4, 28, 43, 60] ?_
      show gj_Goes E om0 mt_10 28 [some (.ref 42), some (.int x1), some (.int x2), some (.int x3), some (.int (x3 + (i3 1))), none] [] SI SJ (QI Q)
      exact ((h.2 c1).1 c3)
    · refine gj_goq gj_clT ok_10 [4, 28, 43, 60] ?_
      show gj_Goes E om0 mt_10 4 [some (.ref 42), some (.int x1), some (.int x2), some (.int (x3 + (i3 1))), none, none] [] SI SJ (QI Q)
      exact ((h.2 c1).2 c3)
set_option maxRecDepth 20000 in
theorem lp_10_28_42 {E : gj_E} {Q : Int32 → gj_I → gj_J → Prop} (x1 : Int32) (x2 : Int32) (x3 : Int32) (x4 : Int32) (SI : gj_I) (SJ : gj_J) (h : ((SI 42 9) ≤ x4 → GoI E mt_10 4 [some (.ref 42), some (.int x1), some (.int x2), some (.int (x3 + (i3 1))), none, none] SI SJ Q) ∧ (¬ (SI 42 9) ≤ x4 → DoI E 2 [(.int x3), (.int x4)] SI SJ (fun r1 SI2 SJ2 => (((x1 >>> (x4 &&& 31)) &&& (i3 1)) = 0 → GoI E mt_10 28 [some (.ref 42), some (.int x1), some (.int x2), some (.int x3), some (.int (x4 + (i3 1))), none] SI2 SJ2 Q) ∧ (¬ ((x1 >>> (x4 &&& 31)) &&& (i3 1)) = 0 → DoI E 8 [(.ref 42), (.int r1)] SI2 SJ2 (fun r3 SI4 SJ4 => (¬ r3 = 0 → vp_in r1 91 ∧ ((((SI4 50 (gj_n r1)) &&& x1) = 0 → Q (i3 0) SI4 SJ4) ∧ (¬ ((SI4 50 (gj_n r1)) &&& x1) = 0 → (¬ ((SI4 51 (gj_n r1)) &&& x1) = 0 → GoI E mt_10 28 [some (.ref 42), some (.int x1), some (.int (i3 1)), some (.int x3), some (.int (x4 + (i3 1))), none] SI4 SJ4 Q) ∧ (((SI4 51 (gj_n r1)) &&& x1) = 0 → Q (i3 0) SI4 SJ4)))) ∧ (r3 = 0 → GoI E mt_10 28 [some (.ref 42), some (.int x1), some (.int x2), some (.int x3), some (.int (x4 + (i3 1))), none] SI4 SJ4 Q)))))) : GoI E mt_10 28 [some (.ref 42), some (.int x1), some (.int x2), some (.int x3), some (.int x4), none] SI SJ Q := by
  refine gj_goq gj_clT ok_10 [4, 28, 43, 60] ?_
  show ((SI 42 9) ≤ x4 → gj_Goes E om0 mt_10 100 [some (.ref 42), some (.int x1), some (.int x2), some (.int x3), some (.int x4), none] [] SI SJ (QI Q)) ∧ (¬ (SI 42 9) ≤ x4 → gj_Do E om0 (gj_mt 2) [(.int x3), (.int x4)] SI SJ _)
  refine ⟨fun c1 => ?_, fun c1 => ?_⟩
  · refine gj_goq gj_clT ok_10 [4, 28, 43, 60] ?_
    show gj_Goes E om0 mt_10 4 [some (.ref 42), some (.int x1), some (.int x2), some (.int (x3 + (i3 1))), some (.int x4), none] [] SI SJ (QI Q)
    exact gj_fh (h.1 c1) (And.intro (Or.inr rfl) (And.intro (Or.inr rfl) (And.intro (Or.inr rfl) (And.intro (Or.inr rfl) (And.intro (Or.inl rfl) (And.intro (Or.inl rfl) trivial))))))
  · refine gj_Do.mono (h.2 c1) (fun v_ SI2 SJ2 h_ => ?_)
    obtain ⟨r1, rfl, q2⟩ := h_
    show gj_Goes E om0 mt_10 43 [some (.ref 42), some (.int x1), some (.int x2), some (.int x3), some (.int x4), none] [(.int r1)] SI2 SJ2 (QI Q)
    refine gj_goq gj_clT ok_10 [4, 28, 43, 60] ?_
    show (((x1 >>> (x4 &&& 31)) &&& (i3 1)) = 0 → gj_Goes E om0 mt_10 94 [some (.ref 42), some (.int x1), some (.int x2), some (.int x3), some (.int x4), some (.int r1)] [] SI2 SJ2 (QI Q)) ∧ (¬ ((x1 >>> (x4 &&& 31)) &&& (i3 1)) = 0 → gj_Do E om0 (gj_mt 8) [(.ref 42), (.int r1)] SI2 SJ2 _)
    refine ⟨fun c3 => ?_, fun c3 => ?_⟩
    · refine gj_goq gj_clT ok_10 [4, 28, 43, 60] ?_
      show gj_Goes E om0 mt_10 28 [some (.ref 42), some (.int x1), some (.int x2), some (.int x3), some (.int (x4 + (i3 1))), some (.int r1)] [] SI2 SJ2 (QI Q)
      exact gj_fh (q2.1 c3) (And.intro (Or.inr rfl) (And.intro (Or.inr rfl) (And.intro (Or.inr rfl) (And.intro (Or.inr rfl) (And.intro (Or.inr rfl) (And.intro (Or.inl rfl) trivial))))))
    · refine gj_Do.mono (q2.2 c3) (fun v_ SI4 SJ4 h_ => ?_)
      obtain ⟨r3, rfl, q4⟩ := h_
      show gj_Goes E om0 mt_10 60 [some (.ref 42), some (.int x1), some (.int x2), some (.int x3), some (.int x4), some (.int r1)] [(.int r3)] SI4 SJ4 (QI Q)
      refine gj_goq gj_clT ok_10 [4, 28, 43, 60] ?_
      show (¬ r3 = 0 → gj_Goes E om0 mt_10 66 [some (.ref 42), some (.int x1), some (.int x2), some (.int x3), some (.int x4), some (.int r1)] [] SI4 SJ4 (QI Q)) ∧ (r3 = 0 → gj_Goes E om0 mt_10 94 [some (.ref 42), some (.int x1), some (.int x2), some (.int x3), some (.int x4), some (.int r1)] [] SI4 SJ4 (QI Q))
      refine ⟨fun c5 => ?_, fun c5 => ?_⟩
      · refine gj_goq gj_clT ok_10 [4, 28, 43, 60] ?_
        show vp_in r1 91 ∧ ((((SI4 50 (gj_n r1)) &&& x1) = 0 → gj_Goes E om0 mt_10 90 [some (.ref 42), some (.int x1), some (.int x2), some (.int x3), some (.int x4), some (.int r1)] [] SI4 SJ4 (QI Q)) ∧ (¬ ((SI4 50 (gj_n r1)) &&& x1) = 0 → vp_in r1 91 ∧ ((¬ ((SI4 51 (gj_n r1)) &&& x1) = 0 → gj_Goes E om0 mt_10 92 [some (.ref 42), some (.int x1), some (.int x2), some (.int x3), some (.int x4), some (.int r1)] [] SI4 SJ4 (QI Q)) ∧ (((SI4 51 (gj_n r1)) &&& x1) = 0 → ((i3 0) = 0 ∨ (i3 0) = 1) ∧ (QI Q (some (.int (i3 0))) SI4 SJ4)))))
        have k6 := (q4.1 c5).1
        refine ⟨k6, ?_⟩
        refine ⟨fun c7 => ?_, fun c7 => ?_⟩
        · refine gj_goq gj_clT ok_10 [4, 28, 43, 60] ?_
          show ((i3 0) = 0 ∨ (i3 0) = 1) ∧ (QI Q (some (.int (i3 0))) SI4 SJ4)
          refine ⟨(Or.inl rfl), ?_⟩
          exact ⟨_, rfl, ((q4.1 c5).2.1 c7)⟩
        · refine ⟨k6, ?_⟩
          refine ⟨fun c8 => ?_, fun c8 => ?_⟩
          · refine gj_goq gj_clT ok_10 [4, 28, 43, 60] ?_
            show gj_Goes E om0 mt_10 28 [some (.ref 42), some (.int x1), some (.int (i3 1)), some (.int x3), some (.int (x4 + (i3 1))), some (.int r1)] [] SI4 SJ4 (QI Q)
            exact gj_fh (((q4.1 c5).2.2 c7).1 c8) (And.intro (Or.inr rfl) (And.intro (Or.inr rfl) (And.intro (Or.inr rfl) (And.intro (Or.inr rfl) (And.intro (Or.inr rfl) (And.intro (Or.inl rfl) trivial))))))
          · refine ⟨(Or.inl rfl), ?_⟩
            exact ⟨_, rfl, (((q4.1 c5).2.2 c7).2 c8)⟩
      · refine gj_goq gj_clT ok_10 [4, 28, 43, 60] ?_
        show gj_Goes E om0 mt_10 28 [some (.ref 42), some (.int x1), some (.int x2), some (.int x3), some (.int (x4 + (i3 1))), some (.int r1)] [] SI4 SJ4 (QI Q)
        exact gj_fh (q4.2 c5) (And.intro (Or.inr rfl) (And.intro (Or.inr rfl) (And.intro (Or.inr rfl) (And.intro (Or.inr rfl) (And.intro (Or.inr rfl) (And.intro (Or.inl rfl) trivial))))))
set_option maxRecDepth 20000 in
theorem st_10_66 {E : gj_E} {Q : Int32 → gj_I → gj_J → Prop} (a1 : Int32) (SI : gj_I) (SJ : gj_J) (h : GoI E mt_10 4 [some (.ref 66), some (.int a1), some (.int (i3 0)), some (.int (i3 0)), none, none] SI SJ Q) : DoI E 10 [(.ref 66), (.int a1)] SI SJ Q := by
  refine gj_start (M := mt_10) ok_10 (Nat.le_of_ble_eq_true rfl) ?_
  refine gj_goq gj_clT ok_10 [4, 28, 43, 60] ?_
  show gj_Goes E om0 mt_10 4 [some (.ref 66), some (.int a1), some (.int (i3 0)), some (.int (i3 0)), none, none] [] SI SJ (QI Q)
  exact h
set_option maxRecDepth 20000 in
theorem lp_10_4_66 {E : gj_E} {Q : Int32 → gj_I → gj_J → Prop} (x1 : Int32) (x2 : Int32) (x3 : Int32) (SI : gj_I) (SJ : gj_J) (h : ((SI 66 9) ≤ x3 → (x2 = 0 ∨ x2 = 1) ∧ (Q x2 SI SJ)) ∧ (¬ (SI 66 9) ≤ x3 → (¬ ((x1 >>> (x3 &&& 31)) &&& (i3 1)) = 0 → GoI E mt_10 28 [some (.ref 66), some (.int x1), some (.int x2), some (.int x3), some (.int (x3 + (i3 1))), none] SI SJ Q) ∧ (((x1 >>> (x3 &&& 31)) &&& (i3 1)) = 0 → GoI E mt_10 4 [some (.ref 66), some (.int x1), some (.int x2), some (.int (x3 + (i3 1))), none, none] SI SJ Q))) : GoI E mt_10 4 [some (.ref 66), some (.int x1), some (.int x2), some (.int x3), none, none] SI SJ Q := by
  refine gj_goq gj_clT ok_10 [4, 28, 43, 60] ?_
  show ((SI 66 9) ≤ x3 → gj_Goes E om0 mt_10 106 [some (.ref 66), some (.int x1), some (.int x2), some (.int x3), none, none] [] SI SJ (QI Q)) ∧ (¬ (SI 66 9) ≤ x3 → (¬ ((x1 >>> (x3 &&& 31)) &&& (i3 1)) = 0 → gj_Goes E om0 mt_10 23 [some (.ref 66), some (.int x1), some (.int x2), some (.int x3), none, none] [] SI SJ (QI Q)) ∧ (((x1 >>> (x3 &&& 31)) &&& (i3 1)) = 0 → gj_Goes E om0 mt_10 100 [some (.ref 66), some (.int x1), some (.int x2), some (.int x3), none, none] [] SI SJ (QI Q)))
  refine ⟨fun c1 => ?_, fun c1 => ?_⟩
  · refine gj_goq gj_clT ok_10 [4, 28, 43, 60] ?_
    show (x2 = 0 ∨ x2 = 1) ∧ (QI Q (some (.int x2)) SI SJ)
    have k2 := (h.1 c1).1
    refine ⟨k2, ?_⟩
    exact ⟨_, rfl, (h.1 c1).2⟩
  · refine ⟨fun c3 => ?_, fun c3 => ?_⟩
    · refine gj_goq gj_clT ok_10 [4, 28, 43, 60] ?_
      show gj_Goes E om0 mt_10 28 [some (.ref 66), some (.int x1), some (.int x2), some (.int x3), some (.int (x3 + (i3 1))), none] [] SI SJ (QI Q)
      exact ((h.2 c1).1 c3)
    · refine gj_goq gj_clT ok_10 [4, 28, 43, 60] ?_
      show gj_Goes E om0 mt_10 4 [some (.ref 66), some (.int x1), some (.int x2), some (.int (x3 + (i3 1))), none, none] [] SI SJ (QI Q)
      exact ((h.2 c1).2 c3)
set_option maxRecDepth 20000 in
theorem lp_10_28_66 {E : gj_E} {Q : Int32 → gj_I → gj_J → Prop} (x1 : Int32) (x2 : Int32) (x3 : Int32) (x4 : Int32) (SI : gj_I) (SJ : gj_J) (h : ((SI 66 9) ≤ x4 → GoI E mt_10 4 [some (.ref 66), some (.int x1), some (.int x2), some (.int (x3 + (i3 1))), none, none] SI SJ Q) ∧ (¬ (SI 66 9) ≤ x4 → DoI E 2 [(.int x3), (.int x4)] SI SJ (fun r1 SI2 SJ2 => (((x1 >>> (x4 &&& 31)) &&& (i3 1)) = 0 → GoI E mt_10 28 [some (.ref 66), some (.int x1), some (.int x2), some (.int x3), some (.int (x4 + (i3 1))), none] SI2 SJ2 Q) ∧ (¬ ((x1 >>> (x4 &&& 31)) &&& (i3 1)) = 0 → DoI E 8 [(.ref 66), (.int r1)] SI2 SJ2 (fun r3 SI4 SJ4 => (¬ r3 = 0 → vp_in r1 91 ∧ ((((SI4 74 (gj_n r1)) &&& x1) = 0 → Q (i3 0) SI4 SJ4) ∧ (¬ ((SI4 74 (gj_n r1)) &&& x1) = 0 → (¬ ((SI4 75 (gj_n r1)) &&& x1) = 0 → GoI E mt_10 28 [some (.ref 66), some (.int x1), some (.int (i3 1)), some (.int x3), some (.int (x4 + (i3 1))), none] SI4 SJ4 Q) ∧ (((SI4 75 (gj_n r1)) &&& x1) = 0 → Q (i3 0) SI4 SJ4)))) ∧ (r3 = 0 → GoI E mt_10 28 [some (.ref 66), some (.int x1), some (.int x2), some (.int x3), some (.int (x4 + (i3 1))), none] SI4 SJ4 Q)))))) : GoI E mt_10 28 [some (.ref 66), some (.int x1), some (.int x2), some (.int x3), some (.int x4), none] SI SJ Q := by
  refine gj_goq gj_clT ok_10 [4, 28, 43, 60] ?_
  show ((SI 66 9) ≤ x4 → gj_Goes E om0 mt_10 100 [some (.ref 66), some (.int x1), some (.int x2), some (.int x3), some (.int x4), none] [] SI SJ (QI Q)) ∧ (¬ (SI 66 9) ≤ x4 → gj_Do E om0 (gj_mt 2) [(.int x3), (.int x4)] SI SJ _)
  refine ⟨fun c1 => ?_, fun c1 => ?_⟩
  · refine gj_goq gj_clT ok_10 [4, 28, 43, 60] ?_
    show gj_Goes E om0 mt_10 4 [some (.ref 66), some (.int x1), some (.int x2), some (.int (x3 + (i3 1))), some (.int x4), none] [] SI SJ (QI Q)
    exact gj_fh (h.1 c1) (And.intro (Or.inr rfl) (And.intro (Or.inr rfl) (And.intro (Or.inr rfl) (And.intro (Or.inr rfl) (And.intro (Or.inl rfl) (And.intro (Or.inl rfl) trivial))))))
  · refine gj_Do.mono (h.2 c1) (fun v_ SI2 SJ2 h_ => ?_)
    obtain ⟨r1, rfl, q2⟩ := h_
    show gj_Goes E om0 mt_10 43 [some (.ref 66), some (.int x1), some (.int x2), some (.int x3), some (.int x4), none] [(.int r1)] SI2 SJ2 (QI Q)
    refine gj_goq gj_clT ok_10 [4, 28, 43, 60] ?_
    show (((x1 >>> (x4 &&& 31)) &&& (i3 1)) = 0 → gj_Goes E om0 mt_10 94 [some (.ref 66), some (.int x1), some (.int x2), some (.int x3), some (.int x4), some (.int r1)] [] SI2 SJ2 (QI Q)) ∧ (¬ ((x1 >>> (x4 &&& 31)) &&& (i3 1)) = 0 → gj_Do E om0 (gj_mt 8) [(.ref 66), (.int r1)] SI2 SJ2 _)
    refine ⟨fun c3 => ?_, fun c3 => ?_⟩
    · refine gj_goq gj_clT ok_10 [4, 28, 43, 60] ?_
      show gj_Goes E om0 mt_10 28 [some (.ref 66), some (.int x1), some (.int x2), some (.int x3), some (.int (x4 + (i3 1))), some (.int r1)] [] SI2 SJ2 (QI Q)
      exact gj_fh (q2.1 c3) (And.intro (Or.inr rfl) (And.intro (Or.inr rfl) (And.intro (Or.inr rfl) (And.intro (Or.inr rfl) (And.intro (Or.inr rfl) (And.intro (Or.inl rfl) trivial))))))
    · refine gj_Do.mono (q2.2 c3) (fun v_ SI4 SJ4 h_ => ?_)
      obtain ⟨r3, rfl, q4⟩ := h_
      show gj_Goes E om0 mt_10 60 [some (.ref 66), some (.int x1), some (.int x2), some (.int x3), some (.int x4), some (.int r1)] [(.int r3)] SI4 SJ4 (QI Q)
      refine gj_goq gj_clT ok_10 [4, 28, 43, 60] ?_
      show (¬ r3 = 0 → gj_Goes E om0 mt_10 66 [some (.ref 66), some (.int x1), some (.int x2), some (.int x3), some (.int x4), some (.int r1)] [] SI4 SJ4 (QI Q)) ∧ (r3 = 0 → gj_Goes E om0 mt_10 94 [some (.ref 66), some (.int x1), some (.int x2), some (.int x3), some (.int x4), some (.int r1)] [] SI4 SJ4 (QI Q))
      refine ⟨fun c5 => ?_, fun c5 => ?_⟩
      · refine gj_goq gj_clT ok_10 [4, 28, 43, 60] ?_
        show vp_in r1 91 ∧ ((((SI4 74 (gj_n r1)) &&& x1) = 0 → gj_Goes E om0 mt_10 90 [some (.ref 66), some (.int x1), some (.int x2), some (.int x3), some (.int x4), some (.int r1)] [] SI4 SJ4 (QI Q)) ∧ (¬ ((SI4 74 (gj_n r1)) &&& x1) = 0 → vp_in r1 91 ∧ ((¬ ((SI4 75 (gj_n r1)) &&& x1) = 0 → gj_Goes E om0 mt_10 92 [some (.ref 66), some (.int x1), some (.int x2), some (.int x3), some (.int x4), some (.int r1)] [] SI4 SJ4 (QI Q)) ∧ (((SI4 75 (gj_n r1)) &&& x1) = 0 → ((i3 0) = 0 ∨ (i3 0) = 1) ∧ (QI Q (some (.int (i3 0))) SI4 SJ4)))))
        have k6 := (q4.1 c5).1
        refine ⟨k6, ?_⟩
        refine ⟨fun c7 => ?_, fun c7 => ?_⟩
        · refine gj_goq gj_clT ok_10 [4, 28, 43, 60] ?_
          show ((i3 0) = 0 ∨ (i3 0) = 1) ∧ (QI Q (some (.int (i3 0))) SI4 SJ4)
          refine ⟨(Or.inl rfl), ?_⟩
          exact ⟨_, rfl, ((q4.1 c5).2.1 c7)⟩
        · refine ⟨k6, ?_⟩
          refine ⟨fun c8 => ?_, fun c8 => ?_⟩
          · refine gj_goq gj_clT ok_10 [4, 28, 43, 60] ?_
            show gj_Goes E om0 mt_10 28 [some (.ref 66), some (.int x1), some (.int (i3 1)), some (.int x3), some (.int (x4 + (i3 1))), some (.int r1)] [] SI4 SJ4 (QI Q)
            exact gj_fh (((q4.1 c5).2.2 c7).1 c8) (And.intro (Or.inr rfl) (And.intro (Or.inr rfl) (And.intro (Or.inr rfl) (And.intro (Or.inr rfl) (And.intro (Or.inr rfl) (And.intro (Or.inl rfl) trivial))))))
          · refine ⟨(Or.inl rfl), ?_⟩
            exact ⟨_, rfl, (((q4.1 c5).2.2 c7).2 c8)⟩
      · refine gj_goq gj_clT ok_10 [4, 28, 43, 60] ?_
        show gj_Goes E om0 mt_10 28 [some (.ref 66), some (.int x1), some (.int x2), some (.int x3), some (.int (x4 + (i3 1))), some (.int r1)] [] SI4 SJ4 (QI Q)
        exact gj_fh (q4.2 c5) (And.intro (Or.inr rfl) (And.intro (Or.inr rfl) (And.intro (Or.inr rfl) (And.intro (Or.inr rfl) (And.intro (Or.inr rfl) (And.intro (Or.inl rfl) trivial))))))
set_option maxRecDepth 20000 in
/-- GraspJudge$Bundle.fewest -/
theorem st_11 {E : gj_E} {Q : Int32 → gj_I → gj_J → Prop} (SI : gj_I) (SJ : gj_J) (h : GoI E mt_11 2 [some (.ref 42), some (.int (i3 4)), none] SI SJ Q) : DoI E 11 [(.ref 42)] SI SJ Q := by
  refine gj_start (M := mt_11) ok_11 (Nat.le_of_ble_eq_true rfl) ?_
  refine gj_goq gj_clT ok_11 [2, 10, 15, 22, 31] ?_
  show gj_Goes E om0 mt_11 2 [some (.ref 42), some (.int (i3 4)), none] [] SI SJ (QI Q)
  exact h
set_option maxRecDepth 20000 in
theorem lp_11_2 {E : gj_E} {Q : Int32 → gj_I → gj_J → Prop} (x1 : Int32) (SI : gj_I) (SJ : gj_J) (h : ((i3 6) < x1 → Q (i3 0) SI SJ) ∧ (¬ (i3 6) < x1 → GoI E mt_11 10 [some (.ref 42), some (.int x1), some (.int (i3 0))] SI SJ Q)) : GoI E mt_11 2 [some (.ref 42), some (.int x1), none] SI SJ Q := by
  refine gj_goq gj_clT ok_11 [2, 10, 15, 22, 31] ?_
  show ((i3 6) < x1 → gj_Goes E om0 mt_11 48 [some (.ref 42), some (.int x1), none] [] SI SJ (QI Q)) ∧ (¬ (i3 6) < x1 → gj_Goes E om0 mt_11 10 [some (.ref 42), some (.int x1), some (.int (i3 0))] [] SI SJ (QI Q))
  refine ⟨fun c1 => ?_, fun c1 => ?_⟩
  · refine gj_goq gj_clT ok_11 [2, 10, 15, 22, 31] ?_
    show QI Q (some (.int (i3 0))) SI SJ
    exact ⟨_, rfl, (h.1 c1)⟩
  · exact (h.2 c1)
set_option maxRecDepth 20000 in
theorem lp_11_10 {E : gj_E} {Q : Int32 → gj_I → gj_J → Prop} (x1 : Int32) (x2 : Int32) (SI : gj_I) (SJ : gj_J) (h : DoI E 3 [(.ref 42)] SI SJ (fun r1 SI2 SJ2 => (r1 < x2 → GoI E mt_11 2 [some (.ref 42), some (.int (x1 + (i3 1))), none] SI2 SJ2 Q) ∧ (¬ r1 < x2 → DoI E 284 [(.int x2)] SI2 SJ2 (fun r3 SI4 SJ4 => (¬ r3 = x1 → GoI E mt_11 10 [some (.ref 42), some (.int x1), some (.int (x2 + (i3 1)))] SI4 SJ4 Q) ∧ (r3 = x1 → DoI E 10 [(.ref 42), (.int x2)] SI4 SJ4 (fun r5 SI6 SJ6 => (r5 = 0 → GoI E mt_11 10 [some (.ref 42), some (.int x1), some (.int (x2 + (i3 1)))] SI6 SJ6 Q) ∧ (¬ r5 = 0 → Q x2 SI6 SJ6))))))) : GoI E mt_11 10 [some (.ref 42), some (.int x1), some (.int x2)] SI SJ Q := by
  refine gj_goq gj_clT ok_11 [2, 10, 15, 22, 31] ?_
  show gj_Do E om0 (gj_mt 3) [(.ref 42)] SI SJ _
  refine gj_Do.mono h (fun v_ SI2 SJ2 h_ => ?_)
  obtain ⟨r1, rfl, q1⟩ := h_
  show gj_Goes E om0 mt_11 15 [some (.ref 42), some (.int x1), some (.int x2)] [(.int r1), (.int x2)] SI2 SJ2 (QI Q)
  refine gj_goq gj_clT ok_11 [2, 10, 15, 22, 31] ?_
  show (r1 < x2 → gj_Goes E om0 mt_11 42 [some (.ref 42), some (.int x1), some (.int x2)] [] SI2 SJ2 (QI Q)) ∧ (¬ r1 < x2 → gj_Do E om0 (gj_mt 284) [(.int x2)] SI2 SJ2 _)
  refine ⟨fun c2 => ?_, fun c2 => ?_⟩
  · refine gj_goq gj_clT ok_11 [2, 10, 15, 22, 31] ?_
    show gj_Goes E om0 mt_11 2 [some (.ref 42), some (.int (x1 + (i3 1))), some (.int x2)] [] SI2 SJ2 (QI Q)
    exact gj_fh (q1.1 c2) (And.intro (Or.inr rfl) (And.intro (Or.inr rfl) (And.intro (Or.inl rfl) trivial)))
  · refine gj_Do.mono (q1.2 c2) (fun v_ SI4 SJ4 h_ => ?_)
    obtain ⟨r3, rfl, q3⟩ := h_
    show gj_Goes E om0 mt_11 22 [some (.ref 42), some (.int x1), some (.int x2)] [(.int r3)] SI4 SJ4 (QI Q)
    refine gj_goq gj_clT ok_11 [2, 10, 15, 22, 31] ?_
    show (¬ r3 = x1 → gj_Goes E om0 mt_11 36 [some (.ref 42), some (.int x1), some (.int x2)] [] SI4 SJ4 (QI Q)) ∧ (r3 = x1 → gj_Do E om0 (gj_mt 10) [(.ref 42), (.int x2)] SI4 SJ4 _)
    refine ⟨fun c4 => ?_, fun c4 => ?_⟩
    · refine gj_goq gj_clT ok_11 [2, 10, 15, 22, 31] ?_
      show gj_Goes E om0 mt_11 10 [some (.ref 42), some (.int x1), some (.int (x2 + (i3 1)))] [] SI4 SJ4 (QI Q)
      exact (q3.1 c4)
    · refine gj_Do.mono (q3.2 c4) (fun v_ SI6 SJ6 h_ => ?_)
      obtain ⟨r5, rfl, q5⟩ := h_
      show gj_Goes E om0 mt_11 31 [some (.ref 42), some (.int x1), some (.int x2)] [(.int r5)] SI6 SJ6 (QI Q)
      refine gj_goq gj_clT ok_11 [2, 10, 15, 22, 31] ?_
      show (r5 = 0 → gj_Goes E om0 mt_11 36 [some (.ref 42), some (.int x1), some (.int x2)] [] SI6 SJ6 (QI Q)) ∧ (¬ r5 = 0 → QI Q (some (.int x2)) SI6 SJ6)
      refine ⟨fun c6 => ?_, fun c6 => ?_⟩
      · refine gj_goq gj_clT ok_11 [2, 10, 15, 22, 31] ?_
        show gj_Goes E om0 mt_11 10 [some (.ref 42), some (.int x1), some (.int (x2 + (i3 1)))] [] SI6 SJ6 (QI Q)
        exact (q5.1 c6)
      · exact ⟨_, rfl, (q5.2 c6)⟩
set_option maxRecDepth 20000 in
/-- GraspJudge$Bundle.multiple -/
theorem st_12 {E : gj_E} {Q : Int64 → gj_I → gj_J → Prop} (a1 : Int32) (a2 : Int32) (SI : gj_I) (SJ : gj_J) (h : GoL E mt_12 8 [some (.ref 42), some (.int a1), some (.int a2), some (.long (i6 0)), none, some (.long (i6 0)), none, some (.int (i3 0)), none, none] SI SJ Q) : DoL E 12 [(.ref 42), (.int a1), (.int a2)] SI SJ Q := by
  refine gj_start (M := mt_12) ok_12 (Nat.le_of_ble_eq_true rfl) ?_
  refine gj_goq gj_clT ok_12 [8, 21, 32] ?_
  show gj_Goes E om0 mt_12 8 [some (.ref 42), some (.int a1), some (.int a2), some (.long (i6 0)), none, some (.long (i6 0)), none, some (.int (i3 0)), none, none] [] SI SJ (QL Q)
  exact h
set_option maxRecDepth 20000 in
theorem lp_12_8 {E : gj_E} {Q : Int64 → gj_I → gj_J → Prop} (x1 : Int32) (x2 : Int32) (x3 : Int64) (x5 : Int64) (x7 : Int32) (SI : gj_I) (SJ : gj_J) (h : ((i3 4) ≤ x7 → (x3 ≤ (i6 1) → Q x5 SI SJ) ∧ (¬ x3 ≤ (i6 1) → ¬ x3 = 0 ∧ (Q (x5 / x3) SI SJ))) ∧ (¬ (i3 4) ≤ x7 → DoL E 13 [(.ref 42), (.int x1), (.int x7)] SI SJ (fun r1 SI2 SJ2 => DoL E 154 [(.long x3), (.long (if 0 < r1 then r1 else -r1))] SI2 SJ2 (fun r3 SI4 SJ4 => (¬ x7 = x2 → GoL E mt_12 8 [some (.ref 42), some (.int x1), some (.int x2), some (.long r3), none, some (.long x5), none, some (.int (x7 + (i3 1))), none, none] SI4 SJ4 Q) ∧ (x7 = x2 → GoL E mt_12 8 [some (.ref 42), some (.int x1), some (.int x2), some (.long r3), none, some (.long (if 0 < r1 then r1 else -r1)), none, some (.int (x7 + (i3 1))), none, none] SI4 SJ4 Q))))) : GoL E mt_12 8 [some (.ref 42), some (.int x1), some (.int x2), some (.long x3), none, some (.long x5), none, some (.int x7), none, none] SI SJ Q := by
  refine gj_goq gj_clT ok_12 [8, 21, 32] ?_
  show ((i3 4) ≤ x7 → gj_Goes E om0 mt_12 54 [some (.ref 42), some (.int x1), some (.int x2), some (.long x3), none, some (.long x5), none, some (.int x7), none, none] [] SI SJ (QL Q)) ∧ (¬ (i3 4) ≤ x7 → gj_Do E om0 (gj_mt 13) [(.ref 42), (.int x1), (.int x7)] SI SJ _)
  refine ⟨fun c1 => ?_, fun c1 => ?_⟩
  · refine gj_goq gj_clT ok_12 [8, 21, 32] ?_
    show ((lg_cmp x3 (i6 1)) ≤ 0 → gj_Goes E om0 mt_12 67 [some (.ref 42), some (.int x1), some (.int x2), some (.long x3), none, some (.long x5), none, some (.int x7), none, none] [] SI SJ (QL Q)) ∧ (¬ (lg_cmp x3 (i6 1)) ≤ 0 → ¬ x3 = 0 ∧ (gj_Goes E om0 mt_12 69 [some (.ref 42), some (.int x1), some (.int x2), some (.long x3), none, some (.long x5), none, some (.int x7), none, none] [(.long (x5 / x3))] SI SJ (QL Q)))
    refine ⟨fun c2 => ?_, fun c2 => ?_⟩
    · refine gj_goq gj_clT ok_12 [8, 21, 32] ?_
      show QL Q (some (.long x5)) SI SJ
      exact ⟨_, rfl, ((h.1 c1).1 (lgc_le.mp c2))⟩
    · have k3 := ((h.1 c1).2 (fun z_ => c2 (lgc_le.mpr z_))).1
      refine ⟨k3, ?_⟩
      refine gj_goq gj_clT ok_12 [8, 21, 32] ?_
      show QL Q (some (.long (x5 / x3))) SI SJ
      exact ⟨_, rfl, ((h.1 c1).2 (fun z_ => c2 (lgc_le.mpr z_))).2⟩
  · refine gj_Do.mono (h.2 c1) (fun v_ SI2 SJ2 h_ => ?_)
    obtain ⟨r1, rfl, q4⟩ := h_
    show gj_Goes E om0 mt_12 21 [some (.ref 42), some (.int x1), some (.int x2), some (.long x3), none, some (.long x5), none, some (.int x7), none, none] [(.long r1)] SI2 SJ2 (QL Q)
    refine gj_goq gj_clT ok_12 [8, 21, 32] ?_
    show gj_Do E om0 (gj_mt 154) [(.long x3), (.long (if 0 < r1 then r1 else -r1))] SI2 SJ2 _
    refine gj_Do.mono q4 (fun v_ SI4 SJ4 h_ => ?_)
    obtain ⟨r3, rfl, q5⟩ := h_
    show gj_Goes E om0 mt_12 32 [some (.ref 42), some (.int x1), some (.int x2), some (.long x3), none, some (.long x5), none, some (.int x7), some (.long (if 0 < r1 then r1 else -r1)), none] [(.long r3)] SI4 SJ4 (QL Q)
    refine gj_goq gj_clT ok_12 [8, 21, 32] ?_
    show (¬ x7 = x2 → gj_Goes E om0 mt_12 44 [some (.ref 42), some (.int x1), some (.int x2), some (.long r3), none, some (.long x5), none, some (.int x7), some (.long (if 0 < r1 then r1 else -r1)), none] [] SI4 SJ4 (QL Q)) ∧ (x7 = x2 → gj_Goes E om0 mt_12 46 [some (.ref 42), some (.int x1), some (.int x2), some (.long r3), none, some (.long x5), none, some (.int x7), some (.long (if 0 < r1 then r1 else -r1)), none] [(.long (if 0 < r1 then r1 else -r1))] SI4 SJ4 (QL Q))
    refine ⟨fun c6 => ?_, fun c6 => ?_⟩
    · refine gj_goq gj_clT ok_12 [8, 21, 32] ?_
      show gj_Goes E om0 mt_12 8 [some (.ref 42), some (.int x1), some (.int x2), some (.long r3), none, some (.long x5), none, some (.int (x7 + (i3 1))), some (.long (if 0 < r1 then r1 else -r1)), none] [] SI4 SJ4 (QL Q)
      exact gj_fh (q5.1 c6) (And.intro (Or.inr rfl) (And.intro (Or.inr rfl) (And.intro (Or.inr rfl) (And.intro (Or.inr rfl) (And.intro (Or.inl rfl) (And.intro (Or.inr rfl) (And.intro (Or.inl rfl) (And.intro (Or.inr rfl) (And.intro (Or.inl rfl) (And.intro (Or.inl rfl) trivial))))))))))
    · refine gj_goq gj_clT ok_12 [8, 21, 32] ?_
      show gj_Goes E om0 mt_12 8 [some (.ref 42), some (.int x1), some (.int x2), some (.long r3), none, some (.long (if 0 < r1 then r1 else -r1)), none, some (.int (x7 + (i3 1))), some (.long (if 0 < r1 then r1 else -r1)), none] [] SI4 SJ4 (QL Q)
      exact gj_fh (q5.2 c6) (And.intro (Or.inr rfl) (And.intro (Or.inr rfl) (And.intro (Or.inr rfl) (And.intro (Or.inr rfl) (And.intro (Or.inl rfl) (And.intro (Or.inr rfl) (And.intro (Or.inl rfl) (And.intro (Or.inr rfl) (And.intro (Or.inl rfl) (And.intro (Or.inl rfl) trivial))))))))))
set_option maxRecDepth 20000 in
/-- GraspJudge$Bundle.spanWithout -/
theorem st_13 {E : gj_E} {Q : Int64 → gj_I → gj_J → Prop} (a1 : Int32) (a2 : Int32) (SI : gj_I) (SJ : gj_J) (h : GoL E mt_13 14 [some (.ref 42), some (.int a1), some (.int a2), some (.int (i3 (-1))), some (.int (i3 (-1))), some (.int (i3 (-1))), some (.int (i3 0)), some (.int (i3 0))] SI SJ Q) : DoL E 13 [(.ref 42), (.int a1), (.int a2)] SI SJ Q := by
  refine gj_start (M := mt_13) ok_13 (Nat.le_of_ble_eq_true rfl) ?_
  refine gj_goq gj_clT ok_13 [14, 78, 81] ?_
  show gj_Goes E om0 mt_13 14 [some (.ref 42), some (.int a1), some (.int a2), some (.int (i3 (-1))), some (.int (i3 (-1))), some (.int (i3 (-1))), some (.int (i3 0)), some (.int (i3 0))] [] SI SJ (QL Q)
  exact h
set_option maxRecDepth 20000 in
theorem lp_13_14 {E : gj_E} {Q : Int64 → gj_I → gj_J → Prop} (x1 : Int32) (x2 : Int32) (x3 : Int32) (x4 : Int32) (x5 : Int32) (x6 : Int32) (x7 : Int32) (SI : gj_I) (SJ : gj_J) (h : ((SI 42 9) ≤ x7 → (0 ≤ x3 → DoI E 2 [(.int x4), (.int x5)] SI SJ (fun r1 SI2 SJ2 => DoL E 7 [(.ref 42), (.int x3), (.int r1)] SI2 SJ2 (fun r3 SI4 SJ4 => Q r3 SI4 SJ4))) ∧ (¬ 0 ≤ x3 → Q (i6 0) SI SJ)) ∧ (¬ (SI 42 9) ≤ x7 → (¬ ((x1 >>> (x7 &&& 31)) &&& (i3 1)) = 0 → (x6 = x2 → GoL E mt_13 14 [some (.ref 42), some (.int x1), some (.int x2), some (.int x3), some (.int x4), some (.int x5), some (.int (x6 + (i3 1))), some (.int (x7 + (i3 1)))] SI SJ Q) ∧ (¬ x6 = x2 → GoL E mt_13 14 [some (.ref 42), some (.int x1), some (.int x2), some (.int x4), some (.int x5), some (.int x7), some (.int (x6 + (i3 1))), some (.int (x7 + (i3 1)))] SI SJ Q)) ∧ (((x1 >>> (x7 &&& 31)) &&& (i3 1)) = 0 → GoL E mt_13 14 [some (.ref 42), some (.int x1), some (.int x2), some (.int x3), some (.int x4), some (.int x5), some (.int x6), some (.int (x7 + (i3 1)))] SI SJ Q))) : GoL E mt_13 14 [some (.ref 42), some (.int x1), some (.int x2), some (.int x3), some (.int x4), some (.int x5), some (.int x6), some (.int x7)] SI SJ Q := by
  refine gj_goq gj_clT ok_13 [14, 78, 81] ?_
  show ((SI 42 9) ≤ x7 → gj_Goes E om0 mt_13 61 [some (.ref 42), some (.int x1), some (.int x2), some (.int x3), some (.int x4), some (.int x5), some (.int x6), some (.int x7)] [] SI SJ (QL Q)) ∧ (¬ (SI 42 9) ≤ x7 → (¬ ((x1 >>> (x7 &&& 31)) &&& (i3 1)) = 0 → gj_Goes E om0 mt_13 35 [some (.ref 42), some (.int x1), some (.int x2), some (.int x3), some (.int x4), some (.int x5), some (.int x6), some (.int x7)] [] SI SJ (QL Q)) ∧ (((x1 >>> (x7 &&& 31)) &&& (i3 1)) = 0 → gj_Goes E om0 mt_13 55 [some (.ref 42), some (.int x1), some (.int x2), some (.int x3), some (.int x4), some (.int x5), some (.int x6), some (.int x7)] [] SI SJ (QL Q)))
  refine ⟨fun c1 => ?_, fun c1 => ?_⟩
  · refine gj_goq gj_clT ok_13 [14, 78, 81] ?_
    show (0 ≤ x3 → gj_Goes E om0 mt_13 69 [some (.ref 42), some (.int x1), some (.int x2), some (.int x3), some (.int x4), some (.int x5), some (.int x6), some (.int x7)] [] SI SJ (QL Q)) ∧ (¬ 0 ≤ x3 → gj_Goes E om0 mt_13 81 [some (.ref 42), some (.int x1), some (.int x2), some (.int x3), some (.int x4), some (.int x5), some (.int x6), some (.int x7)] [(.long (i6 0))] SI SJ (QL Q))
    refine ⟨fun c2 => ?_, fun c2 => ?_⟩
    · refine gj_goq gj_clT ok_13 [14, 78, 81] ?_
      show gj_Do E om0 (gj_mt 2) [(.int x4), (.int x5)] SI SJ _
      refine gj_Do.mono ((h.1 c1).1 c2) (fun v_ SI2 SJ2 h_ => ?_)
      obtain ⟨r1, rfl, q3⟩ := h_
      show gj_Goes E om0 mt_13 78 [some (.ref 42), some (.int x1), some (.int x2), some (.int x3), some (.int x4), some (.int x5), some (.int x6), some (.int x7)] [(.int r1), (.int x3), (.ref 42)] SI2 SJ2 (QL Q)
      refine gj_goq gj_clT ok_13 [14, 78, 81] ?_
      show gj_Do E om0 (gj_mt 7) [(.ref 42), (.int x3), (.int r1)] SI2 SJ2 _
      refine gj_Do.mono q3 (fun v_ SI4 SJ4 h_ => ?_)
      obtain ⟨r3, rfl, q4⟩ := h_
      show gj_Goes E om0 mt_13 81 [some (.ref 42), some (.int x1), some (.int x2), some (.int x3), some (.int x4), some (.int x5), some (.int x6), some (.int x7)] [(.long r3)] SI4 SJ4 (QL Q)
      refine gj_goq gj_clT ok_13 [14, 78, 81] ?_
      show QL Q (some (.long r3)) SI4 SJ4
      exact ⟨_, rfl, q4⟩
    · refine gj_goq gj_clT ok_13 [14, 78, 81] ?_
      show QL Q (some (.long (i6 0))) SI SJ
      exact ⟨_, rfl, ((h.1 c1).2 c2)⟩
  · refine ⟨fun c5 => ?_, fun c5 => ?_⟩
    · refine gj_goq gj_clT ok_13 [14, 78, 81] ?_
      show (x6 = x2 → gj_Goes E om0 mt_13 52 [some (.ref 42), some (.int x1), some (.int x2), some (.int x3), some (.int x4), some (.int x5), some (.int x6), some (.int x7)] [] SI SJ (QL Q)) ∧ (¬ x6 = x2 → gj_Goes E om0 mt_13 14 [some (.ref 42), some (.int x1), some (.int x2), some (.int x4), some (.int x5), some (.int x7), some (.int (x6 + (i3 1))), some (.int (x7 + (i3 1)))] [] SI SJ (QL Q))
      refine ⟨fun c6 => ?_, fun c6 => ?_⟩
      · refine gj_goq gj_clT ok_13 [14, 78, 81] ?_
        show gj_Goes E om0 mt_13 14 [some (.ref 42), some (.int x1), some (.int x2), some (.int x3), some (.int x4), some (.int x5), some (.int (x6 + (i3 1))), some (.int (x7 + (i3 1)))] [] SI SJ (QL Q)
        exact (((h.2 c1).1 c5).1 c6)
      · exact (((h.2 c1).1 c5).2 c6)
    · refine gj_goq gj_clT ok_13 [14, 78, 81] ?_
      show gj_Goes E om0 mt_13 14 [some (.ref 42), some (.int x1), some (.int x2), some (.int x3), some (.int x4), some (.int x5), some (.int x6), some (.int (x7 + (i3 1)))] [] SI SJ (QL Q)
      exact ((h.2 c1).2 c5)
set_option maxRecDepth 20000 in
/-- GraspJudge$Fraction.become -/
theorem st_14_53 {E : gj_E} {Q : gj_I → gj_J → Prop} (a1 : Int64) (a2 : Int64) (SI : gj_I) (SJ : gj_J) (h : DoL E 154 [(.long a1), (.long a2)] SI SJ (fun r1 SI2 SJ2 => (r1 ≤ (i6 1) → (r1 ≤ (i6 1) → Q SI2 (gj_w2 (gj_w2 SJ2 53 0 a1) 53 1 a2)) ∧ (¬ r1 ≤ (i6 1) → ¬ r1 = 0 ∧ (Q SI2 (gj_w2 (gj_w2 SJ2 53 0 a1) 53 1 (a2 / r1))))) ∧ (¬ r1 ≤ (i6 1) → ¬ r1 = 0 ∧ ((r1 ≤ (i6 1) → Q SI2 (gj_w2 (gj_w2 SJ2 53 0 (a1 / r1)) 53 1 a2)) ∧ (¬ r1 ≤ (i6 1) → Q SI2 (gj_w2 (gj_w2 SJ2 53 0 (a1 / r1)) 53 1 (a2 / r1))))))) : DoV E 14 [(.ref 53), (.long a1), (.long a2)] SI SJ Q := by
  refine gj_start (M := mt_14) ok_14 (Nat.le_of_ble_eq_true rfl) ?_
  refine gj_goq gj_clT ok_14 [5] ?_
  show gj_Do E om0 (gj_mt 154) [(.long a1), (.long a2)] SI SJ _
  refine gj_Do.mono h (fun v_ SI2 SJ2 h_ => ?_)
  obtain ⟨r1, rfl, q1⟩ := h_
  show gj_Goes E om0 mt_14 5 [some (.ref 53), some (.long a1), none, some (.long a2), none, none, none] [(.long r1)] SI2 SJ2 (QV Q)
  refine gj_goq gj_clT ok_14 [5] ?_
  show ((lg_cmp r1 (i6 1)) ≤ 0 → gj_Goes E om0 mt_14 22 [some (.ref 53), some (.long a1), none, some (.long a2), none, some (.long r1), none] [(.ref 53)] SI2 SJ2 (QV Q)) ∧ (¬ (lg_cmp r1 (i6 1)) ≤ 0 → ¬ r1 = 0 ∧ (gj_Goes E om0 mt_14 23 [some (.ref 53), some (.long a1), none, some (.long a2), none, some (.long r1), none] [(.long (a1 / r1)), (.ref 53)] SI2 SJ2 (QV Q)))
  refine ⟨fun c2 => ?_, fun c2 => ?_⟩
  · refine gj_goq gj_clT ok_14 [5] ?_
    show ((lg_cmp r1 (i6 1)) ≤ 0 → gj_Goes E om0 mt_14 41 [some (.ref 53), some (.long a1), none, some (.long a2), none, some (.long r1), none] [(.ref 53)] SI2 (gj_w2 SJ2 53 0 a1) (QV Q)) ∧ (¬ (lg_cmp r1 (i6 1)) ≤ 0 → ¬ r1 = 0 ∧ (gj_Goes E om0 mt_14 42 [some (.ref 53), some (.long a1), none, some (.long a2), none, some (.long r1), none] [(.long (a2 / r1)), (.ref 53)] SI2 (gj_w2 SJ2 53 0 a1) (QV Q)))
    refine ⟨fun c3 => ?_, fun c3 => ?_⟩
    · refine gj_goq gj_clT ok_14 [5] ?_
      show QV Q none SI2 (gj_w2 (gj_w2 SJ2 53 0 a1) 53 1 a2)
      exact ⟨rfl, ((q1.1 (lgc_le.mp c2)).1 (lgc_le.mp c3))⟩
    · have k4 := ((q1.1 (lgc_le.mp c2)).2 (fun z_ => c3 (lgc_le.mpr z_))).1
      refine ⟨k4, ?_⟩
      refine gj_goq gj_clT ok_14 [5] ?_
      show QV Q none SI2 (gj_w2 (gj_w2 SJ2 53 0 a1) 53 1 (a2 / r1))
      exact ⟨rfl, ((q1.1 (lgc_le.mp c2)).2 (fun z_ => c3 (lgc_le.mpr z_))).2⟩
  · have k5 := (q1.2 (fun z_ => c2 (lgc_le.mpr z_))).1
    refine ⟨k5, ?_⟩
    refine gj_goq gj_clT ok_14 [5] ?_
    show ((lg_cmp r1 (i6 1)) ≤ 0 → gj_Goes E om0 mt_14 41 [some (.ref 53), some (.long a1), none, some (.long a2), none, some (.long r1), none] [(.ref 53)] SI2 (gj_w2 SJ2 53 0 (a1 / r1)) (QV Q)) ∧ (¬ (lg_cmp r1 (i6 1)) ≤ 0 → ¬ r1 = 0 ∧ (gj_Goes E om0 mt_14 42 [some (.ref 53), some (.long a1), none, some (.long a2), none, some (.long r1), none] [(.long (a2 / r1)), (.ref 53)] SI2 (gj_w2 SJ2 53 0 (a1 / r1)) (QV Q)))
    refine ⟨fun c6 => ?_, fun c6 => ?_⟩
    · refine gj_goq gj_clT ok_14 [5] ?_
      show QV Q none SI2 (gj_w2 (gj_w2 SJ2 53 0 (a1 / r1)) 53 1 a2)
      exact ⟨rfl, ((q1.2 (fun z_ => c2 (lgc_le.mpr z_))).2.1 (lgc_le.mp c6))⟩
    · refine ⟨k5, ?_⟩
      refine gj_goq gj_clT ok_14 [5] ?_
      show QV Q none SI2 (gj_w2 (gj_w2 SJ2 53 0 (a1 / r1)) 53 1 (a2 / r1))
      exact ⟨rfl, ((q1.2 (fun z_ => c2 (lgc_le.mpr z_))).2.2 (fun z_ => c6 (lgc_le.mpr z_)))⟩
set_option maxRecDepth 20000 in
theorem st_14_56 {E : gj_E} {Q : gj_I → gj_J → Prop} (a1 : Int64) (a2 : Int64) (SI : gj_I) (SJ : gj_J) (h : DoL E 154 [(.long a1), (.long a2)] SI SJ (fun r1 SI2 SJ2 => (r1 ≤ (i6 1) → (r1 ≤ (i6 1) → Q SI2 (gj_w2 (gj_w2 SJ2 56 0 a1) 56 1 a2)) ∧ (¬ r1 ≤ (i6 1) → ¬ r1 = 0 ∧ (Q SI2 (gj_w2 (gj_w2 SJ2 56 0 a1) 56 1 (a2 / r1))))) ∧ (¬ r1 ≤ (i6 1) → ¬ r1 = 0 ∧ ((r1 ≤ (i6 1) → Q SI2 (gj_w2 (gj_w2 SJ2 56 0 (a1 / r1)) 56 1 a2)) ∧ (¬ r1 ≤ (i6 1) → Q SI2 (gj_w2 (gj_w2 SJ2 56 0 (a1 / r1)) 56 1 (a2 / r1))))))) : DoV E 14 [(.ref 56), (.long a1), (.long a2)] SI SJ Q := by
  refine gj_start (M := mt_14) ok_14 (Nat.le_of_ble_eq_true rfl) ?_
  refine gj_goq gj_clT ok_14 [5] ?_
  show gj_Do E om0 (gj_mt 154) [(.long a1), (.long a2)] SI SJ _
  refine gj_Do.mono h (fun v_ SI2 SJ2 h_ => ?_)
  obtain ⟨r1, rfl, q1⟩ := h_
  show gj_Goes E om0 mt_14 5 [some (.ref 56), some (.long a1), none, some (.long a2), none, none, none] [(.long r1)] SI2 SJ2 (QV Q)
  refine gj_goq gj_clT ok_14 [5] ?_
  show ((lg_cmp r1 (i6 1)) ≤ 0 → gj_Goes E om0 mt_14 22 [some (.ref 56), some (.long a1), none, some (.long a2), none, some (.long r1), none] [(.ref 56)] SI2 SJ2 (QV Q)) ∧ (¬ (lg_cmp r1 (i6 1)) ≤ 0 → ¬ r1 = 0 ∧ (gj_Goes E om0 mt_14 23 [some (.ref 56), some (.long a1), none, some (.long a2), none, some (.long r1), none] [(.long (a1 / r1)), (.ref 56)] SI2 SJ2 (QV Q)))
  refine ⟨fun c2 => ?_, fun c2 => ?_⟩
  · refine gj_goq gj_clT ok_14 [5] ?_
    show ((lg_cmp r1 (i6 1)) ≤ 0 → gj_Goes E om0 mt_14 41 [some (.ref 56), some (.long a1), none, some (.long a2), none, some (.long r1), none] [(.ref 56)] SI2 (gj_w2 SJ2 56 0 a1) (QV Q)) ∧ (¬ (lg_cmp r1 (i6 1)) ≤ 0 → ¬ r1 = 0 ∧ (gj_Goes E om0 mt_14 42 [some (.ref 56), some (.long a1), none, some (.long a2), none, some (.long r1), none] [(.long (a2 / r1)), (.ref 56)] SI2 (gj_w2 SJ2 56 0 a1) (QV Q)))
    refine ⟨fun c3 => ?_, fun c3 => ?_⟩
    · refine gj_goq gj_clT ok_14 [5] ?_
      show QV Q none SI2 (gj_w2 (gj_w2 SJ2 56 0 a1) 56 1 a2)
      exact ⟨rfl, ((q1.1 (lgc_le.mp c2)).1 (lgc_le.mp c3))⟩
    · have k4 := ((q1.1 (lgc_le.mp c2)).2 (fun z_ => c3 (lgc_le.mpr z_))).1
      refine ⟨k4, ?_⟩
      refine gj_goq gj_clT ok_14 [5] ?_
      show QV Q none SI2 (gj_w2 (gj_w2 SJ2 56 0 a1) 56 1 (a2 / r1))
      exact ⟨rfl, ((q1.1 (lgc_le.mp c2)).2 (fun z_ => c3 (lgc_le.mpr z_))).2⟩
  · have k5 := (q1.2 (fun z_ => c2 (lgc_le.mpr z_))).1
    refine ⟨k5, ?_⟩
    refine gj_goq gj_clT ok_14 [5] ?_
    show ((lg_cmp r1 (i6 1)) ≤ 0 → gj_Goes E om0 mt_14 41 [some (.ref 56), some (.long a1), none, some (.long a2), none, some (.long r1), none] [(.ref 56)] SI2 (gj_w2 SJ2 56 0 (a1 / r1)) (QV Q)) ∧ (¬ (lg_cmp r1 (i6 1)) ≤ 0 → ¬ r1 = 0 ∧ (gj_Goes E om0 mt_14 42 [some (.ref 56), some (.long a1), none, some (.long a2), none, some (.long r1), none] [(.long (a2 / r1)), (.ref 56)] SI2 (gj_w2 SJ2 56 0 (a1 / r1)) (QV Q)))
    refine ⟨fun c6 => ?_, fun c6 => ?_⟩
    · refine gj_goq gj_clT ok_14 [5] ?_
      show QV Q none SI2 (gj_w2 (gj_w2 SJ2 56 0 (a1 / r1)) 56 1 a2)
      exact ⟨rfl, ((q1.2 (fun z_ => c2 (lgc_le.mpr z_))).2.1 (lgc_le.mp c6))⟩
    · refine ⟨k5, ?_⟩
      refine gj_goq gj_clT ok_14 [5] ?_
      show QV Q none SI2 (gj_w2 (gj_w2 SJ2 56 0 (a1 / r1)) 56 1 (a2 / r1))
      exact ⟨rfl, ((q1.2 (fun z_ => c2 (lgc_le.mpr z_))).2.2 (fun z_ => c6 (lgc_le.mpr z_)))⟩
set_option maxRecDepth 20000 in
theorem st_14_57 {E : gj_E} {Q : gj_I → gj_J → Prop} (a1 : Int64) (a2 : Int64) (SI : gj_I) (SJ : gj_J) (h : DoL E 154 [(.long a1), (.long a2)] SI SJ (fun r1 SI2 SJ2 => (r1 ≤ (i6 1) → (r1 ≤ (i6 1) → Q SI2 (gj_w2 (gj_w2 SJ2 57 0 a1) 57 1 a2)) ∧ (¬ r1 ≤ (i6 1) → ¬ r1 = 0 ∧ (Q SI2 (gj_w2 (gj_w2 SJ2 57 0 a1) 57 1 (a2 / r1))))) ∧ (¬ r1 ≤ (i6 1) → ¬ r1 = 0 ∧ ((r1 ≤ (i6 1) → Q SI2 (gj_w2 (gj_w2 SJ2 57 0 (a1 / r1)) 57 1 a2)) ∧ (¬ r1 ≤ (i6 1) → Q SI2 (gj_w2 (gj_w2 SJ2 57 0 (a1 / r1)) 57 1 (a2 / r1))))))) : DoV E 14 [(.ref 57), (.long a1), (.long a2)] SI SJ Q := by
  refine gj_start (M := mt_14) ok_14 (Nat.le_of_ble_eq_true rfl) ?_
  refine gj_goq gj_clT ok_14 [5] ?_
  show gj_Do E om0 (gj_mt 154) [(.long a1), (.long a2)] SI SJ _
  refine gj_Do.mono h (fun v_ SI2 SJ2 h_ => ?_)
  obtain ⟨r1, rfl, q1⟩ := h_
  show gj_Goes E om0 mt_14 5 [some (.ref 57), some (.long a1), none, some (.long a2), none, none, none] [(.long r1)] SI2 SJ2 (QV Q)
  refine gj_goq gj_clT ok_14 [5] ?_
  show ((lg_cmp r1 (i6 1)) ≤ 0 → gj_Goes E om0 mt_14 22 [some (.ref 57), some (.long a1), none, some (.long a2), none, some (.long r1), none] [(.ref 57)] SI2 SJ2 (QV Q)) ∧ (¬ (lg_cmp r1 (i6 1)) ≤ 0 → ¬ r1 = 0 ∧ (gj_Goes E om0 mt_14 23 [some (.ref 57), some (.long a1), none, some (.long a2), none, some (.long r1), none] [(.long (a1 / r1)), (.ref 57)] SI2 SJ2 (QV Q)))
  refine ⟨fun c2 => ?_, fun c2 => ?_⟩
  · refine gj_goq gj_clT ok_14 [5] ?_
    show ((lg_cmp r1 (i6 1)) ≤ 0 → gj_Goes E om0 mt_14 41 [some (.ref 57), some (.long a1), none, some (.long a2), none, some (.long r1), none] [(.ref 57)] SI2 (gj_w2 SJ2 57 0 a1) (QV Q)) ∧ (¬ (lg_cmp r1 (i6 1)) ≤ 0 → ¬ r1 = 0 ∧ (gj_Goes E om0 mt_14 42 [some (.ref 57), some (.long a1), none, some (.long a2), none, some (.long r1), none] [(.long (a2 / r1)), (.ref 57)] SI2 (gj_w2 SJ2 57 0 a1) (QV Q)))
    refine ⟨fun c3 => ?_, fun c3 => ?_⟩
    · refine gj_goq gj_clT ok_14 [5] ?_
      show QV Q none SI2 (gj_w2 (gj_w2 SJ2 57 0 a1) 57 1 a2)
      exact ⟨rfl, ((q1.1 (lgc_le.mp c2)).1 (lgc_le.mp c3))⟩
    · have k4 := ((q1.1 (lgc_le.mp c2)).2 (fun z_ => c3 (lgc_le.mpr z_))).1
      refine ⟨k4, ?_⟩
      refine gj_goq gj_clT ok_14 [5] ?_
      show QV Q none SI2 (gj_w2 (gj_w2 SJ2 57 0 a1) 57 1 (a2 / r1))
      exact ⟨rfl, ((q1.1 (lgc_le.mp c2)).2 (fun z_ => c3 (lgc_le.mpr z_))).2⟩
  · have k5 := (q1.2 (fun z_ => c2 (lgc_le.mpr z_))).1
    refine ⟨k5, ?_⟩
    refine gj_goq gj_clT ok_14 [5] ?_
    show ((lg_cmp r1 (i6 1)) ≤ 0 → gj_Goes E om0 mt_14 41 [some (.ref 57), some (.long a1), none, some (.long a2), none, some (.long r1), none] [(.ref 57)] SI2 (gj_w2 SJ2 57 0 (a1 / r1)) (QV Q)) ∧ (¬ (lg_cmp r1 (i6 1)) ≤ 0 → ¬ r1 = 0 ∧ (gj_Goes E om0 mt_14 42 [some (.ref 57), some (.long a1), none, some (.long a2), none, some (.long r1), none] [(.long (a2 / r1)), (.ref 57)] SI2 (gj_w2 SJ2 57 0 (a1 / r1)) (QV Q)))
    refine ⟨fun c6 => ?_, fun c6 => ?_⟩
    · refine gj_goq gj_clT ok_14 [5] ?_
      show QV Q none SI2 (gj_w2 (gj_w2 SJ2 57 0 (a1 / r1)) 57 1 a2)
      exact ⟨rfl, ((q1.2 (fun z_ => c2 (lgc_le.mpr z_))).2.1 (lgc_le.mp c6))⟩
    · refine ⟨k5, ?_⟩
      refine gj_goq gj_clT ok_14 [5] ?_
      show QV Q none SI2 (gj_w2 (gj_w2 SJ2 57 0 (a1 / r1)) 57 1 (a2 / r1))
      exact ⟨rfl, ((q1.2 (fun z_ => c2 (lgc_le.mpr z_))).2.2 (fun z_ => c6 (lgc_le.mpr z_)))⟩
set_option maxRecDepth 20000 in
theorem st_14_77 {E : gj_E} {Q : gj_I → gj_J → Prop} (a1 : Int64) (a2 : Int64) (SI : gj_I) (SJ : gj_J) (h : DoL E 154 [(.long a1), (.long a2)] SI SJ (fun r1 SI2 SJ2 => (r1 ≤ (i6 1) → (r1 ≤ (i6 1) → Q SI2 (gj_w2 (gj_w2 SJ2 77 0 a1) 77 1 a2)) ∧ (¬ r1 ≤ (i6 1) → ¬ r1 = 0 ∧ (Q SI2 (gj_w2 (gj_w2 SJ2 77 0 a1) 77 1 (a2 / r1))))) ∧ (¬ r1 ≤ (i6 1) → ¬ r1 = 0 ∧ ((r1 ≤ (i6 1) → Q SI2 (gj_w2 (gj_w2 SJ2 77 0 (a1 / r1)) 77 1 a2)) ∧ (¬ r1 ≤ (i6 1) → Q SI2 (gj_w2 (gj_w2 SJ2 77 0 (a1 / r1)) 77 1 (a2 / r1))))))) : DoV E 14 [(.ref 77), (.long a1), (.long a2)] SI SJ Q := by
  refine gj_start (M := mt_14) ok_14 (Nat.le_of_ble_eq_true rfl) ?_
  refine gj_goq gj_clT ok_14 [5] ?_
  show gj_Do E om0 (gj_mt 154) [(.long a1), (.long a2)] SI SJ _
  refine gj_Do.mono h (fun v_ SI2 SJ2 h_ => ?_)
  obtain ⟨r1, rfl, q1⟩ := h_
  show gj_Goes E om0 mt_14 5 [some (.ref 77), some (.long a1), none, some (.long a2), none, none, none] [(.long r1)] SI2 SJ2 (QV Q)
  refine gj_goq gj_clT ok_14 [5] ?_
  show ((lg_cmp r1 (i6 1)) ≤ 0 → gj_Goes E om0 mt_14 22 [some (.ref 77), some (.long a1), none, some (.long a2), none, some (.long r1), none] [(.ref 77)] SI2 SJ2 (QV Q)) ∧ (¬ (lg_cmp r1 (i6 1)) ≤ 0 → ¬ r1 = 0 ∧ (gj_Goes E om0 mt_14 23 [some (.ref 77), some (.long a1), none, some (.long a2), none, some (.long r1), none] [(.long (a1 / r1)), (.ref 77)] SI2 SJ2 (QV Q)))
  refine ⟨fun c2 => ?_, fun c2 => ?_⟩
  · refine gj_goq gj_clT ok_14 [5] ?_
    show ((lg_cmp r1 (i6 1)) ≤ 0 → gj_Goes E om0 mt_14 41 [some (.ref 77), some (.long a1), none, some (.long a2), none, some (.long r1), none] [(.ref 77)] SI2 (gj_w2 SJ2 77 0 a1) (QV Q)) ∧ (¬ (lg_cmp r1 (i6 1)) ≤ 0 → ¬ r1 = 0 ∧ (gj_Goes E om0 mt_14 42 [some (.ref 77), some (.long a1), none, some (.long a2), none, some (.long r1), none] [(.long (a2 / r1)), (.ref 77)] SI2 (gj_w2 SJ2 77 0 a1) (QV Q)))
    refine ⟨fun c3 => ?_, fun c3 => ?_⟩
    · refine gj_goq gj_clT ok_14 [5] ?_
      show QV Q none SI2 (gj_w2 (gj_w2 SJ2 77 0 a1) 77 1 a2)
      exact ⟨rfl, ((q1.1 (lgc_le.mp c2)).1 (lgc_le.mp c3))⟩
    · have k4 := ((q1.1 (lgc_le.mp c2)).2 (fun z_ => c3 (lgc_le.mpr z_))).1
      refine ⟨k4, ?_⟩
      refine gj_goq gj_clT ok_14 [5] ?_
      show QV Q none SI2 (gj_w2 (gj_w2 SJ2 77 0 a1) 77 1 (a2 / r1))
      exact ⟨rfl, ((q1.1 (lgc_le.mp c2)).2 (fun z_ => c3 (lgc_le.mpr z_))).2⟩
  · have k5 := (q1.2 (fun z_ => c2 (lgc_le.mpr z_))).1
    refine ⟨k5, ?_⟩
    refine gj_goq gj_clT ok_14 [5] ?_
    show ((lg_cmp r1 (i6 1)) ≤ 0 → gj_Goes E om0 mt_14 41 [some (.ref 77), some (.long a1), none, some (.long a2), none, some (.long r1), none] [(.ref 77)] SI2 (gj_w2 SJ2 77 0 (a1 / r1)) (QV Q)) ∧ (¬ (lg_cmp r1 (i6 1)) ≤ 0 → ¬ r1 = 0 ∧ (gj_Goes E om0 mt_14 42 [some (.ref 77), some (.long a1), none, some (.long a2), none, some (.long r1), none] [(.long (a2 / r1)), (.ref 77)] SI2 (gj_w2 SJ2 77 0 (a1 / r1)) (QV Q)))
    refine ⟨fun c6 => ?_, fun c6 => ?_⟩
    · refine gj_goq gj_clT ok_14 [5] ?_
      show QV Q none SI2 (gj_w2 (gj_w2 SJ2 77 0 (a1 / r1)) 77 1 a2)
      exact ⟨rfl, ((q1.2 (fun z_ => c2 (lgc_le.mpr z_))).2.1 (lgc_le.mp c6))⟩
    · refine ⟨k5, ?_⟩
      refine gj_goq gj_clT ok_14 [5] ?_
      show QV Q none SI2 (gj_w2 (gj_w2 SJ2 77 0 (a1 / r1)) 77 1 (a2 / r1))
      exact ⟨rfl, ((q1.2 (fun z_ => c2 (lgc_le.mpr z_))).2.2 (fun z_ => c6 (lgc_le.mpr z_)))⟩
set_option maxRecDepth 20000 in
theorem st_14_79 {E : gj_E} {Q : gj_I → gj_J → Prop} (a1 : Int64) (a2 : Int64) (SI : gj_I) (SJ : gj_J) (h : DoL E 154 [(.long a1), (.long a2)] SI SJ (fun r1 SI2 SJ2 => (r1 ≤ (i6 1) → (r1 ≤ (i6 1) → Q SI2 (gj_w2 (gj_w2 SJ2 79 0 a1) 79 1 a2)) ∧ (¬ r1 ≤ (i6 1) → ¬ r1 = 0 ∧ (Q SI2 (gj_w2 (gj_w2 SJ2 79 0 a1) 79 1 (a2 / r1))))) ∧ (¬ r1 ≤ (i6 1) → ¬ r1 = 0 ∧ ((r1 ≤ (i6 1) → Q SI2 (gj_w2 (gj_w2 SJ2 79 0 (a1 / r1)) 79 1 a2)) ∧ (¬ r1 ≤ (i6 1) → Q SI2 (gj_w2 (gj_w2 SJ2 79 0 (a1 / r1)) 79 1 (a2 / r1))))))) : DoV E 14 [(.ref 79), (.long a1), (.long a2)] SI SJ Q := by
  refine gj_start (M := mt_14) ok_14 (Nat.le_of_ble_eq_true rfl) ?_
  refine gj_goq gj_clT ok_14 [5] ?_
  show gj_Do E om0 (gj_mt 154) [(.long a1), (.long a2)] SI SJ _
  refine gj_Do.mono h (fun v_ SI2 SJ2 h_ => ?_)
  obtain ⟨r1, rfl, q1⟩ := h_
  show gj_Goes E om0 mt_14 5 [some (.ref 79), some (.long a1), none, some (.long a2), none, none, none] [(.long r1)] SI2 SJ2 (QV Q)
  refine gj_goq gj_clT ok_14 [5] ?_
  show ((lg_cmp r1 (i6 1)) ≤ 0 → gj_Goes E om0 mt_14 22 [some (.ref 79), some (.long a1), none, some (.long a2), none, some (.long r1), none] [(.ref 79)] SI2 SJ2 (QV Q)) ∧ (¬ (lg_cmp r1 (i6 1)) ≤ 0 → ¬ r1 = 0 ∧ (gj_Goes E om0 mt_14 23 [some (.ref 79), some (.long a1), none, some (.long a2), none, some (.long r1), none] [(.long (a1 / r1)), (.ref 79)] SI2 SJ2 (QV Q)))
  refine ⟨fun c2 => ?_, fun c2 => ?_⟩
  · refine gj_goq gj_clT ok_14 [5] ?_
    show ((lg_cmp r1 (i6 1)) ≤ 0 → gj_Goes E om0 mt_14 41 [some (.ref 79), some (.long a1), none, some (.long a2), none, some (.long r1), none] [(.ref 79)] SI2 (gj_w2 SJ2 79 0 a1) (QV Q)) ∧ (¬ (lg_cmp r1 (i6 1)) ≤ 0 → ¬ r1 = 0 ∧ (gj_Goes E om0 mt_14 42 [some (.ref 79), some (.long a1), none, some (.long a2), none, some (.long r1), none] [(.long (a2 / r1)), (.ref 79)] SI2 (gj_w2 SJ2 79 0 a1) (QV Q)))
    refine ⟨fun c3 => ?_, fun c3 => ?_⟩
    · refine gj_goq gj_clT ok_14 [5] ?_
      show QV Q none SI2 (gj_w2 (gj_w2 SJ2 79 0 a1) 79 1 a2)
      exact ⟨rfl, ((q1.1 (lgc_le.mp c2)).1 (lgc_le.mp c3))⟩
    · have k4 := ((q1.1 (lgc_le.mp c2)).2 (fun z_ => c3 (lgc_le.mpr z_))).1
      refine ⟨k4, ?_⟩
      refine gj_goq gj_clT ok_14 [5] ?_
      show QV Q none SI2 (gj_w2 (gj_w2 SJ2 79 0 a1) 79 1 (a2 / r1))
      exact ⟨rfl, ((q1.1 (lgc_le.mp c2)).2 (fun z_ => c3 (lgc_le.mpr z_))).2⟩
  · have k5 := (q1.2 (fun z_ => c2 (lgc_le.mpr z_))).1
    refine ⟨k5, ?_⟩
    refine gj_goq gj_clT ok_14 [5] ?_
    show ((lg_cmp r1 (i6 1)) ≤ 0 → gj_Goes E om0 mt_14 41 [some (.ref 79), some (.long a1), none, some (.long a2), none, some (.long r1), none] [(.ref 79)] SI2 (gj_w2 SJ2 79 0 (a1 / r1)) (QV Q)) ∧ (¬ (lg_cmp r1 (i6 1)) ≤ 0 → ¬ r1 = 0 ∧ (gj_Goes E om0 mt_14 42 [some (.ref 79), some (.long a1), none, some (.long a2), none, some (.long r1), none] [(.long (a2 / r1)), (.ref 79)] SI2 (gj_w2 SJ2 79 0 (a1 / r1)) (QV Q)))
    refine ⟨fun c6 => ?_, fun c6 => ?_⟩
    · refine gj_goq gj_clT ok_14 [5] ?_
      show QV Q none SI2 (gj_w2 (gj_w2 SJ2 79 0 (a1 / r1)) 79 1 a2)
      exact ⟨rfl, ((q1.2 (fun z_ => c2 (lgc_le.mpr z_))).2.1 (lgc_le.mp c6))⟩
    · refine ⟨k5, ?_⟩
      refine gj_goq gj_clT ok_14 [5] ?_
      show QV Q none SI2 (gj_w2 (gj_w2 SJ2 79 0 (a1 / r1)) 79 1 (a2 / r1))
      exact ⟨rfl, ((q1.2 (fun z_ => c2 (lgc_le.mpr z_))).2.2 (fun z_ => c6 (lgc_le.mpr z_)))⟩
set_option maxRecDepth 20000 in
theorem st_14_80 {E : gj_E} {Q : gj_I → gj_J → Prop} (a1 : Int64) (a2 : Int64) (SI : gj_I) (SJ : gj_J) (h : DoL E 154 [(.long a1), (.long a2)] SI SJ (fun r1 SI2 SJ2 => (r1 ≤ (i6 1) → (r1 ≤ (i6 1) → Q SI2 (gj_w2 (gj_w2 SJ2 80 0 a1) 80 1 a2)) ∧ (¬ r1 ≤ (i6 1) → ¬ r1 = 0 ∧ (Q SI2 (gj_w2 (gj_w2 SJ2 80 0 a1) 80 1 (a2 / r1))))) ∧ (¬ r1 ≤ (i6 1) → ¬ r1 = 0 ∧ ((r1 ≤ (i6 1) → Q SI2 (gj_w2 (gj_w2 SJ2 80 0 (a1 / r1)) 80 1 a2)) ∧ (¬ r1 ≤ (i6 1) → Q SI2 (gj_w2 (gj_w2 SJ2 80 0 (a1 / r1)) 80 1 (a2 / r1))))))) : DoV E 14 [(.ref 80), (.long a1), (.long a2)] SI SJ Q := by
  refine gj_start (M := mt_14) ok_14 (Nat.le_of_ble_eq_true rfl) ?_
  refine gj_goq gj_clT ok_14 [5] ?_
  show gj_Do E om0 (gj_mt 154) [(.long a1), (.long a2)] SI SJ _
  refine gj_Do.mono h (fun v_ SI2 SJ2 h_ => ?_)
  obtain ⟨r1, rfl, q1⟩ := h_
  show gj_Goes E om0 mt_14 5 [some (.ref 80), some (.long a1), none, some (.long a2), none, none, none] [(.long r1)] SI2 SJ2 (QV Q)
  refine gj_goq gj_clT ok_14 [5] ?_
  show ((lg_cmp r1 (i6 1)) ≤ 0 → gj_Goes E om0 mt_14 22 [some (.ref 80), some (.long a1), none, some (.long a2), none, some (.long r1), none] [(.ref 80)] SI2 SJ2 (QV Q)) ∧ (¬ (lg_cmp r1 (i6 1)) ≤ 0 → ¬ r1 = 0 ∧ (gj_Goes E om0 mt_14 23 [some (.ref 80), some (.long a1), none, some (.long a2), none, some (.long r1), none] [(.long (a1 / r1)), (.ref 80)] SI2 SJ2 (QV Q)))
  refine ⟨fun c2 => ?_, fun c2 => ?_⟩
  · refine gj_goq gj_clT ok_14 [5] ?_
    show ((lg_cmp r1 (i6 1)) ≤ 0 → gj_Goes E om0 mt_14 41 [some (.ref 80), some (.long a1), none, some (.long a2), none, some (.long r1), none] [(.ref 80)] SI2 (gj_w2 SJ2 80 0 a1) (QV Q)) ∧ (¬ (lg_cmp r1 (i6 1)) ≤ 0 → ¬ r1 = 0 ∧ (gj_Goes E om0 mt_14 42 [some (.ref 80), some (.long a1), none, some (.long a2), none, some (.long r1), none] [(.long (a2 / r1)), (.ref 80)] SI2 (gj_w2 SJ2 80 0 a1) (QV Q)))
    refine ⟨fun c3 => ?_, fun c3 => ?_⟩
    · refine gj_goq gj_clT ok_14 [5] ?_
      show QV Q none SI2 (gj_w2 (gj_w2 SJ2 80 0 a1) 80 1 a2)
      exact ⟨rfl, ((q1.1 (lgc_le.mp c2)).1 (lgc_le.mp c3))⟩
    · have k4 := ((q1.1 (lgc_le.mp c2)).2 (fun z_ => c3 (lgc_le.mpr z_))).1
      refine ⟨k4, ?_⟩
      refine gj_goq gj_clT ok_14 [5] ?_
      show QV Q none SI2 (gj_w2 (gj_w2 SJ2 80 0 a1) 80 1 (a2 / r1))
      exact ⟨rfl, ((q1.1 (lgc_le.mp c2)).2 (fun z_ => c3 (lgc_le.mpr z_))).2⟩
  · have k5 := (q1.2 (fun z_ => c2 (lgc_le.mpr z_))).1
    refine ⟨k5, ?_⟩
    refine gj_goq gj_clT ok_14 [5] ?_
    show ((lg_cmp r1 (i6 1)) ≤ 0 → gj_Goes E om0 mt_14 41 [some (.ref 80), some (.long a1), none, some (.long a2), none, some (.long r1), none] [(.ref 80)] SI2 (gj_w2 SJ2 80 0 (a1 / r1)) (QV Q)) ∧ (¬ (lg_cmp r1 (i6 1)) ≤ 0 → ¬ r1 = 0 ∧ (gj_Goes E om0 mt_14 42 [some (.ref 80), some (.long a1), none, some (.long a2), none, some (.long r1), none] [(.long (a2 / r1)), (.ref 80)] SI2 (gj_w2 SJ2 80 0 (a1 / r1)) (QV Q)))
    refine ⟨fun c6 => ?_, fun c6 => ?_⟩
    · refine gj_goq gj_clT ok_14 [5] ?_
      show QV Q none SI2 (gj_w2 (gj_w2 SJ2 80 0 (a1 / r1)) 80 1 a2)
      exact ⟨rfl, ((q1.2 (fun z_ => c2 (lgc_le.mpr z_))).2.1 (lgc_le.mp c6))⟩
    · refine ⟨k5, ?_⟩
      refine gj_goq gj_clT ok_14 [5] ?_
      show QV Q none SI2 (gj_w2 (gj_w2 SJ2 80 0 (a1 / r1)) 80 1 (a2 / r1))
      exact ⟨rfl, ((q1.2 (fun z_ => c2 (lgc_le.mpr z_))).2.2 (fun z_ => c6 (lgc_le.mpr z_)))⟩
set_option maxRecDepth 20000 in
/-- GraspJudge$Fraction.isMoreThan -/
theorem st_15_56 {E : gj_E} {Q : Int32 → gj_I → gj_J → Prop} (a1 : Int64) (a2 : Int64) (SI : gj_I) (SJ : gj_J) (h : (((SJ 56 0) * a2) ≤ (a1 * (SJ 56 1)) → Q (i3 0) SI SJ) ∧ (¬ ((SJ 56 0) * a2) ≤ (a1 * (SJ 56 1)) → Q (i3 1) SI SJ)) : DoI E 15 [(.ref 56), (.long a1), (.long a2)] SI SJ Q := by
  refine gj_start (M := mt_15) ok_15 (Nat.le_of_ble_eq_true rfl) ?_
  refine gj_goq gj_clT ok_15 [] ?_
  show ((lg_cmp ((SJ 56 0) * a2) (a1 * (SJ 56 1))) ≤ 0 → gj_Goes E om0 mt_15 20 [some (.ref 56), some (.long a1), none, some (.long a2), none] [] SI SJ (QI Q)) ∧ (¬ (lg_cmp ((SJ 56 0) * a2) (a1 * (SJ 56 1))) ≤ 0 → gj_Goes E om0 mt_15 21 [some (.ref 56), some (.long a1), none, some (.long a2), none] [(.int (i3 1))] SI SJ (QI Q))
  refine ⟨fun c1 => ?_, fun c1 => ?_⟩
  · refine gj_goq gj_clT ok_15 [] ?_
    show ((i3 0) = 0 ∨ (i3 0) = 1) ∧ (QI Q (some (.int (i3 0))) SI SJ)
    refine ⟨(Or.inl rfl), ?_⟩
    exact ⟨_, rfl, (h.1 (lgc_le.mp c1))⟩
  · refine gj_goq gj_clT ok_15 [] ?_
    show ((i3 1) = 0 ∨ (i3 1) = 1) ∧ (QI Q (some (.int (i3 1))) SI SJ)
    refine ⟨(Or.inr rfl), ?_⟩
    exact ⟨_, rfl, (h.2 (fun z_ => c1 (lgc_le.mpr z_)))⟩
set_option maxRecDepth 20000 in
theorem st_15_77 {E : gj_E} {Q : Int32 → gj_I → gj_J → Prop} (a1 : Int64) (a2 : Int64) (SI : gj_I) (SJ : gj_J) (h : (((SJ 77 0) * a2) ≤ (a1 * (SJ 77 1)) → Q (i3 0) SI SJ) ∧ (¬ ((SJ 77 0) * a2) ≤ (a1 * (SJ 77 1)) → Q (i3 1) SI SJ)) : DoI E 15 [(.ref 77), (.long a1), (.long a2)] SI SJ Q := by
  refine gj_start (M := mt_15) ok_15 (Nat.le_of_ble_eq_true rfl) ?_
  refine gj_goq gj_clT ok_15 [] ?_
  show ((lg_cmp ((SJ 77 0) * a2) (a1 * (SJ 77 1))) ≤ 0 → gj_Goes E om0 mt_15 20 [some (.ref 77), some (.long a1), none, some (.long a2), none] [] SI SJ (QI Q)) ∧ (¬ (lg_cmp ((SJ 77 0) * a2) (a1 * (SJ 77 1))) ≤ 0 → gj_Goes E om0 mt_15 21 [some (.ref 77), some (.long a1), none, some (.long a2), none] [(.int (i3 1))] SI SJ (QI Q))
  refine ⟨fun c1 => ?_, fun c1 => ?_⟩
  · refine gj_goq gj_clT ok_15 [] ?_
    show ((i3 0) = 0 ∨ (i3 0) = 1) ∧ (QI Q (some (.int (i3 0))) SI SJ)
    refine ⟨(Or.inl rfl), ?_⟩
    exact ⟨_, rfl, (h.1 (lgc_le.mp c1))⟩
  · refine gj_goq gj_clT ok_15 [] ?_
    show ((i3 1) = 0 ∨ (i3 1) = 1) ∧ (QI Q (some (.int (i3 1))) SI SJ)
    refine ⟨(Or.inr rfl), ?_⟩
    exact ⟨_, rfl, (h.2 (fun z_ => c1 (lgc_le.mpr z_)))⟩
set_option maxRecDepth 20000 in
/-- GraspJudge$Plate.copyOf -/
theorem st_27_4_17 {E : gj_E} {Q : gj_I → gj_J → Prop} (SI : gj_I) (SJ : gj_J) (h : DoV E 28 [(.ref 4)] (gj_ua (gj_ua (gj_u2 SI 4 7 (SI 17 7)) 5 (va_cpy (SI 18) (SI 5) 0 0 8)) 6 (va_cpy (SI 19) (SI 6) 0 0 8)) SJ (fun SI2 SJ2 => Q SI2 SJ2)) : DoV E 27 [(.ref 4), (.ref 17)] SI SJ Q := by
  refine gj_start (M := mt_27) ok_27 (Nat.le_of_ble_eq_true rfl) ?_
  refine gj_goq gj_clT ok_27 [42] ?_
  show ¬ (i3 0) < 0 ∧ (¬ (i3 0) < 0 ∧ (¬ (i3 8) < 0 ∧ (0 + 8 ≤ 8 ∧ (0 + 8 ≤ 8 ∧ (¬ (i3 0) < 0 ∧ (¬ (i3 0) < 0 ∧ (¬ (i3 8) < 0 ∧ (0 + 8 ≤ 8 ∧ (0 + 8 ≤ 8 ∧ (gj_Do E om0 (gj_mt 28) [(.ref 4)] (gj_ua (gj_ua (gj_u2 SI 4 7 (SI 17 7)) 5 (va_cpy (SI 18) (SI 5) 0 0 8)) 6 (va_cpy (SI 19) (SI 6) 0 0 8)) SJ _))))))))))
  refine ⟨(by decide), ?_⟩
  refine ⟨(by decide), ?_⟩
  refine ⟨(by decide), ?_⟩
  refine ⟨(by decide), ?_⟩
  refine ⟨(by decide), ?_⟩
  refine ⟨(by decide), ?_⟩
  refine ⟨(by decide), ?_⟩
  refine ⟨(by decide), ?_⟩
  refine ⟨(by decide), ?_⟩
  refine ⟨(by decide), ?_⟩
  refine gj_Do.mono h (fun v_ SI2 SJ2 h_ => ?_)
  obtain ⟨rfl, q1⟩ := h_
  show gj_Goes E om0 mt_27 42 [some (.ref 4), some (.ref 17)] [] SI2 SJ2 (QV Q)
  refine gj_goq gj_clT ok_27 [42] ?_
  show QV Q none SI2 SJ2
  exact ⟨rfl, q1⟩
set_option maxRecDepth 20000 in
theorem st_27_4_29 {E : gj_E} {Q : gj_I → gj_J → Prop} (SI : gj_I) (SJ : gj_J) (h : DoV E 28 [(.ref 4)] (gj_ua (gj_ua (gj_u2 SI 4 7 (SI 29 7)) 5 (va_cpy (SI 30) (SI 5) 0 0 8)) 6 (va_cpy (SI 31) (SI 6) 0 0 8)) SJ (fun SI2 SJ2 => Q SI2 SJ2)) : DoV E 27 [(.ref 4), (.ref 29)] SI SJ Q := by
  refine gj_start (M := mt_27) ok_27 (Nat.le_of_ble_eq_true rfl) ?_
  refine gj_goq gj_clT ok_27 [42] ?_
  show ¬ (i3 0) < 0 ∧ (¬ (i3 0) < 0 ∧ (¬ (i3 8) < 0 ∧ (0 + 8 ≤ 8 ∧ (0 + 8 ≤ 8 ∧ (¬ (i3 0) < 0 ∧ (¬ (i3 0) < 0 ∧ (¬ (i3 8) < 0 ∧ (0 + 8 ≤ 8 ∧ (0 + 8 ≤ 8 ∧ (gj_Do E om0 (gj_mt 28) [(.ref 4)] (gj_ua (gj_ua (gj_u2 SI 4 7 (SI 29 7)) 5 (va_cpy (SI 30) (SI 5) 0 0 8)) 6 (va_cpy (SI 31) (SI 6) 0 0 8)) SJ _))))))))))
  refine ⟨(by decide), ?_⟩
  refine ⟨(by decide), ?_⟩
  refine ⟨(by decide), ?_⟩
  refine ⟨(by decide), ?_⟩
  refine ⟨(by decide), ?_⟩
  refine ⟨(by decide), ?_⟩
  refine ⟨(by decide), ?_⟩
  refine ⟨(by decide), ?_⟩
  refine ⟨(by decide), ?_⟩
  refine ⟨(by decide), ?_⟩
  refine gj_Do.mono h (fun v_ SI2 SJ2 h_ => ?_)
  obtain ⟨rfl, q1⟩ := h_
  show gj_Goes E om0 mt_27 42 [some (.ref 4), some (.ref 29)] [] SI2 SJ2 (QV Q)
  refine gj_goq gj_clT ok_27 [42] ?_
  show QV Q none SI2 SJ2
  exact ⟨rfl, q1⟩
set_option maxRecDepth 20000 in
theorem st_27_17_4 {E : gj_E} {Q : gj_I → gj_J → Prop} (SI : gj_I) (SJ : gj_J) (h : DoV E 28 [(.ref 17)] (gj_ua (gj_ua (gj_u2 SI 17 7 (SI 4 7)) 18 (va_cpy (SI 5) (SI 18) 0 0 8)) 19 (va_cpy (SI 6) (SI 19) 0 0 8)) SJ (fun SI2 SJ2 => Q SI2 SJ2)) : DoV E 27 [(.ref 17), (.ref 4)] SI SJ Q := by
  refine gj_start (M := mt_27) ok_27 (Nat.le_of_ble_eq_true rfl) ?_
  refine gj_goq gj_clT ok_27 [42] ?_
  show ¬ (i3 0) < 0 ∧ (¬ (i3 0) < 0 ∧ (¬ (i3 8) < 0 ∧ (0 + 8 ≤ 8 ∧ (0 + 8 ≤ 8 ∧ (¬ (i3 0) < 0 ∧ (¬ (i3 0) < 0 ∧ (¬ (i3 8) < 0 ∧ (0 + 8 ≤ 8 ∧ (0 + 8 ≤ 8 ∧ (gj_Do E om0 (gj_mt 28) [(.ref 17)] (gj_ua (gj_ua (gj_u2 SI 17 7 (SI 4 7)) 18 (va_cpy (SI 5) (SI 18) 0 0 8)) 19 (va_cpy (SI 6) (SI 19) 0 0 8)) SJ _))))))))))
  refine ⟨(by decide), ?_⟩
  refine ⟨(by decide), ?_⟩
  refine ⟨(by decide), ?_⟩
  refine ⟨(by decide), ?_⟩
  refine ⟨(by decide), ?_⟩
  refine ⟨(by decide), ?_⟩
  refine ⟨(by decide), ?_⟩
  refine ⟨(by decide), ?_⟩
  refine ⟨(by decide), ?_⟩
  refine ⟨(by decide), ?_⟩
  refine gj_Do.mono h (fun v_ SI2 SJ2 h_ => ?_)
  obtain ⟨rfl, q1⟩ := h_
  show gj_Goes E om0 mt_27 42 [some (.ref 17), some (.ref 4)] [] SI2 SJ2 (QV Q)
  refine gj_goq gj_clT ok_27 [42] ?_
  show QV Q none SI2 SJ2
  exact ⟨rfl, q1⟩
set_option maxRecDepth 20000 in
/-- GraspJudge$Plate.derive -/
theorem st_28_4 {E : gj_E} {Q : gj_I → gj_J → Prop} (SI : gj_I) (SJ : gj_J) (h : GoV E mt_28 7 [some (.ref 4), some (.int (i3 0)), none, none, none, none] (gj_u2 SI 4 8 (i3 0)) SJ Q) : DoV E 28 [(.ref 4)] SI SJ Q := by
  refine gj_start (M := mt_28) ok_28 (Nat.le_of_ble_eq_true rfl) ?_
  refine gj_goq gj_clT ok_28 [7, 24, 42, 58, 112] ?_
  show gj_Goes E om0 mt_28 7 [some (.ref 4), some (.int (i3 0)), none, none, none, none] [] (gj_u2 SI 4 8 (i3 0)) SJ (QV Q)
  exact h
set_option maxRecDepth 20000 in
theorem lp_28_7_4 {E : gj_E} {Q : gj_I → gj_J → Prop} (x1 : Int32) (SI : gj_I) (SJ : gj_J) (h : ((SI 4 7) ≤ x1 → Q SI SJ) ∧ (¬ (SI 4 7) ≤ x1 → DoI E 29 [(.ref 4), (.int x1)] SI SJ (fun r1 SI2 SJ2 => vp_in r1 8 ∧ (vp_in x1 8 ∧ (DoI E 29 [(.ref 4), (.int x1)] SI2 SJ2 (fun r3 SI4 SJ4 => vp_in r3 8 ∧ (DoL E 154 [(.long ((SI2 5 (gj_n r1)) - (SI2 5 (gj_n x1))).toInt64), (.long ((SI4 6 (gj_n r3)) - (SI4 6 (gj_n x1))).toInt64)] SI4 SJ4 (fun r5 SI6 SJ6 => ((r5).toInt32 ≤ (i3 1) → ((r5).toInt32 ≤ (i3 1) → GoV E mt_28 112 [some (.ref 4), some (.int x1), none, none, some (.int (r5).toInt32), some (.int (i3 1))] (gj_u2 (gj_u2 (gj_u2 SI6 9 (gj_n x1) (r5).toInt32) 7 (gj_n x1) ((SI2 5 (gj_n r1)) - (SI2 5 (gj_n x1)))) 8 (gj_n x1) ((SI4 6 (gj_n r3)) - (SI4 6 (gj_n x1)))) SJ6 Q) ∧ (¬ (r5).toInt32 ≤ (i3 1) → ¬ (r5).toInt32 = 0 ∧ (GoV E mt_28 112 [some (.ref 4), some (.int x1), none, none, some (.int (r5).toInt32), some (.int (i3 1))] (gj_u2 (gj_u2 (gj_u2 SI6 9 (gj_n x1) (r5).toInt32) 7 (gj_n x1) ((SI2 5 (gj_n r1)) - (SI2 5 (gj_n x1)))) 8 (gj_n x1) (((SI4 6 (gj_n r3)) - (SI4 6 (gj_n x1))) / (r5).toInt32)) SJ6 Q))) ∧ (¬ (r5).toInt32 ≤ (i3 1) → ¬ (r5).toInt32 = 0 ∧ (((r5).toInt32 ≤ (i3 1) → GoV E mt_28 112 [some (.ref 4), some (.int x1), none, none, some (.int (r5).toInt32), some (.int (i3 1))] (gj_u2 (gj_u2 (gj_u2 SI6 9 (gj_n x1) (r5).toInt32) 7 (gj_n x1) (((SI2 5 (gj_n r1)) - (SI2 5 (gj_n x1))) / (r5).toInt32)) 8 (gj_n x1) ((SI4 6 (gj_n r3)) - (SI4 6 (gj_n x1)))) SJ6 Q) ∧ (¬ (r5).toInt32 ≤ (i3 1) → GoV E mt_28 112 [some (.ref 4), some (.int x1), none, none, some (.int (r5).toInt32), some (.int (i3 1))] (gj_u2 (gj_u2 (gj_u2 SI6 9 (gj_n x1) (r5).toInt32) 7 (gj_n x1) (((SI2 5 (gj_n r1)) - (SI2 5 (gj_n x1))) / (r5).toInt32)) 8 (gj_n x1) (((SI4 6 (gj_n r3)) - (SI4 6 (gj_n x1))) / (r5).toInt32)) SJ6 Q))))))))))) : GoV E mt_28 7 [some (.ref 4), some (.int x1), none, none, none, none] SI SJ Q := by
  refine gj_goq gj_clT ok_28 [7, 24, 42, 58, 112] ?_
  show ((SI 4 7) ≤ x1 → gj_Goes E om0 mt_28 171 [some (.ref 4), some (.int x1), none, none, none, none] [] SI SJ (QV Q)) ∧ (¬ (SI 4 7) ≤ x1 → gj_Do E om0 (gj_mt 29) [(.ref 4), (.int x1)] SI SJ _)
  refine ⟨fun c1 => ?_, fun c1 => ?_⟩
  · refine gj_goq gj_clT ok_28 [7, 24, 42, 58, 112] ?_
    show QV Q none SI SJ
    exact ⟨rfl, (h.1 c1)⟩
  · refine gj_Do.mono (h.2 c1) (fun v_ SI2 SJ2 h_ => ?_)
    obtain ⟨r1, rfl, q2⟩ := h_
    show gj_Goes E om0 mt_28 24 [some (.ref 4), some (.int x1), none, none, none, none] [(.int r1), (.ref 5)] SI2 SJ2 (QV Q)
    refine gj_goq gj_clT ok_28 [7, 24, 42, 58, 112] ?_
    show vp_in r1 8 ∧ (vp_in x1 8 ∧ (gj_Do E om0 (gj_mt 29) [(.ref 4), (.int x1)] SI2 SJ2 _))
    have k3 := q2.1
    refine ⟨k3, ?_⟩
    have k4 := q2.2.1
    refine ⟨k4, ?_⟩
    refine gj_Do.mono q2.2.2 (fun v_ SI4 SJ4 h_ => ?_)
    obtain ⟨r3, rfl, q5⟩ := h_
    show gj_Goes E om0 mt_28 42 [some (.ref 4), some (.int x1), some (.int ((SI2 5 (gj_n r1)) - (SI2 5 (gj_n x1)))), none, none, none] [(.int r3), (.ref 6)] SI4 SJ4 (QV Q)
    refine gj_goq gj_clT ok_28 [7, 24, 42, 58, 112] ?_
    show vp_in r3 8 ∧ (vp_in x1 8 ∧ (gj_Do E om0 (gj_mt 154) [(.long ((SI2 5 (gj_n r1)) - (SI2 5 (gj_n x1))).toInt64), (.long ((SI4 6 (gj_n r3)) - (SI4 6 (gj_n x1))).toInt64)] SI4 SJ4 _))
    have k6 := q5.1
    refine ⟨k6, ?_⟩
    refine ⟨k4, ?_⟩
    refine gj_Do.mono q5.2 (fun v_ SI6 SJ6 h_ => ?_)
    obtain ⟨r5, rfl, q7⟩ := h_
    show gj_Goes E om0 mt_28 58 [some (.ref 4), some (.int x1), some (.int ((SI2 5 (gj_n r1)) - (SI2 5 (gj_n x1)))), some (.int ((SI4 6 (gj_n r3)) - (SI4 6 (gj_n x1)))), none, none] [(.long r5)] SI6 SJ6 (QV Q)
    refine gj_goq gj_clT ok_28 [7, 24, 42, 58, 112] ?_
    show vp_in x1 8 ∧ (((r5).toInt32 ≤ (i3 1) → gj_Goes E om0 mt_28 87 [some (.ref 4), some (.int x1), some (.int ((SI2 5 (gj_n r1)) - (SI2 5 (gj_n x1)))), some (.int ((SI4 6 (gj_n r3)) - (SI4 6 (gj_n x1)))), some (.int (r5).toInt32), none] [(.int x1), (.ref 7)] (gj_u2 SI6 9 (gj_n x1) (r5).toInt32) SJ6 (QV Q)) ∧ (¬ (r5).toInt32 ≤ (i3 1) → ¬ (r5).toInt32 = 0 ∧ (gj_Goes E om0 mt_28 88 [some (.ref 4), some (.int x1), some (.int ((SI2 5 (gj_n r1)) - (SI2 5 (gj_n x1)))), some (.int ((SI4 6 (gj_n r3)) - (SI4 6 (gj_n x1)))), some (.int (r5).toInt32), none] [(.int (((SI2 5 (gj_n r1)) - (SI2 5 (gj_n x1))) / (r5).toInt32)), (.int x1), (.ref 7)] (gj_u2 SI6 9 (gj_n x1) (r5).toInt32) SJ6 (QV Q))))
    refine ⟨k4, ?_⟩
    refine ⟨fun c8 => ?_, fun c8 => ?_⟩
    · refine gj_goq gj_clT ok_28 [7, 24, 42, 58, 112] ?_
      show vp_in x1 8 ∧ (((r5).toInt32 ≤ (i3 1) → gj_Goes E om0 mt_28 107 [some (.ref 4), some (.int x1), some (.int ((SI2 5 (gj_n r1)) - (SI2 5 (gj_n x1)))), some (.int ((SI4 6 (gj_n r3)) - (SI4 6 (gj_n x1)))), some (.int (r5).toInt32), none] [(.int x1), (.ref 8)] (gj_u2 (gj_u2 SI6 9 (gj_n x1) (r5).toInt32) 7 (gj_n x1) ((SI2 5 (gj_n r1)) - (SI2 5 (gj_n x1)))) SJ6 (QV Q)) ∧ (¬ (r5).toInt32 ≤ (i3 1) → ¬ (r5).toInt32 = 0 ∧ (gj_Goes E om0 mt_28 108 [some (.ref 4), some (.int x1), some (.int ((SI2 5 (gj_n r1)) - (SI2 5 (gj_n x1)))), some (.int ((SI4 6 (gj_n r3)) - (SI4 6 (gj_n x1)))), some (.int (r5).toInt32), none] [(.int (((SI4 6 (gj_n r3)) - (SI4 6 (gj_n x1))) / (r5).toInt32)), (.int x1), (.ref 8)] (gj_u2 (gj_u2 SI6 9 (gj_n x1) (r5).toInt32) 7 (gj_n x1) ((SI2 5 (gj_n r1)) - (SI2 5 (gj_n x1)))) SJ6 (QV Q))))
      refine ⟨k4, ?_⟩
      refine ⟨fun c9 => ?_, fun c9 => ?_⟩
      · refine gj_goq gj_clT ok_28 [7, 24, 42, 58, 112] ?_
        show vp_in x1 8 ∧ (gj_Goes E om0 mt_28 112 [some (.ref 4), some (.int x1), some (.int ((SI2 5 (gj_n r1)) - (SI2 5 (gj_n x1)))), some (.int ((SI4 6 (gj_n r3)) - (SI4 6 (gj_n x1)))), some (.int (r5).toInt32), some (.int (i3 1))] [] (gj_u2 (gj_u2 (gj_u2 SI6 9 (gj_n x1) (r5).toInt32) 7 (gj_n x1) ((SI2 5 (gj_n r1)) - (SI2 5 (gj_n x1)))) 8 (gj_n x1) ((SI4 6 (gj_n r3)) - (SI4 6 (gj_n x1)))) SJ6 (QV Q))
        refine ⟨k4, ?_⟩
        exact gj_fh ((q7.1 c8).1 c9) (And.intro (Or.inr rfl) (And.intro (Or.inr rfl) (And.intro (Or.inl rfl) (And.intro (Or.inl rfl) (And.intro (Or.inr rfl) (And.intro (Or.inr rfl) trivial))))))
      · have k10 := ((q7.1 c8).2 c9).1
        refine ⟨k10, ?_⟩
        refine gj_goq gj_clT ok_28 [7, 24, 42, 58, 112] ?_
        show vp_in x1 8 ∧ (gj_Goes E om0 mt_28 112 [some (.ref 4), some (.int x1), some (.int ((SI2 5 (gj_n r1)) - (SI2 5 (gj_n x1)))), some (.int ((SI4 6 (gj_n r3)) - (SI4 6 (gj_n x1)))), some (.int (r5).toInt32), some (.int (i3 1))] [] (gj_u2 (gj_u2 (gj_u2 SI6 9 (gj_n x1) (r5).toInt32) 7 (gj_n x1) ((SI2 5 (gj_n r1)) - (SI2 5 (gj_n x1)))) 8 (gj_n x1) (((SI4 6 (gj_n r3)) - (SI4 6 (gj_n x1))) / (r5).toInt32)) SJ6 (QV Q))
        refine ⟨k4, ?_⟩
        exact gj_fh ((q7.1 c8).2 c9).2 (And.intro (Or.inr rfl) (And.intro (Or.inr rfl) (And.intro (Or.inl rfl) (And.intro (Or.inl rfl) (And.intro (Or.inr rfl) (And.intro (Or.inr rfl) trivial))))))
    · have k11 := (q7.2 c8).1
      refine ⟨k11, ?_⟩
      refine gj_goq gj_clT ok_28 [7, 24, 42, 58, 112] ?_
      show vp_in x1 8 ∧ (((r5).toInt32 ≤ (i3 1) → gj_Goes E om0 mt_28 107 [some (.ref 4), some (.int x1), some (.int ((SI2 5 (gj_n r1)) - (SI2 5 (gj_n x1)))), some (.int ((SI4 6 (gj_n r3)) - (SI4 6 (gj_n x1)))), some (.int (r5).toInt32), none] [(.int x1), (.ref 8)] (gj_u2 (gj_u2 SI6 9 (gj_n x1) (r5).toInt32) 7 (gj_n x1) (((SI2 5 (gj_n r1)) - (SI2 5 (gj_n x1))) / (r5).toInt32)) SJ6 (QV Q)) ∧ (¬ (r5).toInt32 ≤ (i3 1) → ¬ (r5).toInt32 = 0 ∧ (gj_Goes E om0 mt_28 108 [some (.ref 4), some (.int x1), some (.int ((SI2 5 (gj_n r1)) - (SI2 5 (gj_n x1)))), some (.int ((SI4 6 (gj_n r3)) - (SI4 6 (gj_n x1)))), some (.int (r5).toInt32), none] [(.int (((SI4 6 (gj_n r3)) - (SI4 6 (gj_n x1))) / (r5).toInt32)), (.int x1), (.ref 8)] (gj_u2 (gj_u2 SI6 9 (gj_n x1) (r5).toInt32) 7 (gj_n x1) (((SI2 5 (gj_n r1)) - (SI2 5 (gj_n x1))) / (r5).toInt32)) SJ6 (QV Q))))
      refine ⟨k4, ?_⟩
      refine ⟨fun c12 => ?_, fun c12 => ?_⟩
      · refine gj_goq gj_clT ok_28 [7, 24, 42, 58, 112] ?_
        show vp_in x1 8 ∧ (gj_Goes E om0 mt_28 112 [some (.ref 4), some (.int x1), some (.int ((SI2 5 (gj_n r1)) - (SI2 5 (gj_n x1)))), some (.int ((SI4 6 (gj_n r3)) - (SI4 6 (gj_n x1)))), some (.int (r5).toInt32), some (.int (i3 1))] [] (gj_u2 (gj_u2 (gj_u2 SI6 9 (gj_n x1) (r5).toInt32) 7 (gj_n x1) (((SI2 5 (gj_n r1)) - (SI2 5 (gj_n x1))) / (r5).toInt32)) 8 (gj_n x1) ((SI4 6 (gj_n r3)) - (SI4 6 (gj_n x1)))) SJ6 (QV Q))
        refine ⟨k4, ?_⟩
        exact gj_fh ((q7.2 c8).2.1 c12) (And.intro (Or.inr rfl) (And.intro (Or.inr rfl) (And.intro (Or.inl rfl) (And.intro (Or.inl rfl) (And.intro (Or.inr rfl) (And.intro (Or.inr rfl) trivial))))))
      · refine ⟨k11, ?_⟩
        refine gj_goq gj_clT ok_28 [7, 24, 42, 58, 112] ?_
        show vp_in x1 8 ∧ (gj_Goes E om0 mt_28 112 [some (.ref 4), some (.int x1), some (.int ((SI2 5 (gj_n r1)) - (SI2 5 (gj_n x1)))), some (.int ((SI4 6 (gj_n r3)) - (SI4 6 (gj_n x1)))), some (.int (r5).toInt32), some (.int (i3 1))] [] (gj_u2 (gj_u2 (gj_u2 SI6 9 (gj_n x1) (r5).toInt32) 7 (gj_n x1) (((SI2 5 (gj_n r1)) - (SI2 5 (gj_n x1))) / (r5).toInt32)) 8 (gj_n x1) (((SI4 6 (gj_n r3)) - (SI4 6 (gj_n x1))) / (r5).toInt32)) SJ6 (QV Q))
        refine ⟨k4, ?_⟩
        exact gj_fh ((q7.2 c8).2.2 c12) (And.intro (Or.inr rfl) (And.intro (Or.inr rfl) (And.intro (Or.inl rfl) (And.intro (Or.inl rfl) (And.intro (Or.inr rfl) (And.intro (Or.inr rfl) trivial))))))
set_option maxRecDepth 20000 in
theorem lp_28_112_4 {E : gj_E} {Q : gj_I → gj_J → Prop} (x1 : Int32) (x4 : Int32) (x5 : Int32) (SI : gj_I) (SJ : gj_J) (h : (x4 ≤ x5 → GoV E mt_28 7 [some (.ref 4), some (.int (x1 + (i3 1))), none, none, none, none] SI SJ Q) ∧ (¬ x4 ≤ x5 → ((i3 72) ≤ (SI 4 8) → GoV E mt_28 7 [some (.ref 4), some (.int (x1 + (i3 1))), none, none, none, none] SI SJ Q) ∧ (¬ (i3 72) ≤ (SI 4 8) → vp_in (SI 4 8) 72 ∧ (GoV E mt_28 112 [some (.ref 4), some (.int x1), none, none, some (.int x4), some (.int (x5 + (i3 1)))] (gj_u2 (gj_u2 (gj_u2 SI 10 (gj_n (SI 4 8)) x1) 11 (gj_n (SI 4 8)) x5) 4 8 ((SI 4 8) + (i3 1))) SJ Q)))) : GoV E mt_28 112 [some (.ref 4), some (.int x1), none, none, some (.int x4), some (.int x5)] SI SJ Q := by
  refine gj_goq gj_clT ok_28 [7, 24, 42, 58, 112] ?_
  show (x4 ≤ x5 → gj_Goes E om0 mt_28 165 [some (.ref 4), some (.int x1), none, none, some (.int x4), some (.int x5)] [] SI SJ (QV Q)) ∧ (¬ x4 ≤ x5 → ((i3 72) ≤ (SI 4 8) → gj_Goes E om0 mt_28 165 [some (.ref 4), some (.int x1), none, none, some (.int x4), some (.int x5)] [] SI SJ (QV Q)) ∧ (¬ (i3 72) ≤ (SI 4 8) → vp_in (SI 4 8) 72 ∧ (vp_in (SI 4 8) 72 ∧ (gj_Goes E om0 mt_28 112 [some (.ref 4), some (.int x1), none, none, some (.int x4), some (.int (x5 + (i3 1)))] [] (gj_u2 (gj_u2 (gj_u2 SI 10 (gj_n (SI 4 8)) x1) 11 (gj_n (SI 4 8)) x5) 4 8 ((SI 4 8) + (i3 1))) SJ (QV Q)))))
  refine ⟨fun c1 => ?_, fun c1 => ?_⟩
  · refine gj_goq gj_clT ok_28 [7, 24, 42, 58, 112] ?_
    show gj_Goes E om0 mt_28 7 [some (.ref 4), some (.int (x1 + (i3 1))), none, none, some (.int x4), some (.int x5)] [] SI SJ (QV Q)
    exact gj_fh (h.1 c1) (And.intro (Or.inr rfl) (And.intro (Or.inr rfl) (And.intro (Or.inl rfl) (And.intro (Or.inl rfl) (And.intro (Or.inl rfl) (And.intro (Or.inl rfl) trivial))))))
  · refine ⟨fun c2 => ?_, fun c2 => ?_⟩
    · refine gj_goq gj_clT ok_28 [7, 24, 42, 58, 112] ?_
      show gj_Goes E om0 mt_28 7 [some (.ref 4), some (.int (x1 + (i3 1))), none, none, some (.int x4), some (.int x5)] [] SI SJ (QV Q)
      exact gj_fh ((h.2 c1).1 c2) (And.intro (Or.inr rfl) (And.intro (Or.inr rfl) (And.intro (Or.inl rfl) (And.intro (Or.inl rfl) (And.intro (Or.inl rfl) (And.intro (Or.inl rfl) trivial))))))
    · have k3 := ((h.2 c1).2 c2).1
      refine ⟨k3, ?_⟩
      refine ⟨k3, ?_⟩
      exact ((h.2 c1).2 c2).2
set_option maxRecDepth 20000 in
theorem st_28_17 {E : gj_E} {Q : gj_I → gj_J → Prop} (SI : gj_I) (SJ : gj_J) (h : GoV E mt_28 7 [some (.ref 17), some (.int (i3 0)), none, none, none, none] (gj_u2 SI 17 8 (i3 0)) SJ Q) : DoV E 28 [(.ref 17)] SI SJ Q := by
  refine gj_start (M := mt_28) ok_28 (Nat.le_of_ble_eq_true rfl) ?_
  refine gj_goq gj_clT ok_28 [7, 24, 42, 58, 112] ?_
  show gj_Goes E om0 mt_28 7 [some (.ref 17), some (.int (i3 0)), none, none, none, none] [] (gj_u2 SI 17 8 (i3 0)) SJ (QV Q)
  exact h
set_option maxRecDepth 20000 in
theorem lp_28_7_17 {E : gj_E} {Q : gj_I → gj_J → Prop} (x1 : Int32) (SI : gj_I) (SJ : gj_J) (h : ((SI 17 7) ≤ x1 → Q SI SJ) ∧ (¬ (SI 17 7) ≤ x1 → DoI E 29 [(.ref 17), (.int x1)] SI SJ (fun r1 SI2 SJ2 => vp_in r1 8 ∧ (vp_in x1 8 ∧ (DoI E 29 [(.ref 17), (.int x1)] SI2 SJ2 (fun r3 SI4 SJ4 => vp_in r3 8 ∧ (DoL E 154 [(.long ((SI2 18 (gj_n r1)) - (SI2 18 (gj_n x1))).toInt64), (.long ((SI4 19 (gj_n r3)) - (SI4 19 (gj_n x1))).toInt64)] SI4 SJ4 (fun r5 SI6 SJ6 => ((r5).toInt32 ≤ (i3 1) → ((r5).toInt32 ≤ (i3 1) → GoV E mt_28 112 [some (.ref 17), some (.int x1), none, none, some (.int (r5).toInt32), some (.int (i3 1))] (gj_u2 (gj_u2 (gj_u2 SI6 22 (gj_n x1) (r5).toInt32) 20 (gj_n x1) ((SI2 18 (gj_n r1)) - (SI2 18 (gj_n x1)))) 21 (gj_n x1) ((SI4 19 (gj_n r3)) - (SI4 19 (gj_n x1)))) SJ6 Q) ∧ (¬ (r5).toInt32 ≤ (i3 1) → ¬ (r5).toInt32 = 0 ∧ (GoV E mt_28 112 [some (.ref 17), some (.int x1), none, none, some (.int (r5).toInt32), some (.int (i3 1))] (gj_u2 (gj_u2 (gj_u2 SI6 22 (gj_n x1) (r5).toInt32) 20 (gj_n x1) ((SI2 18 (gj_n r1)) - (SI2 18 (gj_n x1)))) 21 (gj_n x1) (((SI4 19 (gj_n r3)) - (SI4 19 (gj_n x1))) / (r5).toInt32)) SJ6 Q))) ∧ (¬ (r5).toInt32 ≤ (i3 1) → ¬ (r5).toInt32 = 0 ∧ (((r5).toInt32 ≤ (i3 1) → GoV E mt_28 112 [some (.ref 17), some (.int x1), none, none, some (.int (r5).toInt32), some (.int (i3 1))] (gj_u2 (gj_u2 (gj_u2 SI6 22 (gj_n x1) (r5).toInt32) 20 (gj_n x1) (((SI2 18 (gj_n r1)) - (SI2 18 (gj_n x1))) / (r5).toInt32)) 21 (gj_n x1) ((SI4 19 (gj_n r3)) - (SI4 19 (gj_n x1)))) SJ6 Q) ∧ (¬ (r5).toInt32 ≤ (i3 1) → GoV E mt_28 112 [some (.ref 17), some (.int x1), none, none, some (.int (r5).toInt32), some (.int (i3 1))] (gj_u2 (gj_u2 (gj_u2 SI6 22 (gj_n x1) (r5).toInt32) 20 (gj_n x1) (((SI2 18 (gj_n r1)) - (SI2 18 (gj_n x1))) / (r5).toInt32)) 21 (gj_n x1) (((SI4 19 (gj_n r3)) - (SI4 19 (gj_n x1))) / (r5).toInt32)) SJ6 Q))))))))))) : GoV E mt_28 7 [some (.ref 17), some (.int x1), none, none, none, none] SI SJ Q := by
  refine gj_goq gj_clT ok_28 [7, 24, 42, 58, 112] ?_
  show ((SI 17 7) ≤ x1 → gj_Goes E om0 mt_28 171 [some (.ref 17), some (.int x1), none, none, none, none] [] SI SJ (QV Q)) ∧ (¬ (SI 17 7) ≤ x1 → gj_Do E om0 (gj_mt 29) [(.ref 17), (.int x1)] SI SJ _)
  refine ⟨fun c1 => ?_, fun c1 => ?_⟩
  · refine gj_goq gj_clT ok_28 [7, 24, 42, 58, 112] ?_
    show QV Q none SI SJ
    exact ⟨rfl, (h.1 c1)⟩
  · refine gj_Do.mono (h.2 c1) (fun v_ SI2 SJ2 h_ => ?_)
    obtain ⟨r1, rfl, q2⟩ := h_
    show gj_Goes E om0 mt_28 24 [some (.ref 17), some (.int x1), none, none, none, none] [(.int r1), (.ref 18)] SI2 SJ2 (QV Q)
    refine gj_goq gj_clT ok_28 [7, 24, 42, 58, 112] ?_
    show vp_in r1 8 ∧ (vp_in x1 8 ∧ (gj_Do E om0 (gj_mt 29) [(.ref 17), (.int x1)] SI2 SJ2 _))
    have k3 := q2.1
    refine ⟨k3, ?_⟩
    have k4 := q2.2.1
    refine ⟨k4, ?_⟩
    refine gj_Do.mono q2.2.2 (fun v_ SI4 SJ4 h_ => ?_)
    obtain ⟨r3, rfl, q5⟩ := h_
    show gj_Goes E om0 mt_28 42 [some (.ref 17), some (.int x1), some (.int ((SI2 18 (gj_n r1)) - (SI2 18 (gj_n x1)))), none, none, none] [(.int r3), (.ref 19)] SI4 SJ4 (QV Q)
    refine gj_goq gj_clT ok_28 [7, 24, 42, 58, 112] ?_
    show vp_in r3 8 ∧ (vp_in x1 8 ∧ (gj_Do E om0 (gj_mt 154) [(.long ((SI2 18 (gj_n r1)) - (SI2 18 (gj_n x1))).toInt64), (.long ((SI4 19 (gj_n r3)) - (SI4 19 (gj_n x1))).toInt64)] SI4 SJ4 _))
    have k6 := q5.1
    refine ⟨k6, ?_⟩
    refine ⟨k4, ?_⟩
    refine gj_Do.mono q5.2 (fun v_ SI6 SJ6 h_ => ?_)
    obtain ⟨r5, rfl, q7⟩ := h_
    show gj_Goes E om0 mt_28 58 [some (.ref 17), some (.int x1), some (.int ((SI2 18 (gj_n r1)) - (SI2 18 (gj_n x1)))), some (.int ((SI4 19 (gj_n r3)) - (SI4 19 (gj_n x1)))), none, none] [(.long r5)] SI6 SJ6 (QV Q)
    refine gj_goq gj_clT ok_28 [7, 24, 42, 58, 112] ?_
    show vp_in x1 8 ∧ (((r5).toInt32 ≤ (i3 1) → gj_Goes E om0 mt_28 87 [some (.ref 17), some (.int x1), some (.int ((SI2 18 (gj_n r1)) - (SI2 18 (gj_n x1)))), some (.int ((SI4 19 (gj_n r3)) - (SI4 19 (gj_n x1)))), some (.int (r5).toInt32), none] [(.int x1), (.ref 20)] (gj_u2 SI6 22 (gj_n x1) (r5).toInt32) SJ6 (QV Q)) ∧ (¬ (r5).toInt32 ≤ (i3 1) → ¬ (r5).toInt32 = 0 ∧ (gj_Goes E om0 mt_28 88 [some (.ref 17), some (.int x1), some (.int ((SI2 18 (gj_n r1)) - (SI2 18 (gj_n x1)))), some (.int ((SI4 19 (gj_n r3)) - (SI4 19 (gj_n x1)))), some (.int (r5).toInt32), none] [(.int (((SI2 18 (gj_n r1)) - (SI2 18 (gj_n x1))) / (r5).toInt32)), (.int x1), (.ref 20)] (gj_u2 SI6 22 (gj_n x1) (r5).toInt32) SJ6 (QV Q))))
    refine ⟨k4, ?_⟩
    refine ⟨fun c8 => ?_, fun c8 => ?_⟩
    · refine gj_goq gj_clT ok_28 [7, 24, 42, 58, 112] ?_
      show vp_in x1 8 ∧ (((r5).toInt32 ≤ (i3 1) → gj_Goes E om0 mt_28 107 [some (.ref 17), some (.int x1), some (.int ((SI2 18 (gj_n r1)) - (SI2 18 (gj_n x1)))), some (.int ((SI4 19 (gj_n r3)) - (SI4 19 (gj_n x1)))), some (.int (r5).toInt32), none] [(.int x1), (.ref 21)] (gj_u2 (gj_u2 SI6 22 (gj_n x1) (r5).toInt32) 20 (gj_n x1) ((SI2 18 (gj_n r1)) - (SI2 18 (gj_n x1)))) SJ6 (QV Q)) ∧ (¬ (r5).toInt32 ≤ (i3 1) → ¬ (r5).toInt32 = 0 ∧ (gj_Goes E om0 mt_28 108 [some (.ref 17), some (.int x1), some (.int ((SI2 18 (gj_n r1)) - (SI2 18 (gj_n x1)))), some (.int ((SI4 19 (gj_n r3)) - (SI4 19 (gj_n x1)))), some (.int (r5).toInt32), none] [(.int (((SI4 19 (gj_n r3)) - (SI4 19 (gj_n x1))) / (r5).toInt32)), (.int x1), (.ref 21)] (gj_u2 (gj_u2 SI6 22 (gj_n x1) (r5).toInt32) 20 (gj_n x1) ((SI2 18 (gj_n r1)) - (SI2 18 (gj_n x1)))) SJ6 (QV Q))))
      refine ⟨k4, ?_⟩
      refine ⟨fun c9 => ?_, fun c9 => ?_⟩
      · refine gj_goq gj_clT ok_28 [7, 24, 42, 58, 112] ?_
        show vp_in x1 8 ∧ (gj_Goes E om0 mt_28 112 [some (.ref 17), some (.int x1), some (.int ((SI2 18 (gj_n r1)) - (SI2 18 (gj_n x1)))), some (.int ((SI4 19 (gj_n r3)) - (SI4 19 (gj_n x1)))), some (.int (r5).toInt32), some (.int (i3 1))] [] (gj_u2 (gj_u2 (gj_u2 SI6 22 (gj_n x1) (r5).toInt32) 20 (gj_n x1) ((SI2 18 (gj_n r1)) - (SI2 18 (gj_n x1)))) 21 (gj_n x1) ((SI4 19 (gj_n r3)) - (SI4 19 (gj_n x1)))) SJ6 (QV Q))
        refine ⟨k4, ?_⟩
        exact gj_fh ((q7.1 c8).1 c9) (And.intro (Or.inr rfl) (And.intro (Or.inr rfl) (And.intro (Or.inl rfl) (And.intro (Or.inl rfl) (And.intro (Or.inr rfl) (And.intro (Or.inr rfl) trivial))))))
      · have k10 := ((q7.1 c8).2 c9).1
        refine ⟨k10, ?_⟩
        refine gj_goq gj_clT ok_28 [7, 24, 42, 58, 112] ?_
        show vp_in x1 8 ∧ (gj_Goes E om0 mt_28 112 [some (.ref 17), some (.int x1), some (.int ((SI2 18 (gj_n r1)) - (SI2 18 (gj_n x1)))), some (.int ((SI4 19 (gj_n r3)) - (SI4 19 (gj_n x1)))), some (.int (r5).toInt32), some (.int (i3 1))] [] (gj_u2 (gj_u2 (gj_u2 SI6 22 (gj_n x1) (r5).toInt32) 20 (gj_n x1) ((SI2 18 (gj_n r1)) - (SI2 18 (gj_n x1)))) 21 (gj_n x1) (((SI4 19 (gj_n r3)) - (SI4 19 (gj_n x1))) / (r5).toInt32)) SJ6 (QV Q))
        refine ⟨k4, ?_⟩
        exact gj_fh ((q7.1 c8).2 c9).2 (And.intro (Or.inr rfl) (And.intro (Or.inr rfl) (And.intro (Or.inl rfl) (And.intro (Or.inl rfl) (And.intro (Or.inr rfl) (And.intro (Or.inr rfl) trivial))))))
    · have k11 := (q7.2 c8).1
      refine ⟨k11, ?_⟩
      refine gj_goq gj_clT ok_28 [7, 24, 42, 58, 112] ?_
      show vp_in x1 8 ∧ (((r5).toInt32 ≤ (i3 1) → gj_Goes E om0 mt_28 107 [some (.ref 17), some (.int x1), some (.int ((SI2 18 (gj_n r1)) - (SI2 18 (gj_n x1)))), some (.int ((SI4 19 (gj_n r3)) - (SI4 19 (gj_n x1)))), some (.int (r5).toInt32), none] [(.int x1), (.ref 21)] (gj_u2 (gj_u2 SI6 22 (gj_n x1) (r5).toInt32) 20 (gj_n x1) (((SI2 18 (gj_n r1)) - (SI2 18 (gj_n x1))) / (r5).toInt32)) SJ6 (QV Q)) ∧ (¬ (r5).toInt32 ≤ (i3 1) → ¬ (r5).toInt32 = 0 ∧ (gj_Goes E om0 mt_28 108 [some (.ref 17), some (.int x1), some (.int ((SI2 18 (gj_n r1)) - (SI2 18 (gj_n x1)))), some (.int ((SI4 19 (gj_n r3)) - (SI4 19 (gj_n x1)))), some (.int (r5).toInt32), none] [(.int (((SI4 19 (gj_n r3)) - (SI4 19 (gj_n x1))) / (r5).toInt32)), (.int x1), (.ref 21)] (gj_u2 (gj_u2 SI6 22 (gj_n x1) (r5).toInt32) 20 (gj_n x1) (((SI2 18 (gj_n r1)) - (SI2 18 (gj_n x1))) / (r5).toInt32)) SJ6 (QV Q))))
      refine ⟨k4, ?_⟩
      refine ⟨fun c12 => ?_, fun c12 => ?_⟩
      · refine gj_goq gj_clT ok_28 [7, 24, 42, 58, 112] ?_
        show vp_in x1 8 ∧ (gj_Goes E om0 mt_28 112 [some (.ref 17), some (.int x1), some (.int ((SI2 18 (gj_n r1)) - (SI2 18 (gj_n x1)))), some (.int ((SI4 19 (gj_n r3)) - (SI4 19 (gj_n x1)))), some (.int (r5).toInt32), some (.int (i3 1))] [] (gj_u2 (gj_u2 (gj_u2 SI6 22 (gj_n x1) (r5).toInt32) 20 (gj_n x1) (((SI2 18 (gj_n r1)) - (SI2 18 (gj_n x1))) / (r5).toInt32)) 21 (gj_n x1) ((SI4 19 (gj_n r3)) - (SI4 19 (gj_n x1)))) SJ6 (QV Q))
        refine ⟨k4, ?_⟩
        exact gj_fh ((q7.2 c8).2.1 c12) (And.intro (Or.inr rfl) (And.intro (Or.inr rfl) (And.intro (Or.inl rfl) (And.intro (Or.inl rfl) (And.intro (Or.inr rfl) (And.intro (Or.inr rfl) trivial))))))
      · refine ⟨k11, ?_⟩
        refine gj_goq gj_clT ok_28 [7, 24, 42, 58, 112] ?_
        show vp_in x1 8 ∧ (gj_Goes E om0 mt_28 112 [some (.ref 17), some (.int x1), some (.int ((SI2 18 (gj_n r1)) - (SI2 18 (gj_n x1)))), some (.int ((SI4 19 (gj_n r3)) - (SI4 19 (gj_n x1)))), some (.int (r5).toInt32), some (.int (i3 1))] [] (gj_u2 (gj_u2 (gj_u2 SI6 22 (gj_n x1) (r5).toInt32) 20 (gj_n x1) (((SI2 18 (gj_n r1)) - (SI2 18 (gj_n x1))) / (r5).toInt32)) 21 (gj_n x1) (((SI4 19 (gj_n r3)) - (SI4 19 (gj_n x1))) / (r5).toInt32)) SJ6 (QV Q))
        refine ⟨k4, ?_⟩
        exact gj_fh ((q7.2 c8).2.2 c12) (And.intro (Or.inr rfl) (And.intro (Or.inr rfl) (And.intro (Or.inl rfl) (And.intro (Or.inl rfl) (And.intro (Or.inr rfl) (And.intro (Or.inr rfl) trivial))))))
set_option maxRecDepth 20000 in
theorem lp_28_112_17 {E : gj_E} {Q : gj_I → gj_J → Prop} (x1 : Int32) (x4 : Int32) (x5 : Int32) (SI : gj_I) (SJ : gj_J) (h : (x4 ≤ x5 → GoV E mt_28 7 [some (.ref 17), some (.int (x1 + (i3 1))), none, none, none, none] SI SJ Q) ∧ (¬ x4 ≤ x5 → ((i3 72) ≤ (SI 17 8) → GoV E mt_28 7 [some (.ref 17), some (.int (x1 + (i3 1))), none, none, none, none] SI SJ Q) ∧ (¬ (i3 72) ≤ (SI 17 8) → vp_in (SI 17 8) 72 ∧ (GoV E mt_28 112 [some (.ref 17), some (.int x1), none, none, some (.int x4), some (.int (x5 + (i3 1)))] (gj_u2 (gj_u2 (gj_u2 SI 23 (gj_n (SI 17 8)) x1) 24 (gj_n (SI 17 8)) x5) 17 8 ((SI 17 8) + (i3 1))) SJ Q)))) : GoV E mt_28 112 [some (.ref 17), some (.int x1), none, none, some (.int x4), some (.int x5)] SI SJ Q := by
  refine gj_goq gj_clT ok_28 [7, 24, 42, 58, 112] ?_
  show (x4 ≤ x5 → gj_Goes E om0 mt_28 165 [some (.ref 17), some (.int x1), none, none, some (.int x4), some (.int x5)] [] SI SJ (QV Q)) ∧ (¬ x4 ≤ x5 → ((i3 72) ≤ (SI 17 8) → gj_Goes E om0 mt_28 165 [some (.ref 17), some (.int x1), none, none, some (.int x4), some (.int x5)] [] SI SJ (QV Q)) ∧ (¬ (i3 72) ≤ (SI 17 8) → vp_in (SI 17 8) 72 ∧ (vp_in (SI 17 8) 72 ∧ (gj_Goes E om0 mt_28 112 [some (.ref 17), some (.int x1), none, none, some (.int x4), some (.int (x5 + (i3 1)))] [] (gj_u2 (gj_u2 (gj_u2 SI 23 (gj_n (SI 17 8)) x1) 24 (gj_n (SI 17 8)) x5) 17 8 ((SI 17 8) + (i3 1))) SJ (QV Q)))))
  refine ⟨fun c1 => ?_, fun c1 => ?_⟩
  · refine gj_goq gj_clT ok_28 [7, 24, 42, 58, 112] ?_
    show gj_Goes E om0 mt_28 7 [some (.ref 17), some (.int (x1 + (i3 1))), none, none, some (.int x4), some (.int x5)] [] SI SJ (QV Q)
    exact gj_fh (h.1 c1) (And.intro (Or.inr rfl) (And.intro (Or.inr rfl) (And.intro (Or.inl rfl) (And.intro (Or.inl rfl) (And.intro (Or.inl rfl) (And.intro (Or.inl rfl) trivial))))))
  · refine ⟨fun c2 => ?_, fun c2 => ?_⟩
    · refine gj_goq gj_clT ok_28 [7, 24, 42, 58, 112] ?_
      show gj_Goes E om0 mt_28 7 [some (.ref 17), some (.int (x1 + (i3 1))), none, none, some (.int x4), some (.int x5)] [] SI SJ (QV Q)
      exact gj_fh ((h.2 c1).1 c2) (And.intro (Or.inr rfl) (And.intro (Or.inr rfl) (And.intro (Or.inl rfl) (And.intro (Or.inl rfl) (And.intro (Or.inl rfl) (And.intro (Or.inl rfl) trivial))))))
    · have k3 := ((h.2 c1).2 c2).1
      refine ⟨k3, ?_⟩
      refine ⟨k3, ?_⟩
      exact ((h.2 c1).2 c2).2
set_option maxRecDepth 20000 in
/-- GraspJudge$Plate.next -/
theorem st_29_4 {E : gj_E} {Q : Int32 → gj_I → gj_J → Prop} (a1 : Int32) (SI : gj_I) (SJ : gj_J) (h : ((SI 4 7) ≤ (a1 + (i3 1)) → Q (i3 0) SI SJ) ∧ (¬ (SI 4 7) ≤ (a1 + (i3 1)) → Q (a1 + (i3 1)) SI SJ)) : DoI E 29 [(.ref 4), (.int a1)] SI SJ Q := by
  refine gj_start (M := mt_29) ok_29 (Nat.le_of_ble_eq_true rfl) ?_
  refine gj_goq gj_clT ok_29 [] ?_
  show ((SI 4 7) ≤ (a1 + (i3 1)) → gj_Goes E om0 mt_29 16 [some (.ref 4), some (.int a1)] [] SI SJ (QI Q)) ∧ (¬ (SI 4 7) ≤ (a1 + (i3 1)) → gj_Goes E om0 mt_29 17 [some (.ref 4), some (.int a1)] [(.int (a1 + (i3 1)))] SI SJ (QI Q))
  refine ⟨fun c1 => ?_, fun c1 => ?_⟩
  · refine gj_goq gj_clT ok_29 [] ?_
    show QI Q (some (.int (i3 0))) SI SJ
    exact ⟨_, rfl, (h.1 c1)⟩
  · refine gj_goq gj_clT ok_29 [] ?_
    show QI Q (some (.int (a1 + (i3 1)))) SI SJ
    exact ⟨_, rfl, (h.2 c1)⟩
set_option maxRecDepth 20000 in
theorem st_29_17 {E : gj_E} {Q : Int32 → gj_I → gj_J → Prop} (a1 : Int32) (SI : gj_I) (SJ : gj_J) (h : ((SI 17 7) ≤ (a1 + (i3 1)) → Q (i3 0) SI SJ) ∧ (¬ (SI 17 7) ≤ (a1 + (i3 1)) → Q (a1 + (i3 1)) SI SJ)) : DoI E 29 [(.ref 17), (.int a1)] SI SJ Q := by
  refine gj_start (M := mt_29) ok_29 (Nat.le_of_ble_eq_true rfl) ?_
  refine gj_goq gj_clT ok_29 [] ?_
  show ((SI 17 7) ≤ (a1 + (i3 1)) → gj_Goes E om0 mt_29 16 [some (.ref 17), some (.int a1)] [] SI SJ (QI Q)) ∧ (¬ (SI 17 7) ≤ (a1 + (i3 1)) → gj_Goes E om0 mt_29 17 [some (.ref 17), some (.int a1)] [(.int (a1 + (i3 1)))] SI SJ (QI Q))
  refine ⟨fun c1 => ?_, fun c1 => ?_⟩
  · refine gj_goq gj_clT ok_29 [] ?_
    show QI Q (some (.int (i3 0))) SI SJ
    exact ⟨_, rfl, (h.1 c1)⟩
  · refine gj_goq gj_clT ok_29 [] ?_
    show QI Q (some (.int (a1 + (i3 1)))) SI SJ
    exact ⟨_, rfl, (h.2 c1)⟩
set_option maxRecDepth 20000 in
theorem st_29_29 {E : gj_E} {Q : Int32 → gj_I → gj_J → Prop} (a1 : Int32) (SI : gj_I) (SJ : gj_J) (h : ((SI 29 7) ≤ (a1 + (i3 1)) → Q (i3 0) SI SJ) ∧ (¬ (SI 29 7) ≤ (a1 + (i3 1)) → Q (a1 + (i3 1)) SI SJ)) : DoI E 29 [(.ref 29), (.int a1)] SI SJ Q := by
  refine gj_start (M := mt_29) ok_29 (Nat.le_of_ble_eq_true rfl) ?_
  refine gj_goq gj_clT ok_29 [] ?_
  show ((SI 29 7) ≤ (a1 + (i3 1)) → gj_Goes E om0 mt_29 16 [some (.ref 29), some (.int a1)] [] SI SJ (QI Q)) ∧ (¬ (SI 29 7) ≤ (a1 + (i3 1)) → gj_Goes E om0 mt_29 17 [some (.ref 29), some (.int a1)] [(.int (a1 + (i3 1)))] SI SJ (QI Q))
  refine ⟨fun c1 => ?_, fun c1 => ?_⟩
  · refine gj_goq gj_clT ok_29 [] ?_
    show QI Q (some (.int (i3 0))) SI SJ
    exact ⟨_, rfl, (h.1 c1)⟩
  · refine gj_goq gj_clT ok_29 [] ?_
    show QI Q (some (.int (a1 + (i3 1)))) SI SJ
    exact ⟨_, rfl, (h.2 c1)⟩
set_option maxRecDepth 20000 in
/-- GraspJudge$Plate.hasPlace -/
theorem st_30 {E : gj_E} {Q : Int32 → gj_I → gj_J → Prop} (a1 : Int32) (a2 : Int32) (SI : gj_I) (SJ : gj_J) (h : (a1 < 0 → Q (i3 0) SI SJ) ∧ (¬ a1 < 0 → ((SI 4 7) ≤ a1 → Q (i3 0) SI SJ) ∧ (¬ (SI 4 7) ≤ a1 → (a2 < (i3 1) → Q (i3 0) SI SJ) ∧ (¬ a2 < (i3 1) → vp_in a1 8 ∧ (((SI 9 (gj_n a1)) ≤ a2 → Q (i3 0) SI SJ) ∧ (¬ (SI 9 (gj_n a1)) ≤ a2 → Q (i3 1) SI SJ)))))) : DoI E 30 [(.ref 4), (.int a1), (.int a2)] SI SJ Q := by
  refine gj_start (M := mt_30) ok_30 (Nat.le_of_ble_eq_true rfl) ?_
  refine gj_goq gj_clT ok_30 [] ?_
  show (a1 < 0 → gj_Goes E om0 mt_30 31 [some (.ref 4), some (.int a1), some (.int a2)] [] SI SJ (QI Q)) ∧ (¬ a1 < 0 → ((SI 4 7) ≤ a1 → gj_Goes E om0 mt_30 31 [some (.ref 4), some (.int a1), some (.int a2)] [] SI SJ (QI Q)) ∧ (¬ (SI 4 7) ≤ a1 → (a2 < (i3 1) → gj_Goes E om0 mt_30 31 [some (.ref 4), some (.int a1), some (.int a2)] [] SI SJ (QI Q)) ∧ (¬ a2 < (i3 1) → vp_in a1 8 ∧ (((SI 9 (gj_n a1)) ≤ a2 → gj_Goes E om0 mt_30 31 [some (.ref 4), some (.int a1), some (.int a2)] [] SI SJ (QI Q)) ∧ (¬ (SI 9 (gj_n a1)) ≤ a2 → gj_Goes E om0 mt_30 32 [some (.ref 4), some (.int a1), some (.int a2)] [(.int (i3 1))] SI SJ (QI Q))))))
  refine ⟨fun c1 => ?_, fun c1 => ?_⟩
  · refine gj_goq gj_clT ok_30 [] ?_
    show ((i3 0) = 0 ∨ (i3 0) = 1) ∧ (QI Q (some (.int (i3 0))) SI SJ)
    refine ⟨(Or.inl rfl), ?_⟩
    exact ⟨_, rfl, (h.1 c1)⟩
  · refine ⟨fun c2 => ?_, fun c2 => ?_⟩
    · refine gj_goq gj_clT ok_30 [] ?_
      show ((i3 0) = 0 ∨ (i3 0) = 1) ∧ (QI Q (some (.int (i3 0))) SI SJ)
      refine ⟨(Or.inl rfl), ?_⟩
      exact ⟨_, rfl, ((h.2 c1).1 c2)⟩
    · refine ⟨fun c3 => ?_, fun c3 => ?_⟩
      · refine gj_goq gj_clT ok_30 [] ?_
        show ((i3 0) = 0 ∨ (i3 0) = 1) ∧ (QI Q (some (.int (i3 0))) SI SJ)
        refine ⟨(Or.inl rfl), ?_⟩
        exact ⟨_, rfl, (((h.2 c1).2 c2).1 c3)⟩
      · have k4 := (((h.2 c1).2 c2).2 c3).1
        refine ⟨k4, ?_⟩
        refine ⟨fun c5 => ?_, fun c5 => ?_⟩
        · refine gj_goq gj_clT ok_30 [] ?_
          show ((i3 0) = 0 ∨ (i3 0) = 1) ∧ (QI Q (some (.int (i3 0))) SI SJ)
          refine ⟨(Or.inl rfl), ?_⟩
          exact ⟨_, rfl, ((((h.2 c1).2 c2).2 c3).2.1 c5)⟩
        · refine gj_goq gj_clT ok_30 [] ?_
          show ((i3 1) = 0 ∨ (i3 1) = 1) ∧ (QI Q (some (.int (i3 1))) SI SJ)
          refine ⟨(Or.inr rfl), ?_⟩
          exact ⟨_, rfl, ((((h.2 c1).2 c2).2 c3).2.2 c5)⟩
set_option maxRecDepth 20000 in
/-- GraspJudge$Plate.stepX -/
theorem st_31 {E : gj_E} {Q : Int32 → gj_I → gj_J → Prop} (a1 : Int32) (a2 : Int32) (SI : gj_I) (SJ : gj_J) (h : vp_in a1 8 ∧ (Q ((SI 5 (gj_n a1)) + (a2 * (SI 7 (gj_n a1)))) SI SJ)) : DoI E 31 [(.ref 4), (.int a1), (.int a2)] SI SJ Q := by
  refine gj_start (M := mt_31) ok_31 (Nat.le_of_ble_eq_true rfl) ?_
  refine gj_goq gj_clT ok_31 [] ?_
  show vp_in a1 8 ∧ (vp_in a1 8 ∧ (QI Q (some (.int ((SI 5 (gj_n a1)) + (a2 * (SI 7 (gj_n a1)))))) SI SJ))
  have k1 := h.1
  refine ⟨k1, ?_⟩
  refine ⟨k1, ?_⟩
  exact ⟨_, rfl, h.2⟩
set_option maxRecDepth 20000 in
/-- GraspJudge$Plate.stepY -/
theorem st_32 {E : gj_E} {Q : Int32 → gj_I → gj_J → Prop} (a1 : Int32) (a2 : Int32) (SI : gj_I) (SJ : gj_J) (h : vp_in a1 8 ∧ (Q ((SI 6 (gj_n a1)) + (a2 * (SI 8 (gj_n a1)))) SI SJ)) : DoI E 32 [(.ref 4), (.int a1), (.int a2)] SI SJ Q := by
  refine gj_start (M := mt_32) ok_32 (Nat.le_of_ble_eq_true rfl) ?_
  refine gj_goq gj_clT ok_32 [] ?_
  show vp_in a1 8 ∧ (vp_in a1 8 ∧ (QI Q (some (.int ((SI 6 (gj_n a1)) + (a2 * (SI 8 (gj_n a1)))))) SI SJ))
  have k1 := h.1
  refine ⟨k1, ?_⟩
  refine ⟨k1, ?_⟩
  exact ⟨_, rfl, h.2⟩
set_option maxRecDepth 20000 in
/-- GraspJudge$Plate.quarterRound -/
theorem st_33 {E : gj_E} {Q : gj_I → gj_J → Prop} (SI : gj_I) (SJ : gj_J) (h : GoV E mt_33 2 [some (.ref 4), some (.int (i3 0)), none] SI SJ Q) : DoV E 33 [(.ref 4)] SI SJ Q := by
  refine gj_start (M := mt_33) ok_33 (Nat.le_of_ble_eq_true rfl) ?_
  refine gj_goq gj_clT ok_33 [2, 49] ?_
  show gj_Goes E om0 mt_33 2 [some (.ref 4), some (.int (i3 0)), none] [] SI SJ (QV Q)
  exact h
set_option maxRecDepth 20000 in
theorem lp_33_2 {E : gj_E} {Q : gj_I → gj_J → Prop} (x1 : Int32) (SI : gj_I) (SJ : gj_J) (h : ((SI 4 7) ≤ x1 → DoV E 28 [(.ref 4)] SI SJ (fun SI2 SJ2 => Q SI2 SJ2)) ∧ (¬ (SI 4 7) ≤ x1 → vp_in x1 8 ∧ (GoV E mt_33 2 [some (.ref 4), some (.int (x1 + (i3 1))), none] (gj_u2 (gj_u2 SI 5 (gj_n x1) ((i3 9) - (SI 6 (gj_n x1)))) 6 (gj_n x1) (SI 5 (gj_n x1))) SJ Q))) : GoV E mt_33 2 [some (.ref 4), some (.int x1), none] SI SJ Q := by
  refine gj_goq gj_clT ok_33 [2, 49] ?_
  show ((SI 4 7) ≤ x1 → gj_Goes E om0 mt_33 45 [some (.ref 4), some (.int x1), none] [] SI SJ (QV Q)) ∧ (¬ (SI 4 7) ≤ x1 → vp_in x1 8 ∧ (vp_in x1 8 ∧ (vp_in x1 8 ∧ (vp_in x1 8 ∧ (gj_Goes E om0 mt_33 2 [some (.ref 4), some (.int (x1 + (i3 1))), some (.int (SI 5 (gj_n x1)))] [] (gj_u2 (gj_u2 SI 5 (gj_n x1) ((i3 9) - (SI 6 (gj_n x1)))) 6 (gj_n x1) (SI 5 (gj_n x1))) SJ (QV Q))))))
  refine ⟨fun c1 => ?_, fun c1 => ?_⟩
  · refine gj_goq gj_clT ok_33 [2, 49] ?_
    show gj_Do E om0 (gj_mt 28) [(.ref 4)] SI SJ _
    refine gj_Do.mono (h.1 c1) (fun v_ SI2 SJ2 h_ => ?_)
    obtain ⟨rfl, q2⟩ := h_
    show gj_Goes E om0 mt_33 49 [some (.ref 4), some (.int x1), none] [] SI2 SJ2 (QV Q)
    refine gj_goq gj_clT ok_33 [2, 49] ?_
    show QV Q none SI2 SJ2
    exact ⟨rfl, q2⟩
  · have k3 := (h.2 c1).1
    refine ⟨k3, ?_⟩
    refine ⟨k3, ?_⟩
    refine ⟨k3, ?_⟩
    refine ⟨k3, ?_⟩
    exact gj_fh (h.2 c1).2 (And.intro (Or.inr rfl) (And.intro (Or.inr rfl) (And.intro (Or.inl rfl) trivial)))
set_option maxRecDepth 20000 in
/-- GraspJudge$Plate.read -/
theorem st_34 {E : gj_E} {Q : Int32 → gj_I → gj_J → Prop} (SI : gj_I) (SJ : gj_J) (h : GoI E mt_34 7 [some (.ref 29), some (.ref 1), some (.int (i3 0)), none] (gj_u2 SI 29 7 (i3 0)) SJ Q) : DoI E 34 [(.ref 29), (.ref 1)] SI SJ Q := by
  refine gj_start (M := mt_34) ok_34 (Nat.le_of_ble_eq_true rfl) ?_
  refine gj_goq gj_clT ok_34 [7, 19, 37, 44, 56, 63, 71, 83, 94] ?_
  show gj_Goes E om0 mt_34 7 [some (.ref 29), some (.ref 1), some (.int (i3 0)), none] [] (gj_u2 SI 29 7 (i3 0)) SJ (QI Q)
  exact h
set_option maxRecDepth 20000 in
theorem lp_34_7 {E : gj_E} {Q : Int32 → gj_I → gj_J → Prop} (x2 : Int32) (SI : gj_I) (SJ : gj_J) (h : ((i3 8) ≤ x2 → DoI E 74 [(.ref 1)] SI SJ (fun r1 SI2 SJ2 => (r1 = 0 → DoI E 76 [(.ref 1), (.int (i3 1))] SI2 SJ2 (fun r3 SI4 SJ4 => Q r3 SI4 SJ4)) ∧ (¬ r1 = 0 → DoI E 76 [(.ref 1), (.int (i3 4))] SI2 SJ2 (fun r5 SI6 SJ6 => Q r5 SI6 SJ6)))) ∧ (¬ (i3 8) ≤ x2 → DoI E 35 [(.ref 29), (.ref 1), (.int x2)] SI SJ (fun r7 SI8 SJ8 => (0 ≤ r7 → DoI E 72 [(.ref 1)] (gj_u2 SI8 29 7 (x2 + (i3 1))) SJ8 (fun r9 SI10 SJ10 => (r9 = 0 → DoI E 75 [(.ref 1), (.int (i3 59))] SI10 SJ10 (fun r11 SI12 SJ12 => (¬ r11 = 0 → GoI E mt_34 7 [some (.ref 29), some (.ref 1), some (.int (x2 + (i3 1))), none] SI12 SJ12 Q) ∧ (r11 = 0 → DoI E 76 [(.ref 1), (.int (i3 1))] SI12 SJ12 (fun r13 SI14 SJ14 => Q r13 SI14 SJ14)))) ∧ (¬ r9 = 0 → DoI E 36 [(.ref 29)] SI10 SJ10 (fun r15 SI16 SJ16 => (r15 = 0 → DoI E 76 [(.ref 1), (.int (i3 5))] SI16 SJ16 (fun r17 SI18 SJ18 => Q r17 SI18 SJ18)) ∧ (¬ r15 = 0 → Q (i3 0) SI16 SJ16))))) ∧ (¬ 0 ≤ r7 → Q r7 SI8 SJ8)))) : GoI E mt_34 7 [some (.ref 29), some (.ref 1), some (.int x2), none] SI SJ Q := by
  refine gj_goq gj_clT ok_34 [7, 19, 37, 44, 56, 63, 71, 83, 94] ?_
  show ((i3 8) ≤ x2 → gj_Goes E om0 mt_34 78 [some (.ref 29), some (.ref 1), some (.int x2), none] [] SI SJ (QI Q)) ∧ (¬ (i3 8) ≤ x2 → gj_Do E om0 (gj_mt 35) [(.ref 29), (.ref 1), (.int x2)] SI SJ _)
  refine ⟨fun c1 => ?_, fun c1 => ?_⟩
  · refine gj_goq gj_clT ok_34 [7, 19, 37, 44, 56, 63, 71, 83, 94] ?_
    show gj_Do E om0 (gj_mt 74) [(.ref 1)] SI SJ _
    refine gj_Do.mono (h.1 c1) (fun v_ SI2 SJ2 h_ => ?_)
    obtain ⟨r1, rfl, q2⟩ := h_
    show gj_Goes E om0 mt_34 83 [some (.ref 29), some (.ref 1), some (.int x2), none] [(.int r1), (.ref 1)] SI2 SJ2 (QI Q)
    refine gj_goq gj_clT ok_34 [7, 19, 37, 44, 56, 63, 71, 83, 94] ?_
    show (r1 = 0 → gj_Goes E om0 mt_34 90 [some (.ref 29), some (.ref 1), some (.int x2), none] [(.ref 1)] SI2 SJ2 (QI Q)) ∧ (¬ r1 = 0 → gj_Goes E om0 mt_34 91 [some (.ref 29), some (.ref 1), some (.int x2), none] [(.int (i3 4)), (.ref 1)] SI2 SJ2 (QI Q))
    refine ⟨fun c3 => ?_, fun c3 => ?_⟩
    · refine gj_goq gj_clT ok_34 [7, 19, 37, 44, 56, 63, 71, 83, 94] ?_
      show gj_Do E om0 (gj_mt 76) [(.ref 1), (.int (i3 1))] SI2 SJ2 _
      refine gj_Do.mono (q2.1 c3) (fun v_ SI4 SJ4 h_ => ?_)
      obtain ⟨r3, rfl, q4⟩ := h_
      show gj_Goes E om0 mt_34 94 [some (.ref 29), some (.ref 1), some (.int x2), none] [(.int r3)] SI4 SJ4 (QI Q)
      refine gj_goq gj_clT ok_34 [7, 19, 37, 44, 56, 63, 71, 83, 94] ?_
      show QI Q (some (.int r3)) SI4 SJ4
      exact ⟨_, rfl, q4⟩
    · refine gj_goq gj_clT ok_34 [7, 19, 37, 44, 56, 63, 71, 83, 94] ?_
      show gj_Do E om0 (gj_mt 76) [(.ref 1), (.int (i3 4))] SI2 SJ2 _
      refine gj_Do.mono (q2.2 c3) (fun v_ SI6 SJ6 h_ => ?_)
      obtain ⟨r5, rfl, q5⟩ := h_
      show gj_Goes E om0 mt_34 94 [some (.ref 29), some (.ref 1), some (.int x2), none] [(.int r5)] SI6 SJ6 (QI Q)
      refine gj_goq gj_clT ok_34 [7, 19, 37, 44, 56, 63, 71, 83, 94] ?_
      show QI Q (some (.int r5)) SI6 SJ6
      exact ⟨_, rfl, q5⟩
  · refine gj_Do.mono (h.2 c1) (fun v_ SI8 SJ8 h_ => ?_)
    obtain ⟨r7, rfl, q6⟩ := h_
    show gj_Goes E om0 mt_34 19 [some (.ref 29), some (.ref 1), some (.int x2), none] [(.int r7)] SI8 SJ8 (QI Q)
    refine gj_goq gj_clT ok_34 [7, 19, 37, 44, 56, 63, 71, 83, 94] ?_
    show (0 ≤ r7 → gj_Goes E om0 mt_34 26 [some (.ref 29), some (.ref 1), some (.int x2), some (.int r7)] [] SI8 SJ8 (QI Q)) ∧ (¬ 0 ≤ r7 → QI Q (some (.int r7)) SI8 SJ8)
    refine ⟨fun c7 => ?_, fun c7 => ?_⟩
    · refine gj_goq gj_clT ok_34 [7, 19, 37, 44, 56, 63, 71, 83, 94] ?_
      show gj_Do E om0 (gj_mt 72) [(.ref 1)] (gj_u2 SI8 29 7 (x2 + (i3 1))) SJ8 _
      refine gj_Do.mono (q6.1 c7) (fun v_ SI10 SJ10 h_ => ?_)
      obtain ⟨r9, rfl, q8⟩ := h_
      show gj_Goes E om0 mt_34 37 [some (.ref 29), some (.ref 1), some (.int x2), some (.int r7)] [(.int r9)] SI10 SJ10 (QI Q)
      refine gj_goq gj_clT ok_34 [7, 19, 37, 44, 56, 63, 71, 83, 94] ?_
      show (r9 = 0 → gj_Goes E om0 mt_34 57 [some (.ref 29), some (.ref 1), some (.int x2), some (.int r7)] [] SI10 SJ10 (QI Q)) ∧ (¬ r9 = 0 → gj_Do E om0 (gj_mt 36) [(.ref 29)] SI10 SJ10 _)
      refine ⟨fun c9 => ?_, fun c9 => ?_⟩
      · refine gj_goq gj_clT ok_34 [7, 19, 37, 44, 56, 63, 71, 83, 94] ?_
        show gj_Do E om0 (gj_mt 75) [(.ref 1), (.int (i3 59))] SI10 SJ10 _
        refine gj_Do.mono (q8.1 c9) (fun v_ SI12 SJ12 h_ => ?_)
        obtain ⟨r11, rfl, q10⟩ := h_
        show gj_Goes E om0 mt_34 63 [some (.ref 29), some (.ref 1), some (.int x2), some (.int r7)] [(.int r11)] SI12 SJ12 (QI Q)
        refine gj_goq gj_clT ok_34 [7, 19, 37, 44, 56, 63, 71, 83, 94] ?_
        show (¬ r11 = 0 → gj_Goes E om0 mt_34 72 [some (.ref 29), some (.ref 1), some (.int x2), some (.int r7)] [] SI12 SJ12 (QI Q)) ∧ (r11 = 0 → gj_Do E om0 (gj_mt 76) [(.ref 1), (.int (i3 1))] SI12 SJ12 _)
        refine ⟨fun c11 => ?_, fun c11 => ?_⟩
        · refine gj_goq gj_clT ok_34 [7, 19, 37, 44, 56, 63, 71, 83, 94] ?_
          show gj_Goes E om0 mt_34 7 [some (.ref 29), some (.ref 1), some (.int (x2 + (i3 1))), some (.int r7)] [] SI12 SJ12 (QI Q)
          exact gj_fh (q10.1 c11) (And.intro (Or.inr rfl) (And.intro (Or.inr rfl) (And.intro (Or.inr rfl) (And.intro (Or.inl rfl) trivial))))
        · refine gj_Do.mono (q10.2 c11) (fun v_ SI14 SJ14 h_ => ?_)
          obtain ⟨r13, rfl, q12⟩ := h_
          show gj_Goes E om0 mt_34 71 [some (.ref 29), some (.ref 1), some (.int x2), some (.int r7)] [(.int r13)] SI14 SJ14 (QI Q)
          refine gj_goq gj_clT ok_34 [7, 19, 37, 44, 56, 63, 71, 83, 94] ?_
          show QI Q (some (.int r13)) SI14 SJ14
          exact ⟨_, rfl, q12⟩
      · refine gj_Do.mono (q8.2 c9) (fun v_ SI16 SJ16 h_ => ?_)
        obtain ⟨r15, rfl, q13⟩ := h_
        show gj_Goes E om0 mt_34 44 [some (.ref 29), some (.ref 1), some (.int x2), some (.int r7)] [(.int r15)] SI16 SJ16 (QI Q)
        refine gj_goq gj_clT ok_34 [7, 19, 37, 44, 56, 63, 71, 83, 94] ?_
        show (r15 = 0 → gj_Goes E om0 mt_34 51 [some (.ref 29), some (.ref 1), some (.int x2), some (.int r7)] [] SI16 SJ16 (QI Q)) ∧ (¬ r15 = 0 → gj_Goes E om0 mt_34 56 [some (.ref 29), some (.ref 1), some (.int x2), some (.int r7)] [(.int (i3 0))] SI16 SJ16 (QI Q))
        refine ⟨fun c14 => ?_, fun c14 => ?_⟩
        · refine gj_goq gj_clT ok_34 [7, 19, 37, 44, 56, 63, 71, 83, 94] ?_
          show gj_Do E om0 (gj_mt 76) [(.ref 1), (.int (i3 5))] SI16 SJ16 _
          refine gj_Do.mono (q13.1 c14) (fun v_ SI18 SJ18 h_ => ?_)
          obtain ⟨r17, rfl, q15⟩ := h_
          show gj_Goes E om0 mt_34 56 [some (.ref 29), some (.ref 1), some (.int x2), some (.int r7)] [(.int r17)] SI18 SJ18 (QI Q)
          refine gj_goq gj_clT ok_34 [7, 19, 37, 44, 56, 63, 71, 83, 94] ?_
          show QI Q (some (.int r17)) SI18 SJ18
          exact ⟨_, rfl, q15⟩
        · refine gj_goq gj_clT ok_34 [7, 19, 37, 44, 56, 63, 71, 83, 94] ?_
          show QI Q (some (.int (i3 0))) SI16 SJ16
          exact ⟨_, rfl, (q13.2 c14)⟩
    · exact ⟨_, rfl, (q6.2 c7)⟩
set_option maxRecDepth 20000 in
/-- GraspJudge$Plate.readCorner -/
theorem st_35 {E : gj_E} {Q : Int32 → gj_I → gj_J → Prop} (a1 : Int32) (SI : gj_I) (SJ : gj_J) (h : DoI E 74 [(.ref 1)] SI SJ (fun r1 SI2 SJ2 => (¬ r1 = 0 → DoI E 73 [(.ref 1), (.int (SI2 1 2))] SI2 SJ2 (fun r3 SI4 SJ4 => vp_in a1 8 ∧ (DoI E 75 [(.ref 1), (.int (i3 44))] (gj_u2 (gj_u2 SI4 30 (gj_n a1) (r3 - (i3 48))) 1 2 ((SI4 1 2) + (i3 1))) SJ4 (fun r5 SI6 SJ6 => (r5 = 0 → DoI E 76 [(.ref 1), (.int (i3 1))] SI6 SJ6 (fun r7 SI8 SJ8 => Q r7 SI8 SJ8)) ∧ (¬ r5 = 0 → DoI E 74 [(.ref 1)] SI6 SJ6 (fun r9 SI10 SJ10 => (¬ r9 = 0 → DoI E 73 [(.ref 1), (.int (SI10 1 2))] SI10 SJ10 (fun r11 SI12 SJ12 => Q (i3 0) (gj_u2 (gj_u2 SI12 31 (gj_n a1) (r11 - (i3 48))) 1 2 ((SI12 1 2) + (i3 1))) SJ12)) ∧ (r9 = 0 → DoI E 76 [(.ref 1), (.int (i3 1))] SI10 SJ10 (fun r13 SI14 SJ14 => Q r13 SI14 SJ14)))))))) ∧ (r1 = 0 → DoI E 76 [(.ref 1), (.int (i3 1))] SI2 SJ2 (fun r15 SI16 SJ16 => Q r15 SI16 SJ16)))) : DoI E 35 [(.ref 29), (.ref 1), (.int a1)] SI SJ Q := by
  refine gj_start (M := mt_35) ok_35 (Nat.le_of_ble_eq_true rfl) ?_
  refine gj_goq gj_clT ok_35 [4, 12, 26, 46, 53, 61, 75] ?_
  show gj_Do E om0 (gj_mt 74) [(.ref 1)] SI SJ _
  refine gj_Do.mono h (fun v_ SI2 SJ2 h_ => ?_)
  obtain ⟨r1, rfl, q1⟩ := h_
  show gj_Goes E om0 mt_35 4 [some (.ref 29), some (.ref 1), some (.int a1)] [(.int r1)] SI2 SJ2 (QI Q)
  refine gj_goq gj_clT ok_35 [4, 12, 26, 46, 53, 61, 75] ?_
  show (¬ r1 = 0 → gj_Goes E om0 mt_35 13 [some (.ref 29), some (.ref 1), some (.int a1)] [] SI2 SJ2 (QI Q)) ∧ (r1 = 0 → gj_Do E om0 (gj_mt 76) [(.ref 1), (.int (i3 1))] SI2 SJ2 _)
  refine ⟨fun c2 => ?_, fun c2 => ?_⟩
  · refine gj_goq gj_clT ok_35 [4, 12, 26, 46, 53, 61, 75] ?_
    show gj_Do E om0 (gj_mt 73) [(.ref 1), (.int (SI2 1 2))] SI2 SJ2 _
    refine gj_Do.mono (q1.1 c2) (fun v_ SI4 SJ4 h_ => ?_)
    obtain ⟨r3, rfl, q3⟩ := h_
    show gj_Goes E om0 mt_35 26 [some (.ref 29), some (.ref 1), some (.int a1)] [(.int r3), (.int a1), (.ref 30)] SI4 SJ4 (QI Q)
    refine gj_goq gj_clT ok_35 [4, 12, 26, 46, 53, 61, 75] ?_
    show vp_in a1 8 ∧ (gj_Do E om0 (gj_mt 75) [(.ref 1), (.int (i3 44))] (gj_u2 (gj_u2 SI4 30 (gj_n a1) (r3 - (i3 48))) 1 2 ((SI4 1 2) + (i3 1))) SJ4 _)
    have k4 := q3.1
    refine ⟨k4, ?_⟩
    refine gj_Do.mono q3.2 (fun v_ SI6 SJ6 h_ => ?_)
    obtain ⟨r5, rfl, q5⟩ := h_
    show gj_Goes E om0 mt_35 46 [some (.ref 29), some (.ref 1), some (.int a1)] [(.int r5)] SI6 SJ6 (QI Q)
    refine gj_goq gj_clT ok_35 [4, 12, 26, 46, 53, 61, 75] ?_
    show (r5 = 0 → gj_Goes E om0 mt_35 56 [some (.ref 29), some (.ref 1), some (.int a1)] [] SI6 SJ6 (QI Q)) ∧ (¬ r5 = 0 → gj_Do E om0 (gj_mt 74) [(.ref 1)] SI6 SJ6 _)
    refine ⟨fun c6 => ?_, fun c6 => ?_⟩
    · refine gj_goq gj_clT ok_35 [4, 12, 26, 46, 53, 61, 75] ?_
      show gj_Do E om0 (gj_mt 76) [(.ref 1), (.int (i3 1))] SI6 SJ6 _
      refine gj_Do.mono (q5.1 c6) (fun v_ SI8 SJ8 h_ => ?_)
      obtain ⟨r7, rfl, q7⟩ := h_
      show gj_Goes E om0 mt_35 61 [some (.ref 29), some (.ref 1), some (.int a1)] [(.int r7)] SI8 SJ8 (QI Q)
      refine gj_goq gj_clT ok_35 [4, 12, 26, 46, 53, 61, 75] ?_
      show QI Q (some (.int r7)) SI8 SJ8
      exact ⟨_, rfl, q7⟩
    · refine gj_Do.mono (q5.2 c6) (fun v_ SI10 SJ10 h_ => ?_)
      obtain ⟨r9, rfl, q8⟩ := h_
      show gj_Goes E om0 mt_35 53 [some (.ref 29), some (.ref 1), some (.int a1)] [(.int r9)] SI10 SJ10 (QI Q)
      refine gj_goq gj_clT ok_35 [4, 12, 26, 46, 53, 61, 75] ?_
      show (¬ r9 = 0 → gj_Goes E om0 mt_35 62 [some (.ref 29), some (.ref 1), some (.int a1)] [] SI10 SJ10 (QI Q)) ∧ (r9 = 0 → gj_Do E om0 (gj_mt 76) [(.ref 1), (.int (i3 1))] SI10 SJ10 _)
      refine ⟨fun c9 => ?_, fun c9 => ?_⟩
      · refine gj_goq gj_clT ok_35 [4, 12, 26, 46, 53, 61, 75] ?_
        show gj_Do E om0 (gj_mt 73) [(.ref 1), (.int (SI10 1 2))] SI10 SJ10 _
        refine gj_Do.mono (q8.1 c9) (fun v_ SI12 SJ12 h_ => ?_)
        obtain ⟨r11, rfl, q10⟩ := h_
        show gj_Goes E om0 mt_35 75 [some (.ref 29), some (.ref 1), some (.int a1)] [(.int r11), (.int a1), (.ref 31)] SI12 SJ12 (QI Q)
        refine gj_goq gj_clT ok_35 [4, 12, 26, 46, 53, 61, 75] ?_
        show vp_in a1 8 ∧ (QI Q (some (.int (i3 0))) (gj_u2 (gj_u2 SI12 31 (gj_n a1) (r11 - (i3 48))) 1 2 ((SI12 1 2) + (i3 1))) SJ12)
        refine ⟨k4, ?_⟩
        exact ⟨_, rfl, q10⟩
      · refine gj_Do.mono (q8.2 c9) (fun v_ SI14 SJ14 h_ => ?_)
        obtain ⟨r13, rfl, q11⟩ := h_
        show gj_Goes E om0 mt_35 61 [some (.ref 29), some (.ref 1), some (.int a1)] [(.int r13)] SI14 SJ14 (QI Q)
        refine gj_goq gj_clT ok_35 [4, 12, 26, 46, 53, 61, 75] ?_
        show QI Q (some (.int r13)) SI14 SJ14
        exact ⟨_, rfl, q11⟩
  · refine gj_Do.mono (q1.2 c2) (fun v_ SI16 SJ16 h_ => ?_)
    obtain ⟨r15, rfl, q12⟩ := h_
    show gj_Goes E om0 mt_35 12 [some (.ref 29), some (.ref 1), some (.int a1)] [(.int r15)] SI16 SJ16 (QI Q)
    refine gj_goq gj_clT ok_35 [4, 12, 26, 46, 53, 61, 75] ?_
    show QI Q (some (.int r15)) SI16 SJ16
    exact ⟨_, rfl, q12⟩
set_option maxRecDepth 20000 in
/-- GraspJudge$Plate.stands -/
theorem st_36 {E : gj_E} {Q : Int32 → gj_I → gj_J → Prop} (SI : gj_I) (SJ : gj_J) (h : ((SI 29 7) < (i3 3) → Q (i3 0) SI SJ) ∧ (¬ (SI 29 7) < (i3 3) → DoI E 41 [(.ref 29)] SI SJ (fun r1 SI2 SJ2 => (0 < r1 → GoI E mt_36 19 [some (.ref 29), some (.int (i3 0)), none] SI2 SJ2 Q) ∧ (¬ 0 < r1 → Q (i3 0) SI2 SJ2)))) : DoI E 36 [(.ref 29)] SI SJ Q := by
  refine gj_start (M := mt_36) ok_36 (Nat.le_of_ble_eq_true rfl) ?_
  refine gj_goq gj_clT ok_36 [12, 19, 34, 40, 43, 46, 55, 68, 78] ?_
  show ((SI 29 7) < (i3 3) → gj_Goes E om0 mt_36 15 [some (.ref 29), none, none] [] SI SJ (QI Q)) ∧ (¬ (SI 29 7) < (i3 3) → gj_Do E om0 (gj_mt 41) [(.ref 29)] SI SJ _)
  refine ⟨fun c1 => ?_, fun c1 => ?_⟩
  · refine gj_goq gj_clT ok_36 [12, 19, 34, 40, 43, 46, 55, 68, 78] ?_
    show ((i3 0) = 0 ∨ (i3 0) = 1) ∧ (QI Q (some (.int (i3 0))) SI SJ)
    refine ⟨(Or.inl rfl), ?_⟩
    exact ⟨_, rfl, (h.1 c1)⟩
  · refine gj_Do.mono (h.2 c1) (fun v_ SI2 SJ2 h_ => ?_)
    obtain ⟨r1, rfl, q2⟩ := h_
    show gj_Goes E om0 mt_36 12 [some (.ref 29), none, none] [(.int r1)] SI2 SJ2 (QI Q)
    refine gj_goq gj_clT ok_36 [12, 19, 34, 40, 43, 46, 55, 68, 78] ?_
    show (0 < r1 → gj_Goes E om0 mt_36 17 [some (.ref 29), none, none] [] SI2 SJ2 (QI Q)) ∧ (¬ 0 < r1 → ((i3 0) = 0 ∨ (i3 0) = 1) ∧ (QI Q (some (.int (i3 0))) SI2 SJ2))
    refine ⟨fun c3 => ?_, fun c3 => ?_⟩
    · refine gj_goq gj_clT ok_36 [12, 19, 34, 40, 43, 46, 55, 68, 78] ?_
      show gj_Goes E om0 mt_36 19 [some (.ref 29), some (.int (i3 0)), none] [] SI2 SJ2 (QI Q)
      exact (q2.1 c3)
    · refine ⟨(Or.inl rfl), ?_⟩
      exact ⟨_, rfl, (q2.2 c3)⟩
set_option maxRecDepth 20000 in
theorem lp_36_19 {E : gj_E} {Q : Int32 → gj_I → gj_J → Prop} (x1 : Int32) (SI : gj_I) (SJ : gj_J) (h : ((SI 29 7) ≤ x1 → Q (i3 1) SI SJ) ∧ (¬ (SI 29 7) ≤ x1 → DoI E 29 [(.ref 29), (.int x1)] SI SJ (fun r1 SI2 SJ2 => DoI E 29 [(.ref 29), (.int x1)] SI2 SJ2 (fun r3 SI4 SJ4 => DoI E 29 [(.ref 29), (.int r3)] SI4 SJ4 (fun r5 SI6 SJ6 => DoI E 37 [(.ref 29), (.int x1), (.int r1), (.int r5)] SI6 SJ6 (fun r7 SI8 SJ8 => (¬ r7 = 0 → GoI E mt_36 55 [some (.ref 29), some (.int x1), some (.int (x1 + (i3 2)))] SI8 SJ8 Q) ∧ (r7 = 0 → Q (i3 0) SI8 SJ8))))))) : GoI E mt_36 19 [some (.ref 29), some (.int x1), none] SI SJ Q := by
  refine gj_goq gj_clT ok_36 [12, 19, 34, 40, 43, 46, 55, 68, 78] ?_
  show ((SI 29 7) ≤ x1 → gj_Goes E om0 mt_36 95 [some (.ref 29), some (.int x1), none] [] SI SJ (QI Q)) ∧ (¬ (SI 29 7) ≤ x1 → gj_Do E om0 (gj_mt 29) [(.ref 29), (.int x1)] SI SJ _)
  refine ⟨fun c1 => ?_, fun c1 => ?_⟩
  · refine gj_goq gj_clT ok_36 [12, 19, 34, 40, 43, 46, 55, 68, 78] ?_
    show ((i3 1) = 0 ∨ (i3 1) = 1) ∧ (QI Q (some (.int (i3 1))) SI SJ)
    refine ⟨(Or.inr rfl), ?_⟩
    exact ⟨_, rfl, (h.1 c1)⟩
  · refine gj_Do.mono (h.2 c1) (fun v_ SI2 SJ2 h_ => ?_)
    obtain ⟨r1, rfl, q2⟩ := h_
    show gj_Goes E om0 mt_36 34 [some (.ref 29), some (.int x1), none] [(.int r1), (.int x1), (.ref 29)] SI2 SJ2 (QI Q)
    refine gj_goq gj_clT ok_36 [12, 19, 34, 40, 43, 46, 55, 68, 78] ?_
    show gj_Do E om0 (gj_mt 29) [(.ref 29), (.int x1)] SI2 SJ2 _
    refine gj_Do.mono q2 (fun v_ SI4 SJ4 h_ => ?_)
    obtain ⟨r3, rfl, q3⟩ := h_
    show gj_Goes E om0 mt_36 40 [some (.ref 29), some (.int x1), none] [(.int r3), (.ref 29), (.int r1), (.int x1), (.ref 29)] SI4 SJ4 (QI Q)
    refine gj_goq gj_clT ok_36 [12, 19, 34, 40, 43, 46, 55, 68, 78] ?_
    show gj_Do E om0 (gj_mt 29) [(.ref 29), (.int r3)] SI4 SJ4 _
    refine gj_Do.mono q3 (fun v_ SI6 SJ6 h_ => ?_)
    obtain ⟨r5, rfl, q4⟩ := h_
    show gj_Goes E om0 mt_36 43 [some (.ref 29), some (.int x1), none] [(.int r5), (.int r1), (.int x1), (.ref 29)] SI6 SJ6 (QI Q)
    refine gj_goq gj_clT ok_36 [12, 19, 34, 40, 43, 46, 55, 68, 78] ?_
    show gj_Do E om0 (gj_mt 37) [(.ref 29), (.int x1), (.int r1), (.int r5)] SI6 SJ6 _
    refine gj_Do.mono q4 (fun v_ SI8 SJ8 h_ => ?_)
    obtain ⟨r7, rfl, q5⟩ := h_
    show gj_Goes E om0 mt_36 46 [some (.ref 29), some (.int x1), none] [(.int r7)] SI8 SJ8 (QI Q)
    refine gj_goq gj_clT ok_36 [12, 19, 34, 40, 43, 46, 55, 68, 78] ?_
    show (¬ r7 = 0 → gj_Goes E om0 mt_36 51 [some (.ref 29), some (.int x1), none] [] SI8 SJ8 (QI Q)) ∧ (r7 = 0 → ((i3 0) = 0 ∨ (i3 0) = 1) ∧ (QI Q (some (.int (i3 0))) SI8 SJ8))
    refine ⟨fun c6 => ?_, fun c6 => ?_⟩
    · refine gj_goq gj_clT ok_36 [12, 19, 34, 40, 43, 46, 55, 68, 78] ?_
      show gj_Goes E om0 mt_36 55 [some (.ref 29), some (.int x1), some (.int (x1 + (i3 2)))] [] SI8 SJ8 (QI Q)
      exact (q5.1 c6)
    · refine ⟨(Or.inl rfl), ?_⟩
      exact ⟨_, rfl, (q5.2 c6)⟩
set_option maxRecDepth 20000 in
theorem lp_36_55 {E : gj_E} {Q : Int32 → gj_I → gj_J → Prop} (x1 : Int32) (x2 : Int32) (SI : gj_I) (SJ : gj_J) (h : ((SI 29 7) ≤ x2 → GoI E mt_36 19 [some (.ref 29), some (.int (x1 + (i3 1))), none] SI SJ Q) ∧ (¬ (SI 29 7) ≤ x2 → DoI E 29 [(.ref 29), (.int x2)] SI SJ (fun r1 SI2 SJ2 => (r1 = x1 → GoI E mt_36 55 [some (.ref 29), some (.int x1), some (.int (x2 + (i3 1)))] SI2 SJ2 Q) ∧ (¬ r1 = x1 → DoI E 39 [(.ref 29), (.int x1), (.int x2)] SI2 SJ2 (fun r3 SI4 SJ4 => (r3 = 0 → GoI E mt_36 55 [some (.ref 29), some (.int x1), some (.int (x2 + (i3 1)))] SI4 SJ4 Q) ∧ (¬ r3 = 0 → Q (i3 0) SI4 SJ4)))))) : GoI E mt_36 55 [some (.ref 29), some (.int x1), some (.int x2)] SI SJ Q := by
  refine gj_goq gj_clT ok_36 [12, 19, 34, 40, 43, 46, 55, 68, 78] ?_
  show ((SI 29 7) ≤ x2 → gj_Goes E om0 mt_36 89 [some (.ref 29), some (.int x1), some (.int x2)] [] SI SJ (QI Q)) ∧ (¬ (SI 29 7) ≤ x2 → gj_Do E om0 (gj_mt 29) [(.ref 29), (.int x2)] SI SJ _)
  refine ⟨fun c1 => ?_, fun c1 => ?_⟩
  · refine gj_goq gj_clT ok_36 [12, 19, 34, 40, 43, 46, 55, 68, 78] ?_
    show gj_Goes E om0 mt_36 19 [some (.ref 29), some (.int (x1 + (i3 1))), some (.int x2)] [] SI SJ (QI Q)
    exact gj_fh (h.1 c1) (And.intro (Or.inr rfl) (And.intro (Or.inr rfl) (And.intro (Or.inl rfl) trivial)))
  · refine gj_Do.mono (h.2 c1) (fun v_ SI2 SJ2 h_ => ?_)
    obtain ⟨r1, rfl, q2⟩ := h_
    show gj_Goes E om0 mt_36 68 [some (.ref 29), some (.int x1), some (.int x2)] [(.int r1)] SI2 SJ2 (QI Q)
    refine gj_goq gj_clT ok_36 [12, 19, 34, 40, 43, 46, 55, 68, 78] ?_
    show (r1 = x1 → gj_Goes E om0 mt_36 83 [some (.ref 29), some (.int x1), some (.int x2)] [] SI2 SJ2 (QI Q)) ∧ (¬ r1 = x1 → gj_Do E om0 (gj_mt 39) [(.ref 29), (.int x1), (.int x2)] SI2 SJ2 _)
    refine ⟨fun c3 => ?_, fun c3 => ?_⟩
    · refine gj_goq gj_clT ok_36 [12, 19, 34, 40, 43, 46, 55, 68, 78] ?_
      show gj_Goes E om0 mt_36 55 [some (.ref 29), some (.int x1), some (.int (x2 + (i3 1)))] [] SI2 SJ2 (QI Q)
      exact (q2.1 c3)
    · refine gj_Do.mono (q2.2 c3) (fun v_ SI4 SJ4 h_ => ?_)
      obtain ⟨r3, rfl, q4⟩ := h_
      show gj_Goes E om0 mt_36 78 [some (.ref 29), some (.int x1), some (.int x2)] [(.int r3)] SI4 SJ4 (QI Q)
      refine gj_goq gj_clT ok_36 [12, 19, 34, 40, 43, 46, 55, 68, 78] ?_
      show (r3 = 0 → gj_Goes E om0 mt_36 83 [some (.ref 29), some (.int x1), some (.int x2)] [] SI4 SJ4 (QI Q)) ∧ (¬ r3 = 0 → ((i3 0) = 0 ∨ (i3 0) = 1) ∧ (QI Q (some (.int (i3 0))) SI4 SJ4))
      refine ⟨fun c5 => ?_, fun c5 => ?_⟩
      · refine gj_goq gj_clT ok_36 [12, 19, 34, 40, 43, 46, 55, 68, 78] ?_
        show gj_Goes E om0 mt_36 55 [some (.ref 29), some (.int x1), some (.int (x2 + (i3 1)))] [] SI4 SJ4 (QI Q)
        exact (q4.1 c5)
      · refine ⟨(Or.inl rfl), ?_⟩
        exact ⟨_, rfl, (q4.2 c5)⟩
set_option maxRecDepth 20000 in
/-- GraspJudge$Plate.bend -/
theorem st_37 {E : gj_E} {Q : Int32 → gj_I → gj_J → Prop} (a1 : Int32) (a2 : Int32) (a3 : Int32) (SI : gj_I) (SJ : gj_J) (h : vp_in a2 8 ∧ (vp_in a1 8 ∧ (vp_in a3 8 ∧ (DoI E 38 [(.int ((SI 30 (gj_n a2)) - (SI 30 (gj_n a1)))), (.int ((SI 31 (gj_n a2)) - (SI 31 (gj_n a1)))), (.int ((SI 30 (gj_n a3)) - (SI 30 (gj_n a1)))), (.int ((SI 31 (gj_n a3)) - (SI 31 (gj_n a1))))] SI SJ (fun r1 SI2 SJ2 => Q r1 SI2 SJ2))))) : DoI E 37 [(.ref 29), (.int a1), (.int a2), (.int a3)] SI SJ Q := by
  refine gj_start (M := mt_37) ok_37 (Nat.le_of_ble_eq_true rfl) ?_
  refine gj_goq gj_clT ok_37 [55] ?_
  show vp_in a2 8 ∧ (vp_in a1 8 ∧ (vp_in a2 8 ∧ (vp_in a1 8 ∧ (vp_in a3 8 ∧ (vp_in a1 8 ∧ (vp_in a3 8 ∧ (vp_in a1 8 ∧ (gj_Do E om0 (gj_mt 38) [(.int ((SI 30 (gj_n a2)) - (SI 30 (gj_n a1)))), (.int ((SI 31 (gj_n a2)) - (SI 31 (gj_n a1)))), (.int ((SI 30 (gj_n a3)) - (SI 30 (gj_n a1)))), (.int ((SI 31 (gj_n a3)) - (SI 31 (gj_n a1))))] SI SJ _))))))))
  have k1 := h.1
  refine ⟨k1, ?_⟩
  have k2 := h.2.1
  refine ⟨k2, ?_⟩
  refine ⟨k1, ?_⟩
  refine ⟨k2, ?_⟩
  have k3 := h.2.2.1
  refine ⟨k3, ?_⟩
  refine ⟨k2, ?_⟩
  refine ⟨k3, ?_⟩
  refine ⟨k2, ?_⟩
  refine gj_Do.mono h.2.2.2 (fun v_ SI2 SJ2 h_ => ?_)
  obtain ⟨r1, rfl, q4⟩ := h_
  show gj_Goes E om0 mt_37 55 [some (.ref 29), some (.int a1), some (.int a2), some (.int a3)] [(.int r1)] SI2 SJ2 (QI Q)
  refine gj_goq gj_clT ok_37 [55] ?_
  show QI Q (some (.int r1)) SI2 SJ2
  exact ⟨_, rfl, q4⟩
set_option maxRecDepth 20000 in
/-- GraspJudge$Plate.turning -/
theorem st_38 {E : gj_E} {Q : Int32 → gj_I → gj_J → Prop} (a1 : Int32) (a2 : Int32) (a3 : Int32) (a4 : Int32) (SI : gj_I) (SJ : gj_J) (h : Q ((a1 * a4) - (a2 * a3)) SI SJ) : DoI E 38 [(.int a1), (.int a2), (.int a3), (.int a4)] SI SJ Q := by
  refine gj_start (M := mt_38) ok_38 (Nat.le_of_ble_eq_true rfl) ?_
  refine gj_goq gj_clT ok_38 [] ?_
  show QI Q (some (.int ((a1 * a4) - (a2 * a3)))) SI SJ
  exact ⟨_, rfl, h⟩
set_option maxRecDepth 20000 in
/-- GraspJudge$Plate.meet -/
theorem st_39 {E : gj_E} {Q : Int32 → gj_I → gj_J → Prop} (a1 : Int32) (a2 : Int32) (SI : gj_I) (SJ : gj_J) (h : DoI E 29 [(.ref 29), (.int a1)] SI SJ (fun r1 SI2 SJ2 => DoI E 37 [(.ref 29), (.int a1), (.int r1), (.int a2)] SI2 SJ2 (fun r3 SI4 SJ4 => DoI E 285 [(.int r3)] SI4 SJ4 (fun r5 SI6 SJ6 => DoI E 29 [(.ref 29), (.int a1)] SI6 SJ6 (fun r7 SI8 SJ8 => DoI E 29 [(.ref 29), (.int a2)] SI8 SJ8 (fun r9 SI10 SJ10 => DoI E 37 [(.ref 29), (.int a1), (.int r7), (.int r9)] SI10 SJ10 (fun r11 SI12 SJ12 => DoI E 285 [(.int r11)] SI12 SJ12 (fun r13 SI14 SJ14 => DoI E 29 [(.ref 29), (.int a2)] SI14 SJ14 (fun r15 SI16 SJ16 => DoI E 37 [(.ref 29), (.int a2), (.int r15), (.int a1)] SI16 SJ16 (fun r17 SI18 SJ18 => DoI E 285 [(.int r17)] SI18 SJ18 (fun r19 SI20 SJ20 => DoI E 29 [(.ref 29), (.int a2)] SI20 SJ20 (fun r21 SI22 SJ22 => DoI E 29 [(.ref 29), (.int a1)] SI22 SJ22 (fun r23 SI24 SJ24 => DoI E 37 [(.ref 29), (.int a2), (.int r21), (.int r23)] SI24 SJ24 (fun r25 SI26 SJ26 => DoI E 285 [(.int r25)] SI26 SJ26 (fun r27 SI28 SJ28 => (0 ≤ (r5 * r13) → vp_in a2 8 ∧ (DoI E 40 [(.ref 29), (.int a1), (.int (SI28 30 (gj_n a2))), (.int (SI28 31 (gj_n a2)))] SI28 SJ28 (fun r29 SI30 SJ30 => (¬ r29 = 0 → Q (i3 1) SI30 SJ30) ∧ (r29 = 0 → DoI E 29 [(.ref 29), (.int a2)] SI30 SJ30 (fun r31 SI32 SJ32 => vp_in r31 8 ∧ (DoI E 29 [(.ref 29), (.int a2)] SI32 SJ32 (fun r33 SI34 SJ34 => vp_in r33 8 ∧ (DoI E 40 [(.ref 29), (.int a1), (.int (SI32 30 (gj_n r31))), (.int (SI34 31 (gj_n r33)))] SI34 SJ34 (fun r35 SI36 SJ36 => (¬ r35 = 0 → Q (i3 1) SI36 SJ36) ∧ (r35 = 0 → vp_in a1 8 ∧ (DoI E 40 [(.ref 29), (.int a2), (.int (SI36 30 (gj_n a1))), (.int (SI36 31 (gj_n a1)))] SI36 SJ36 (fun r37 SI38 SJ38 => (¬ r37 = 0 → Q (i3 1) SI38 SJ38) ∧ (r37 = 0 → DoI E 29 [(.ref 29), (.int a1)] SI38 SJ38 (fun r39 SI40 SJ40 => vp_in r39 8 ∧ (DoI E 29 [(.ref 29), (.int a1)] SI40 SJ40 (fun r41 SI42 SJ42 => vp_in r41 8 ∧ (DoI E 40 [(.ref 29), (.int a2), (.int (SI40 30 (gj_n r39))), (.int (SI42 31 (gj_n r41)))] SI42 SJ42 (fun r43 SI44 SJ44 => (r43 = 0 → Q (i3 0) SI44 SJ44) ∧ (¬ r43 = 0 → Q (i3 1) SI44 SJ44))))))))))))))))))) ∧ (¬ 0 ≤ (r5 * r13) → (0 ≤ (r19 * r27) → vp_in a2 8 ∧ (DoI E 40 [(.ref 29), (.int a1), (.int (SI28 30 (gj_n a2))), (.int (SI28 31 (gj_n a2)))] SI28 SJ28 (fun r45 SI46 SJ46 => (¬ r45 = 0 → Q (i3 1) SI46 SJ46) ∧ (r45 = 0 → DoI E 29 [(.ref 29), (.int a2)] SI46 SJ46 (fun r47 SI48 SJ48 => vp_in r47 8 ∧ (DoI E 29 [(.ref 29), (.int a2)] SI48 SJ48 (fun r49 SI50 SJ50 => vp_in r49 8 ∧ (DoI E 40 [(.ref 29), (.int a1), (.int (SI48 30 (gj_n r47))), (.int (SI50 31 (gj_n r49)))] SI50 SJ50 (fun r51 SI52 SJ52 => (¬ r51 = 0 → Q (i3 1) SI52 SJ52) ∧ (r51 = 0 → vp_in a1 8 ∧ (DoI E 40 [(.ref 29), (.int a2), (.int (SI52 30 (gj_n a1))), (.int (SI52 31 (gj_n a1)))] SI52 SJ52 (fun r53 SI54 SJ54 => (¬ r53 = 0 → Q (i3 1) SI54 SJ54) ∧ (r53 = 0 → DoI E 29 [(.ref 29), (.int a1)] SI54 SJ54 (fun r55 SI56 SJ56 => vp_in r55 8 ∧ (DoI E 29 [(.ref 29), (.int a1)] SI56 SJ56 (fun r57 SI58 SJ58 => vp_in r57 8 ∧ (DoI E 40 [(.ref 29), (.int a2), (.int (SI56 30 (gj_n r55))), (.int (SI58 31 (gj_n r57)))] SI58 SJ58 (fun r59 SI60 SJ60 => (r59 = 0 → Q (i3 0) SI60 SJ60) ∧ (¬ r59 = 0 → Q (i3 1) SI60 SJ60))))))))))))))))))) ∧ (¬ 0 ≤ (r19 * r27) → Q (i3 1) SI28 SJ28))))))))))))))))) : DoI E 39 [(.ref 29), (.int a1), (.int a2)] SI SJ Q := by
  refine gj_start (M := mt_39) ok_39 (Nat.le_of_ble_eq_true rfl) ?_
  refine gj_goq gj_clT ok_39 [7, 11, 14, 22, 27, 30, 33, 42, 46, 49, 58, 63, 66, 69, 105, 119, 129, 133, 153, 167, 177, 181] ?_
  show gj_Do E om0 (gj_mt 29) [(.ref 29), (.int a1)] SI SJ _
  refine gj_Do.mono h (fun v_ SI2 SJ2 h_ => ?_)
  obtain ⟨r1, rfl, q1⟩ := h_
  show gj_Goes E om0 mt_39 7 [some (.ref 29), some (.int a1), some (.int a2), none, none, none, none] [(.int r1), (.int a1), (.ref 29)] SI2 SJ2 (QI Q)
  refine gj_goq gj_clT ok_39 [7, 11, 14, 22, 27, 30, 33, 42, 46, 49, 58, 63, 66, 69, 105, 119, 129, 133, 153, 167, 177, 181] ?_
  show gj_Do E om0 (gj_mt 37) [(.ref 29), (.int a1), (.int r1), (.int a2)] SI2 SJ2 _
  refine gj_Do.mono q1 (fun v_ SI4 SJ4 h_ => ?_)
  obtain ⟨r3, rfl, q2⟩ := h_
  show gj_Goes E om0 mt_39 11 [some (.ref 29), some (.int a1), some (.int a2), none, none, none, none] [(.int r3)] SI4 SJ4 (QI Q)
  refine gj_goq gj_clT ok_39 [7, 11, 14, 22, 27, 30, 33, 42, 46, 49, 58, 63, 66, 69, 105, 119, 129, 133, 153, 167, 177, 181] ?_
  show gj_Do E om0 (gj_mt 285) [(.int r3)] SI4 SJ4 _
  refine gj_Do.mono q2 (fun v_ SI6 SJ6 h_ => ?_)
  obtain ⟨r5, rfl, q3⟩ := h_
  show gj_Goes E om0 mt_39 14 [some (.ref 29), some (.int a1), some (.int a2), none, none, none, none] [(.int r5)] SI6 SJ6 (QI Q)
  refine gj_goq gj_clT ok_39 [7, 11, 14, 22, 27, 30, 33, 42, 46, 49, 58, 63, 66, 69, 105, 119, 129, 133, 153, 167, 177, 181] ?_
  show gj_Do E om0 (gj_mt 29) [(.ref 29), (.int a1)] SI6 SJ6 _
  refine gj_Do.mono q3 (fun v_ SI8 SJ8 h_ => ?_)
  obtain ⟨r7, rfl, q4⟩ := h_
  show gj_Goes E om0 mt_39 22 [some (.ref 29), some (.int a1), some (.int a2), some (.int r5), none, none, none] [(.int r7), (.int a1), (.ref 29)] SI8 SJ8 (QI Q)
  refine gj_goq gj_clT ok_39 [7, 11, 14, 22, 27, 30, 33, 42, 46, 49, 58, 63, 66, 69, 105, 119, 129, 133, 153, 167, 177, 181] ?_
  show gj_Do E om0 (gj_mt 29) [(.ref 29), (.int a2)] SI8 SJ8 _
  refine gj_Do.mono q4 (fun v_ SI10 SJ10 h_ => ?_)
  obtain ⟨r9, rfl, q5⟩ := h_
  show gj_Goes E om0 mt_39 27 [some (.ref 29), some (.int a1), some (.int a2), some (.int r5), none, none, none] [(.int r9), (.int r7), (.int a1), (.ref 29)] SI10 SJ10 (QI Q)
  refine gj_goq gj_clT ok_39 [7, 11, 14, 22, 27, 30, 33, 42, 46, 49, 58, 63, 66, 69, 105, 119, 129, 133, 153, 167, 177, 181] ?_
  show gj_Do E om0 (gj_mt 37) [(.ref 29), (.int a1), (.int r7), (.int r9)] SI10 SJ10 _
  refine gj_Do.mono q5 (fun v_ SI12 SJ12 h_ => ?_)
  obtain ⟨r11, rfl, q6⟩ := h_
  show gj_Goes E om0 mt_39 30 [some (.ref 29), some (.int a1), some (.int a2), some (.int r5), none, none, none] [(.int r11)] SI12 SJ12 (QI Q)
  refine gj_goq gj_clT ok_39 [7, 11, 14, 22, 27, 30, 33, 42, 46, 49, 58, 63, 66, 69, 105, 119, 129, 133, 153, 167, 177, 181] ?_
  show gj_Do E om0 (gj_mt 285) [(.int r11)] SI12 SJ12 _
  refine gj_Do.mono q6 (fun v_ SI14 SJ14 h_ => ?_)
  obtain ⟨r13, rfl, q7⟩ := h_
  show gj_Goes E om0 mt_39 33 [some (.ref 29), some (.int a1), some (.int a2), some (.int r5), none, none, none] [(.int r13)] SI14 SJ14 (QI Q)
  refine gj_goq gj_clT ok_39 [7, 11, 14, 22, 27, 30, 33, 42, 46, 49, 58, 63, 66, 69, 105, 119, 129, 133, 153, 167, 177, 181] ?_
  show gj_Do E om0 (gj_mt 29) [(.ref 29), (.int a2)] SI14 SJ14 _
  refine gj_Do.mono q7 (fun v_ SI16 SJ16 h_ => ?_)
  obtain ⟨r15, rfl, q8⟩ := h_
  show gj_Goes E om0 mt_39 42 [some (.ref 29), some (.int a1), some (.int a2), some (.int r5), some (.int r13), none, none] [(.int r15), (.int a2), (.ref 29)] SI16 SJ16 (QI Q)
  refine gj_goq gj_clT ok_39 [7, 11, 14, 22, 27, 30, 33, 42, 46, 49, 58, 63, 66, 69, 105, 119, 129, 133, 153, 167, 177, 181] ?_
  show gj_Do E om0 (gj_mt 37) [(.ref 29), (.int a2), (.int r15), (.int a1)] SI16 SJ16 _
  refine gj_Do.mono q8 (fun v_ SI18 SJ18 h_ => ?_)
  obtain ⟨r17, rfl, q9⟩ := h_
  show gj_Goes E om0 mt_39 46 [some (.ref 29), some (.int a1), some (.int a2), some (.int r5), some (.int r13), none, none] [(.int r17)] SI18 SJ18 (QI Q)
  refine gj_goq gj_clT ok_39 [7, 11, 14, 22, 27, 30, 33, 42, 46, 49, 58, 63, 66, 69, 105, 119, 129, 133, 153, 167, 177, 181] ?_
  show gj_Do E om0 (gj_mt 285) [(.int r17)] SI18 SJ18 _
  refine gj_Do.mono q9 (fun v_ SI20 SJ20 h_ => ?_)
  obtain ⟨r19, rfl, q10⟩ := h_
  show gj_Goes E om0 mt_39 49 [some (.ref 29), some (.int a1), some (.int a2), some (.int r5), some (.int r13), none, none] [(.int r19)] SI20 SJ20 (QI Q)
  refine gj_goq gj_clT ok_39 [7, 11, 14, 22, 27, 30, 33, 42, 46, 49, 58, 63, 66, 69, 105, 119, 129, 133, 153, 167, 177, 181] ?_
  show gj_Do E om0 (gj_mt 29) [(.ref 29), (.int a2)] SI20 SJ20 _
  refine gj_Do.mono q10 (fun v_ SI22 SJ22 h_ => ?_)
  obtain ⟨r21, rfl, q11⟩ := h_
  show gj_Goes E om0 mt_39 58 [some (.ref 29), some (.int a1), some (.int a2), some (.int r5), some (.int r13), some (.int r19), none] [(.int r21), (.int a2), (.ref 29)] SI22 SJ22 (QI Q)
  refine gj_goq gj_clT ok_39 [7, 11, 14, 22, 27, 30, 33, 42, 46, 49, 58, 63, 66, 69, 105, 119, 129, 133, 153, 167, 177, 181] ?_
  show gj_Do E om0 (gj_mt 29) [(.ref 29), (.int a1)] SI22 SJ22 _
  refine gj_Do.mono q11 (fun v_ SI24 SJ24 h_ => ?_)
  obtain ⟨r23, rfl, q12⟩ := h_
  show gj_Goes E om0 mt_39 63 [some (.ref 29), some (.int a1), some (.int a2), some (.int r5), some (.int r13), some (.int r19), none] [(.int r23), (.int r21), (.int a2), (.ref 29)] SI24 SJ24 (QI Q)
  refine gj_goq gj_clT ok_39 [7, 11, 14, 22, 27, 30, 33, 42, 46, 49, 58, 63, 66, 69, 105, 119, 129, 133, 153, 167, 177, 181] ?_
  show gj_Do E om0 (gj_mt 37) [(.ref 29), (.int a2), (.int r21), (.int r23)] SI24 SJ24 _
  refine gj_Do.mono q12 (fun v_ SI26 SJ26 h_ => ?_)
  obtain ⟨r25, rfl, q13⟩ := h_
  show gj_Goes E om0 mt_39 66 [some (.ref 29), some (.int a1), some (.int a2), some (.int r5), some (.int r13), some (.int r19), none] [(.int r25)] SI26 SJ26 (QI Q)
  refine gj_goq gj_clT ok_39 [7, 11, 14, 22, 27, 30, 33, 42, 46, 49, 58, 63, 66, 69, 105, 119, 129, 133, 153, 167, 177, 181] ?_
  show gj_Do E om0 (gj_mt 285) [(.int r25)] SI26 SJ26 _
  refine gj_Do.mono q13 (fun v_ SI28 SJ28 h_ => ?_)
  obtain ⟨r27, rfl, q14⟩ := h_
  show gj_Goes E om0 mt_39 69 [some (.ref 29), some (.int a1), some (.int a2), some (.int r5), some (.int r13), some (.int r19), none] [(.int r27)] SI28 SJ28 (QI Q)
  refine gj_goq gj_clT ok_39 [7, 11, 14, 22, 27, 30, 33, 42, 46, 49, 58, 63, 66, 69, 105, 119, 129, 133, 153, 167, 177, 181] ?_
  show (0 ≤ (r5 * r13) → gj_Goes E om0 mt_39 88 [some (.ref 29), some (.int a1), some (.int a2), some (.int r5), some (.int r13), some (.int r19), some (.int r27)] [] SI28 SJ28 (QI Q)) ∧ (¬ 0 ≤ (r5 * r13) → (0 ≤ (r19 * r27) → gj_Goes E om0 mt_39 88 [some (.ref 29), some (.int a1), some (.int a2), some (.int r5), some (.int r13), some (.int r19), some (.int r27)] [] SI28 SJ28 (QI Q)) ∧ (¬ 0 ≤ (r19 * r27) → ((i3 1) = 0 ∨ (i3 1) = 1) ∧ (QI Q (some (.int (i3 1))) SI28 SJ28)))
  refine ⟨fun c15 => ?_, fun c15 => ?_⟩
  · refine gj_goq gj_clT ok_39 [7, 11, 14, 22, 27, 30, 33, 42, 46, 49, 58, 63, 66, 69, 105, 119, 129, 133, 153, 167, 177, 181] ?_
    show vp_in a2 8 ∧ (vp_in a2 8 ∧ (gj_Do E om0 (gj_mt 40) [(.ref 29), (.int a1), (.int (SI28 30 (gj_n a2))), (.int (SI28 31 (gj_n a2)))] SI28 SJ28 _))
    have k16 := (q14.1 c15).1
    refine ⟨k16, ?_⟩
    refine ⟨k16, ?_⟩
    refine gj_Do.mono (q14.1 c15).2 (fun v_ SI30 SJ30 h_ => ?_)
    obtain ⟨r29, rfl, q17⟩ := h_
    show gj_Goes E om0 mt_39 105 [some (.ref 29), some (.int a1), some (.int a2), some (.int r5), some (.int r13), some (.int r19), some (.int r27)] [(.int r29)] SI30 SJ30 (QI Q)
    refine gj_goq gj_clT ok_39 [7, 11, 14, 22, 27, 30, 33, 42, 46, 49, 58, 63, 66, 69, 105, 119, 129, 133, 153, 167, 177, 181] ?_
    show (¬ r29 = 0 → gj_Goes E om0 mt_39 184 [some (.ref 29), some (.int a1), some (.int a2), some (.int r5), some (.int r13), some (.int r19), some (.int r27)] [] SI30 SJ30 (QI Q)) ∧ (r29 = 0 → gj_Do E om0 (gj_mt 29) [(.ref 29), (.int a2)] SI30 SJ30 _)
    refine ⟨fun c18 => ?_, fun c18 => ?_⟩
    · refine gj_goq gj_clT ok_39 [7, 11, 14, 22, 27, 30, 33, 42, 46, 49, 58, 63, 66, 69, 105, 119, 129, 133, 153, 167, 177, 181] ?_
      show gj_Goes E om0 mt_39 189 [some (.ref 29), some (.int a1), some (.int a2), some (.int r5), some (.int r13), some (.int r19), some (.int r27)] [(.int (i3 1))] SI30 SJ30 (QI Q)
      refine gj_goq gj_clT ok_39 [7, 11, 14, 22, 27, 30, 33, 42, 46, 49, 58, 63, 66, 69, 105, 119, 129, 133, 153, 167, 177, 181] ?_
      show ((i3 1) = 0 ∨ (i3 1) = 1) ∧ (QI Q (some (.int (i3 1))) SI30 SJ30)
      refine ⟨(Or.inr rfl), ?_⟩
      exact ⟨_, rfl, (q17.1 c18)⟩
    · refine gj_Do.mono (q17.2 c18) (fun v_ SI32 SJ32 h_ => ?_)
      obtain ⟨r31, rfl, q19⟩ := h_
      show gj_Goes E om0 mt_39 119 [some (.ref 29), some (.int a1), some (.int a2), some (.int r5), some (.int r13), some (.int r19), some (.int r27)] [(.int r31), (.ref 30), (.int a1), (.ref 29)] SI32 SJ32 (QI Q)
      refine gj_goq gj_clT ok_39 [7, 11, 14, 22, 27, 30, 33, 42, 46, 49, 58, 63, 66, 69, 105, 119, 129, 133, 153, 167, 177, 181] ?_
      show vp_in r31 8 ∧ (gj_Do E om0 (gj_mt 29) [(.ref 29), (.int a2)] SI32 SJ32 _)
      have k20 := q19.1
      refine ⟨k20, ?_⟩
      refine gj_Do.mono q19.2 (fun v_ SI34 SJ34 h_ => ?_)
      obtain ⟨r33, rfl, q21⟩ := h_
      show gj_Goes E om0 mt_39 129 [some (.ref 29), some (.int a1), some (.int a2), some (.int r5), some (.int r13), some (.int r19), some (.int r27)] [(.int r33), (.ref 31), (.int (SI32 30 (gj_n r31))), (.int a1), (.ref 29)] SI34 SJ34 (QI Q)
      refine gj_goq gj_clT ok_39 [7, 11, 14, 22, 27, 30, 33, 42, 46, 49, 58, 63, 66, 69, 105, 119, 129, 133, 153, 167, 177, 181] ?_
      show vp_in r33 8 ∧ (gj_Do E om0 (gj_mt 40) [(.ref 29), (.int a1), (.int (SI32 30 (gj_n r31))), (.int (SI34 31 (gj_n r33)))] SI34 SJ34 _)
      have k22 := q21.1
      refine ⟨k22, ?_⟩
      refine gj_Do.mono q21.2 (fun v_ SI36 SJ36 h_ => ?_)
      obtain ⟨r35, rfl, q23⟩ := h_
      show gj_Goes E om0 mt_39 133 [some (.ref 29), some (.int a1), some (.int a2), some (.int r5), some (.int r13), some (.int r19), some (.int r27)] [(.int r35)] SI36 SJ36 (QI Q)
      refine gj_goq gj_clT ok_39 [7, 11, 14, 22, 27, 30, 33, 42, 46, 49, 58, 63, 66, 69, 105, 119, 129, 133, 153, 167, 177, 181] ?_
      show (¬ r35 = 0 → gj_Goes E om0 mt_39 184 [some (.ref 29), some (.int a1), some (.int a2), some (.int r5), some (.int r13), some (.int r19), some (.int r27)] [] SI36 SJ36 (QI Q)) ∧ (r35 = 0 → vp_in a1 8 ∧ (vp_in a1 8 ∧ (gj_Do E om0 (gj_mt 40) [(.ref 29), (.int a2), (.int (SI36 30 (gj_n a1))), (.int (SI36 31 (gj_n a1)))] SI36 SJ36 _)))
      refine ⟨fun c24 => ?_, fun c24 => ?_⟩
      · refine gj_goq gj_clT ok_39 [7, 11, 14, 22, 27, 30, 33, 42, 46, 49, 58, 63, 66, 69, 105, 119, 129, 133, 153, 167, 177, 181] ?_
        show gj_Goes E om0 mt_39 189 [some (.ref 29), some (.int a1), some (.int a2), some (.int r5), some (.int r13), some (.int r19), some (.int r27)] [(.int (i3 1))] SI36 SJ36 (QI Q)
        refine gj_goq gj_clT ok_39 [7, 11, 14, 22, 27, 30, 33, 42, 46, 49, 58, 63, 66, 69, 105, 119, 129, 133, 153, 167, 177, 181] ?_
        show ((i3 1) = 0 ∨ (i3 1) = 1) ∧ (QI Q (some (.int (i3 1))) SI36 SJ36)
        refine ⟨(Or.inr rfl), ?_⟩
        exact ⟨_, rfl, (q23.1 c24)⟩
      · have k25 := (q23.2 c24).1
        refine ⟨k25, ?_⟩
        refine ⟨k25, ?_⟩
        refine gj_Do.mono (q23.2 c24).2 (fun v_ SI38 SJ38 h_ => ?_)
        obtain ⟨r37, rfl, q26⟩ := h_
        show gj_Goes E om0 mt_39 153 [some (.ref 29), some (.int a1), some (.int a2), some (.int r5), some (.int r13), some (.int r19), some (.int r27)] [(.int r37)] SI38 SJ38 (QI Q)
        refine gj_goq gj_clT ok_39 [7, 11, 14, 22, 27, 30, 33, 42, 46, 49, 58, 63, 66, 69, 105, 119, 129, 133, 153, 167, 177, 181] ?_
        show (¬ r37 = 0 → gj_Goes E om0 mt_39 184 [some (.ref 29), some (.int a1), some (.int a2), some (.int r5), some (.int r13), some (.int r19), some (.int r27)] [] SI38 SJ38 (QI Q)) ∧ (r37 = 0 → gj_Do E om0 (gj_mt 29) [(.ref 29), (.int a1)] SI38 SJ38 _)
        refine ⟨fun c27 => ?_, fun c27 => ?_⟩
        · refine gj_goq gj_clT ok_39 [7, 11, 14, 22, 27, 30, 33, 42, 46, 49, 58, 63, 66, 69, 105, 119, 129, 133, 153, 167, 177, 181] ?_
          show gj_Goes E om0 mt_39 189 [some (.ref 29), some (.int a1), some (.int a2), some (.int r5), some (.int r13), some (.int r19), some (.int r27)] [(.int (i3 1))] SI38 SJ38 (QI Q)
          refine gj_goq gj_clT ok_39 [7, 11, 14, 22, 27, 30, 33, 42, 46, 49, 58, 63, 66, 69, 105, 119, 129, 133, 153, 167, 177, 181] ?_
          show ((i3 1) = 0 ∨ (i3 1) = 1) ∧ (QI Q (some (.int (i3 1))) SI38 SJ38)
          refine ⟨(Or.inr rfl), ?_⟩
          exact ⟨_, rfl, (q26.1 c27)⟩
        · refine gj_Do.mono (q26.2 c27) (fun v_ SI40 SJ40 h_ => ?_)
          obtain ⟨r39, rfl, q28⟩ := h_
          show gj_Goes E om0 mt_39 167 [some (.ref 29), some (.int a1), some (.int a2), some (.int r5), some (.int r13), some (.int r19), some (.int r27)] [(.int r39), (.ref 30), (.int a2), (.ref 29)] SI40 SJ40 (QI Q)
          refine gj_goq gj_clT ok_39 [7, 11, 14, 22, 27, 30, 33, 42, 46, 49, 58, 63, 66, 69, 105, 119, 129, 133, 153, 167, 177, 181] ?_
          show vp_in r39 8 ∧ (gj_Do E om0 (gj_mt 29) [(.ref 29), (.int a1)] SI40 SJ40 _)
          have k29 := q28.1
          refine ⟨k29, ?_⟩
          refine gj_Do.mono q28.2 (fun v_ SI42 SJ42 h_ => ?_)
          obtain ⟨r41, rfl, q30⟩ := h_
          show gj_Goes E om0 mt_39 177 [some (.ref 29), some (.int a1), some (.int a2), some (.int r5), some (.int r13), some (.int r19), some (.int r27)] [(.int r41), (.ref 31), (.int (SI40 30 (gj_n r39))), (.int a2), (.ref 29)] SI42 SJ42 (QI Q)
          refine gj_goq gj_clT ok_39 [7, 11, 14, 22, 27, 30, 33, 42, 46, 49, 58, 63, 66, 69, 105, 119, 129, 133, 153, 167, 177, 181] ?_
          show vp_in r41 8 ∧ (gj_Do E om0 (gj_mt 40) [(.ref 29), (.int a2), (.int (SI40 30 (gj_n r39))), (.int (SI42 31 (gj_n r41)))] SI42 SJ42 _)
          have k31 := q30.1
          refine ⟨k31, ?_⟩
          refine gj_Do.mono q30.2 (fun v_ SI44 SJ44 h_ => ?_)
          obtain ⟨r43, rfl, q32⟩ := h_
          show gj_Goes E om0 mt_39 181 [some (.ref 29), some (.int a1), some (.int a2), some (.int r5), some (.int r13), some (.int r19), some (.int r27)] [(.int r43)] SI44 SJ44 (QI Q)
          refine gj_goq gj_clT ok_39 [7, 11, 14, 22, 27, 30, 33, 42, 46, 49, 58, 63, 66, 69, 105, 119, 129, 133, 153, 167, 177, 181] ?_
          show (r43 = 0 → gj_Goes E om0 mt_39 188 [some (.ref 29), some (.int a1), some (.int a2), some (.int r5), some (.int r13), some (.int r19), some (.int r27)] [] SI44 SJ44 (QI Q)) ∧ (¬ r43 = 0 → gj_Goes E om0 mt_39 189 [some (.ref 29), some (.int a1), some (.int a2), some (.int r5), some (.int r13), some (.int r19), some (.int r27)] [(.int (i3 1))] SI44 SJ44 (QI Q))
          refine ⟨fun c33 => ?_, fun c33 => ?_⟩
          · refine gj_goq gj_clT ok_39 [7, 11, 14, 22, 27, 30, 33, 42, 46, 49, 58, 63, 66, 69, 105, 119, 129, 133, 153, 167, 177, 181] ?_
            show ((i3 0) = 0 ∨ (i3 0) = 1) ∧ (QI Q (some (.int (i3 0))) SI44 SJ44)
            refine ⟨(Or.inl rfl), ?_⟩
            exact ⟨_, rfl, (q32.1 c33)⟩
          · refine gj_goq gj_clT ok_39 [7, 11, 14, 22, 27, 30, 33, 42, 46, 49, 58, 63, 66, 69, 105, 119, 129, 133, 153, 167, 177, 181] ?_
            show ((i3 1) = 0 ∨ (i3 1) = 1) ∧ (QI Q (some (.int (i3 1))) SI44 SJ44)
            refine ⟨(Or.inr rfl), ?_⟩
            exact ⟨_, rfl, (q32.2 c33)⟩
  · refine ⟨fun c34 => ?_, fun c34 => ?_⟩
    · refine gj_goq gj_clT ok_39 [7, 11, 14, 22, 27, 30, 33, 42, 46, 49, 58, 63, 66, 69, 105, 119, 129, 133, 153, 167, 177, 181] ?_
      show vp_in a2 8 ∧ (vp_in a2 8 ∧ (gj_Do E om0 (gj_mt 40) [(.ref 29), (.int a1), (.int (SI28 30 (gj_n a2))), (.int (SI28 31 (gj_n a2)))] SI28 SJ28 _))
      have k35 := ((q14.2 c15).1 c34).1
      refine ⟨k35, ?_⟩
      refine ⟨k35, ?_⟩
      refine gj_Do.mono ((q14.2 c15).1 c34).2 (fun v_ SI46 SJ46 h_ => ?_)
      obtain ⟨r45, rfl, q36⟩ := h_
      show gj_Goes E om0 mt_39 105 [some (.ref 29), some (.int a1), some (.int a2), some (.int r5), some (.int r13), some (.int r19), some (.int r27)] [(.int r45)] SI46 SJ46 (QI Q)
      refine gj_goq gj_clT ok_39 [7, 11, 14, 22, 27, 30, 33, 42, 46, 49, 58, 63, 66, 69, 105, 119, 129, 133, 153, 167, 177, 181] ?_
      show (¬ r45 = 0 → gj_Goes E om0 mt_39 184 [some (.ref 29), some (.int a1), some (.int a2), some (.int r5), some (.int r13), some (.int r19), some (.int r27)] [] SI46 SJ46 (QI Q)) ∧ (r45 = 0 → gj_Do E om0 (gj_mt 29) [(.ref 29), (.int a2)] SI46 SJ46 _)
      refine ⟨fun c37 => ?_, fun c37 => ?_⟩
      · refine gj_goq gj_clT ok_39 [7, 11, 14, 22, 27, 30, 33, 42, 46, 49, 58, 63, 66, 69, 105, 119, 129, 133, 153, 167, 177, 181] ?_
        show gj_Goes E om0 mt_39 189 [some (.ref 29), some (.int a1), some (.int a2), some (.int r5), some (.int r13), some (.int r19), some (.int r27)] [(.int (i3 1))] SI46 SJ46 (QI Q)
        refine gj_goq gj_clT ok_39 [7, 11, 14, 22, 27, 30, 33, 42, 46, 49, 58, 63, 66, 69, 105, 119, 129, 133, 153, 167, 177, 181] ?_
        show ((i3 1) = 0 ∨ (i3 1) = 1) ∧ (QI Q (some (.int (i3 1))) SI46 SJ46)
        refine ⟨(Or.inr rfl), ?_⟩
        exact ⟨_, rfl, (q36.1 c37)⟩
      · refine gj_Do.mono (q36.2 c37) (fun v_ SI48 SJ48 h_ => ?_)
        obtain ⟨r47, rfl, q38⟩ := h_
        show gj_Goes E om0 mt_39 119 [some (.ref 29), some (.int a1), some (.int a2), some (.int r5), some (.int r13), some (.int r19), some (.int r27)] [(.int r47), (.ref 30), (.int a1), (.ref 29)] SI48 SJ48 (QI Q)
        refine gj_goq gj_clT ok_39 [7, 11, 14, 22, 27, 30, 33, 42, 46, 49, 58, 63, 66, 69, 105, 119, 129, 133, 153, 167, 177, 181] ?_
        show vp_in r47 8 ∧ (gj_Do E om0 (gj_mt 29) [(.ref 29), (.int a2)] SI48 SJ48 _)
        have k39 := q38.1
        refine ⟨k39, ?_⟩
        refine gj_Do.mono q38.2 (fun v_ SI50 SJ50 h_ => ?_)
        obtain ⟨r49, rfl, q40⟩ := h_
        show gj_Goes E om0 mt_39 129 [some (.ref 29), some (.int a1), some (.int a2), some (.int r5), some (.int r13), some (.int r19), some (.int r27)] [(.int r49), (.ref 31), (.int (SI48 30 (gj_n r47))), (.int a1), (.ref 29)] SI50 SJ50 (QI Q)
        refine gj_goq gj_clT ok_39 [7, 11, 14, 22, 27, 30, 33, 42, 46, 49, 58, 63, 66, 69, 105, 119, 129, 133, 153, 167, 177, 181] ?_
        show vp_in r49 8 ∧ (gj_Do E om0 (gj_mt 40) [(.ref 29), (.int a1), (.int (SI48 30 (gj_n r47))), (.int (SI50 31 (gj_n r49)))] SI50 SJ50 _)
        have k41 := q40.1
        refine ⟨k41, ?_⟩
        refine gj_Do.mono q40.2 (fun v_ SI52 SJ52 h_ => ?_)
        obtain ⟨r51, rfl, q42⟩ := h_
        show gj_Goes E om0 mt_39 133 [some (.ref 29), some (.int a1), some (.int a2), some (.int r5), some (.int r13), some (.int r19), some (.int r27)] [(.int r51)] SI52 SJ52 (QI Q)
        refine gj_goq gj_clT ok_39 [7, 11, 14, 22, 27, 30, 33, 42, 46, 49, 58, 63, 66, 69, 105, 119, 129, 133, 153, 167, 177, 181] ?_
        show (¬ r51 = 0 → gj_Goes E om0 mt_39 184 [some (.ref 29), some (.int a1), some (.int a2), some (.int r5), some (.int r13), some (.int r19), some (.int r27)] [] SI52 SJ52 (QI Q)) ∧ (r51 = 0 → vp_in a1 8 ∧ (vp_in a1 8 ∧ (gj_Do E om0 (gj_mt 40) [(.ref 29), (.int a2), (.int (SI52 30 (gj_n a1))), (.int (SI52 31 (gj_n a1)))] SI52 SJ52 _)))
        refine ⟨fun c43 => ?_, fun c43 => ?_⟩
        · refine gj_goq gj_clT ok_39 [7, 11, 14, 22, 27, 30, 33, 42, 46, 49, 58, 63, 66, 69, 105, 119, 129, 133, 153, 167, 177, 181] ?_
          show gj_Goes E om0 mt_39 189 [some (.ref 29), some (.int a1), some (.int a2), some (.int r5), some (.int r13), some (.int r19), some (.int r27)] [(.int (i3 1))] SI52 SJ52 (QI Q)
          refine gj_goq gj_clT ok_39 [7, 11, 14, 22, 27, 30, 33, 42, 46, 49, 58, 63, 66, 69, 105, 119, 129, 133, 153, 167, 177, 181] ?_
          show ((i3 1) = 0 ∨ (i3 1) = 1) ∧ (QI Q (some (.int (i3 1))) SI52 SJ52)
          refine ⟨(Or.inr rfl), ?_⟩
          exact ⟨_, rfl, (q42.1 c43)⟩
        · have k44 := (q42.2 c43).1
          refine ⟨k44, ?_⟩
          refine ⟨k44, ?_⟩
          refine gj_Do.mono (q42.2 c43).2 (fun v_ SI54 SJ54 h_ => ?_)
          obtain ⟨r53, rfl, q45⟩ := h_
          show gj_Goes E om0 mt_39 153 [some (.ref 29), some (.int a1), some (.int a2), some (.int r5), some (.int r13), some (.int r19), some (.int r27)] [(.int r53)] SI54 SJ54 (QI Q)
          refine gj_goq gj_clT ok_39 [7, 11, 14, 22, 27, 30, 33, 42, 46, 49, 58, 63, 66, 69, 105, 119, 129, 133, 153, 167, 177, 181] ?_
          show (¬ r53 = 0 → gj_Goes E om0 mt_39 184 [some (.ref 29), some (.int a1), some (.int a2), some (.int r5), some (.int r13), some (.int r19), some (.int r27)] [] SI54 SJ54 (QI Q)) ∧ (r53 = 0 → gj_Do E om0 (gj_mt 29) [(.ref 29), (.int a1)] SI54 SJ54 _)
          refine ⟨fun c46 => ?_, fun c46 => ?_⟩
          · refine gj_goq gj_clT ok_39 [7, 11, 14, 22, 27, 30, 33, 42, 46, 49, 58, 63, 66, 69, 105, 119, 129, 133, 153, 167, 177, 181] ?_
            show gj_Goes E om0 mt_39 189 [some (.ref 29), some (.int a1), some (.int a2), some (.int r5), some (.int r13), some (.int r19), some (.int r27)] [(.int (i3 1))] SI54 SJ54 (QI Q)
            refine gj_goq gj_clT ok_39 [7, 11, 14, 22, 27, 30, 33, 42, 46, 49, 58, 63, 66, 69, 105, 119, 129, 133, 153, 167, 177, 181] ?_
            show ((i3 1) = 0 ∨ (i3 1) = 1) ∧ (QI Q (some (.int (i3 1))) SI54 SJ54)
            refine ⟨(Or.inr rfl), ?_⟩
            exact ⟨_, rfl, (q45.1 c46)⟩
          · refine gj_Do.mono (q45.2 c46) (fun v_ SI56 SJ56 h_ => ?_)
            obtain ⟨r55, rfl, q47⟩ := h_
            show gj_Goes E om0 mt_39 167 [some (.ref 29), some (.int a1), some (.int a2), some (.int r5), some (.int r13), some (.int r19), some (.int r27)] [(.int r55), (.ref 30), (.int a2), (.ref 29)] SI56 SJ56 (QI Q)
            refine gj_goq gj_clT ok_39 [7, 11, 14, 22, 27, 30, 33, 42, 46, 49, 58, 63, 66, 69, 105, 119, 129, 133, 153, 167, 177, 181] ?_
            show vp_in r55 8 ∧ (gj_Do E om0 (gj_mt 29) [(.ref 29), (.int a1)] SI56 SJ56 _)
            have k48 := q47.1
            refine ⟨k48, ?_⟩
            refine gj_Do.mono q47.2 (fun v_ SI58 SJ58 h_ => ?_)
            obtain ⟨r57, rfl, q49⟩ := h_
            show gj_Goes E om0 mt_39 177 [some (.ref 29), some (.int a1), some (.int a2), some (.int r5), some (.int r13), some (.int r19), some (.int r27)] [(.int r57), (.ref 31), (.int (SI56 30 (gj_n r55))), (.int a2), (.ref 29)] SI58 SJ58 (QI Q)
            refine gj_goq gj_clT ok_39 [7, 11, 14, 22, 27, 30, 33, 42, 46, 49, 58, 63, 66, 69, 105, 119, 129, 133, 153, 167, 177, 181] ?_
            show vp_in r57 8 ∧ (gj_Do E om0 (gj_mt 40) [(.ref 29), (.int a2), (.int (SI56 30 (gj_n r55))), (.int (SI58 31 (gj_n r57)))] SI58 SJ58 _)
            have k50 := q49.1
            refine ⟨k50, ?_⟩
            refine gj_Do.mono q49.2 (fun v_ SI60 SJ60 h_ => ?_)
            obtain ⟨r59, rfl, q51⟩ := h_
            show gj_Goes E om0 mt_39 181 [some (.ref 29), some (.int a1), some (.int a2), some (.int r5), some (.int r13), some (.int r19), some (.int r27)] [(.int r59)] SI60 SJ60 (QI Q)
            refine gj_goq gj_clT ok_39 [7, 11, 14, 22, 27, 30, 33, 42, 46, 49, 58, 63, 66, 69, 105, 119, 129, 133, 153, 167, 177, 181] ?_
            show (r59 = 0 → gj_Goes E om0 mt_39 188 [some (.ref 29), some (.int a1), some (.int a2), some (.int r5), some (.int r13), some (.int r19), some (.int r27)] [] SI60 SJ60 (QI Q)) ∧ (¬ r59 = 0 → gj_Goes E om0 mt_39 189 [some (.ref 29), some (.int a1), some (.int a2), some (.int r5), some (.int r13), some (.int r19), some (.int r27)] [(.int (i3 1))] SI60 SJ60 (QI Q))
            refine ⟨fun c52 => ?_, fun c52 => ?_⟩
            · refine gj_goq gj_clT ok_39 [7, 11, 14, 22, 27, 30, 33, 42, 46, 49, 58, 63, 66, 69, 105, 119, 129, 133, 153, 167, 177, 181] ?_
              show ((i3 0) = 0 ∨ (i3 0) = 1) ∧ (QI Q (some (.int (i3 0))) SI60 SJ60)
              refine ⟨(Or.inl rfl), ?_⟩
              exact ⟨_, rfl, (q51.1 c52)⟩
            · refine gj_goq gj_clT ok_39 [7, 11, 14, 22, 27, 30, 33, 42, 46, 49, 58, 63, 66, 69, 105, 119, 129, 133, 153, 167, 177, 181] ?_
              show ((i3 1) = 0 ∨ (i3 1) = 1) ∧ (QI Q (some (.int (i3 1))) SI60 SJ60)
              refine ⟨(Or.inr rfl), ?_⟩
              exact ⟨_, rfl, (q51.2 c52)⟩
    · refine ⟨(Or.inr rfl), ?_⟩
      exact ⟨_, rfl, ((q14.2 c15).2 c34)⟩
set_option maxRecDepth 20000 in
/-- GraspJudge$Plate.lies -/
theorem st_40_4 {E : gj_E} {Q : Int32 → gj_I → gj_J → Prop} (a1 : Int32) (a2 : Int32) (a3 : Int32) (SI : gj_I) (SJ : gj_J) (h : DoI E 29 [(.ref 4), (.int a1)] SI SJ (fun r1 SI2 SJ2 => vp_in r1 8 ∧ (vp_in a1 8 ∧ (DoI E 38 [(.int ((SI2 5 (gj_n r1)) - (SI2 5 (gj_n a1)))), (.int ((SI2 6 (gj_n r1)) - (SI2 6 (gj_n a1)))), (.int (a2 - (SI2 5 (gj_n a1)))), (.int (a3 - (SI2 6 (gj_n a1))))] SI2 SJ2 (fun r3 SI4 SJ4 => (¬ r3 = 0 → Q (i3 0) SI4 SJ4) ∧ (r3 = 0 → (a2 < (if (SI4 5 (gj_n r1)) < (SI4 5 (gj_n a1)) then (SI4 5 (gj_n r1)) else (SI4 5 (gj_n a1))) → Q (i3 0) SI4 SJ4) ∧ (¬ a2 < (if (SI4 5 (gj_n r1)) < (SI4 5 (gj_n a1)) then (SI4 5 (gj_n r1)) else (SI4 5 (gj_n a1))) → ((if (SI4 5 (gj_n a1)) < (SI4 5 (gj_n r1)) then (SI4 5 (gj_n r1)) else (SI4 5 (gj_n a1))) < a2 → Q (i3 0) SI4 SJ4) ∧ (¬ (if (SI4 5 (gj_n a1)) < (SI4 5 (gj_n r1)) then (SI4 5 (gj_n r1)) else (SI4 5 (gj_n a1))) < a2 → (a3 < (if (SI4 6 (gj_n r1)) < (SI4 6 (gj_n a1)) then (SI4 6 (gj_n r1)) else (SI4 6 (gj_n a1))) → Q (i3 0) SI4 SJ4) ∧ (¬ a3 < (if (SI4 6 (gj_n r1)) < (SI4 6 (gj_n a1)) then (SI4 6 (gj_n r1)) else (SI4 6 (gj_n a1))) → ((if (SI4 6 (gj_n a1)) < (SI4 6 (gj_n r1)) then (SI4 6 (gj_n r1)) else (SI4 6 (gj_n a1))) < a3 → Q (i3 0) SI4 SJ4) ∧ (¬ (if (SI4 6 (gj_n a1)) < (SI4 6 (gj_n r1)) then (SI4 6 (gj_n r1)) else (SI4 6 (gj_n a1))) < a3 → Q (i3 1) SI4 SJ4)))))))))) : DoI E 40 [(.ref 4), (.int a1), (.int a2), (.int a3)] SI SJ Q := by
  refine gj_start (M := mt_40) ok_40 (Nat.le_of_ble_eq_true rfl) ?_
  refine gj_goq gj_clT ok_40 [5, 54] ?_
  show gj_Do E om0 (gj_mt 29) [(.ref 4), (.int a1)] SI SJ _
  refine gj_Do.mono h (fun v_ SI2 SJ2 h_ => ?_)
  obtain ⟨r1, rfl, q1⟩ := h_
  show gj_Goes E om0 mt_40 5 [some (.ref 4), some (.int a1), some (.int a2), some (.int a3), none] [(.int r1)] SI2 SJ2 (QI Q)
  refine gj_goq gj_clT ok_40 [5, 54] ?_
  show vp_in r1 8 ∧ (vp_in a1 8 ∧ (vp_in r1 8 ∧ (vp_in a1 8 ∧ (vp_in a1 8 ∧ (vp_in a1 8 ∧ (gj_Do E om0 (gj_mt 38) [(.int ((SI2 5 (gj_n r1)) - (SI2 5 (gj_n a1)))), (.int ((SI2 6 (gj_n r1)) - (SI2 6 (gj_n a1)))), (.int (a2 - (SI2 5 (gj_n a1)))), (.int (a3 - (SI2 6 (gj_n a1))))] SI2 SJ2 _))))))
  have k2 := q1.1
  refine ⟨k2, ?_⟩
  have k3 := q1.2.1
  refine ⟨k3, ?_⟩
  refine ⟨k2, ?_⟩
  refine ⟨k3, ?_⟩
  refine ⟨k3, ?_⟩
  refine ⟨k3, ?_⟩
  refine gj_Do.mono q1.2.2 (fun v_ SI4 SJ4 h_ => ?_)
  obtain ⟨r3, rfl, q4⟩ := h_
  show gj_Goes E om0 mt_40 54 [some (.ref 4), some (.int a1), some (.int a2), some (.int a3), some (.int r1)] [(.int r3)] SI4 SJ4 (QI Q)
  refine gj_goq gj_clT ok_40 [5, 54] ?_
  show (¬ r3 = 0 → gj_Goes E om0 mt_40 141 [some (.ref 4), some (.int a1), some (.int a2), some (.int a3), some (.int r1)] [] SI4 SJ4 (QI Q)) ∧ (r3 = 0 → vp_in a1 8 ∧ (vp_in r1 8 ∧ ((a2 < (if (SI4 5 (gj_n r1)) < (SI4 5 (gj_n a1)) then (SI4 5 (gj_n r1)) else (SI4 5 (gj_n a1))) → gj_Goes E om0 mt_40 141 [some (.ref 4), some (.int a1), some (.int a2), some (.int a3), some (.int r1)] [] SI4 SJ4 (QI Q)) ∧ (¬ a2 < (if (SI4 5 (gj_n r1)) < (SI4 5 (gj_n a1)) then (SI4 5 (gj_n r1)) else (SI4 5 (gj_n a1))) → vp_in a1 8 ∧ (vp_in r1 8 ∧ (((if (SI4 5 (gj_n a1)) < (SI4 5 (gj_n r1)) then (SI4 5 (gj_n r1)) else (SI4 5 (gj_n a1))) < a2 → gj_Goes E om0 mt_40 141 [some (.ref 4), some (.int a1), some (.int a2), some (.int a3), some (.int r1)] [] SI4 SJ4 (QI Q)) ∧ (¬ (if (SI4 5 (gj_n a1)) < (SI4 5 (gj_n r1)) then (SI4 5 (gj_n r1)) else (SI4 5 (gj_n a1))) < a2 → vp_in a1 8 ∧ (vp_in r1 8 ∧ ((a3 < (if (SI4 6 (gj_n r1)) < (SI4 6 (gj_n a1)) then (SI4 6 (gj_n r1)) else (SI4 6 (gj_n a1))) → gj_Goes E om0 mt_40 141 [some (.ref 4), some (.int a1), some (.int a2), some (.int a3), some (.int r1)] [] SI4 SJ4 (QI Q)) ∧ (¬ a3 < (if (SI4 6 (gj_n r1)) < (SI4 6 (gj_n a1)) then (SI4 6 (gj_n r1)) else (SI4 6 (gj_n a1))) → vp_in a1 8 ∧ (vp_in r1 8 ∧ (((if (SI4 6 (gj_n a1)) < (SI4 6 (gj_n r1)) then (SI4 6 (gj_n r1)) else (SI4 6 (gj_n a1))) < a3 → gj_Goes E om0 mt_40 141 [some (.ref 4), some (.int a1), some (.int a2), some (.int a3), some (.int r1)] [] SI4 SJ4 (QI Q)) ∧ (¬ (if (SI4 6 (gj_n a1)) < (SI4 6 (gj_n r1)) then (SI4 6 (gj_n r1)) else (SI4 6 (gj_n a1))) < a3 → gj_Goes E om0 mt_40 142 [some (.ref 4), some (.int a1), some (.int a2), some (.int a3), some (.int r1)] [(.int (i3 1))] SI4 SJ4 (QI Q))))))))))))))
  refine ⟨fun c5 => ?_, fun c5 => ?_⟩
  · refine gj_goq gj_clT ok_40 [5, 54] ?_
    show ((i3 0) = 0 ∨ (i3 0) = 1) ∧ (QI Q (some (.int (i3 0))) SI4 SJ4)
    refine ⟨(Or.inl rfl), ?_⟩
    exact ⟨_, rfl, (q4.1 c5)⟩
  · refine ⟨k3, ?_⟩
    refine ⟨k2, ?_⟩
    refine ⟨fun c6 => ?_, fun c6 => ?_⟩
    · refine gj_goq gj_clT ok_40 [5, 54] ?_
      show ((i3 0) = 0 ∨ (i3 0) = 1) ∧ (QI Q (some (.int (i3 0))) SI4 SJ4)
      refine ⟨(Or.inl rfl), ?_⟩
      exact ⟨_, rfl, ((q4.2 c5).1 c6)⟩
    · refine ⟨k3, ?_⟩
      refine ⟨k2, ?_⟩
      refine ⟨fun c7 => ?_, fun c7 => ?_⟩
      · refine gj_goq gj_clT ok_40 [5, 54] ?_
        show ((i3 0) = 0 ∨ (i3 0) = 1) ∧ (QI Q (some (.int (i3 0))) SI4 SJ4)
        refine ⟨(Or.inl rfl), ?_⟩
        exact ⟨_, rfl, (((q4.2 c5).2 c6).1 c7)⟩
      · refine ⟨k3, ?_⟩
        refine ⟨k2, ?_⟩
        refine ⟨fun c8 => ?_, fun c8 => ?_⟩
        · refine gj_goq gj_clT ok_40 [5, 54] ?_
          show ((i3 0) = 0 ∨ (i3 0) = 1) ∧ (QI Q (some (.int (i3 0))) SI4 SJ4)
          refine ⟨(Or.inl rfl), ?_⟩
          exact ⟨_, rfl, ((((q4.2 c5).2 c6).2 c7).1 c8)⟩
        · refine ⟨k3, ?_⟩
          refine ⟨k2, ?_⟩
          refine ⟨fun c9 => ?_, fun c9 => ?_⟩
          · refine gj_goq gj_clT ok_40 [5, 54] ?_
            show ((i3 0) = 0 ∨ (i3 0) = 1) ∧ (QI Q (some (.int (i3 0))) SI4 SJ4)
            refine ⟨(Or.inl rfl), ?_⟩
            exact ⟨_, rfl, (((((q4.2 c5).2 c6).2 c7).2 c8).1 c9)⟩
          · refine gj_goq gj_clT ok_40 [5, 54] ?_
            show ((i3 1) = 0 ∨ (i3 1) = 1) ∧ (QI Q (some (.int (i3 1))) SI4 SJ4)
            refine ⟨(Or.inr rfl), ?_⟩
            exact ⟨_, rfl, (((((q4.2 c5).2 c6).2 c7).2 c8).2 c9)⟩
set_option maxRecDepth 20000 in
theorem st_40_29 {E : gj_E} {Q : Int32 → gj_I → gj_J → Prop} (a1 : Int32) (a2 : Int32) (a3 : Int32) (SI : gj_I) (SJ : gj_J) (h : DoI E 29 [(.ref 29), (.int a1)] SI SJ (fun r1 SI2 SJ2 => vp_in r1 8 ∧ (vp_in a1 8 ∧ (DoI E 38 [(.int ((SI2 30 (gj_n r1)) - (SI2 30 (gj_n a1)))), (.int ((SI2 31 (gj_n r1)) - (SI2 31 (gj_n a1)))), (.int (a2 - (SI2 30 (gj_n a1)))), (.int (a3 - (SI2 31 (gj_n a1))))] SI2 SJ2 (fun r3 SI4 SJ4 => (¬ r3 = 0 → Q (i3 0) SI4 SJ4) ∧ (r3 = 0 → (a2 < (if (SI4 30 (gj_n r1)) < (SI4 30 (gj_n a1)) then (SI4 30 (gj_n r1)) else (SI4 30 (gj_n a1))) → Q (i3 0) SI4 SJ4) ∧ (¬ a2 < (if (SI4 30 (gj_n r1)) < (SI4 30 (gj_n a1)) then (SI4 30 (gj_n r1)) else (SI4 30 (gj_n a1))) → ((if (SI4 30 (gj_n a1)) < (SI4 30 (gj_n r1)) then (SI4 30 (gj_n r1)) else (SI4 30 (gj_n a1))) < a2 → Q (i3 0) SI4 SJ4) ∧ (¬ (if (SI4 30 (gj_n a1)) < (SI4 30 (gj_n r1)) then (SI4 30 (gj_n r1)) else (SI4 30 (gj_n a1))) < a2 → (a3 < (if (SI4 31 (gj_n r1)) < (SI4 31 (gj_n a1)) then (SI4 31 (gj_n r1)) else (SI4 31 (gj_n a1))) → Q (i3 0) SI4 SJ4) ∧ (¬ a3 < (if (SI4 31 (gj_n r1)) < (SI4 31 (gj_n a1)) then (SI4 31 (gj_n r1)) else (SI4 31 (gj_n a1))) → ((if (SI4 31 (gj_n a1)) < (SI4 31 (gj_n r1)) then (SI4 31 (gj_n r1)) else (SI4 31 (gj_n a1))) < a3 → Q (i3 0) SI4 SJ4) ∧ (¬ (if (SI4 31 (gj_n a1)) < (SI4 31 (gj_n r1)) then (SI4 31 (gj_n r1)) else (SI4 31 (gj_n a1))) < a3 → Q (i3 1) SI4 SJ4)))))))))) : DoI E 40 [(.ref 29), (.int a1), (.int a2), (.int a3)] SI SJ Q := by
  refine gj_start (M := mt_40) ok_40 (Nat.le_of_ble_eq_true rfl) ?_
  refine gj_goq gj_clT ok_40 [5, 54] ?_
  show gj_Do E om0 (gj_mt 29) [(.ref 29), (.int a1)] SI SJ _
  refine gj_Do.mono h (fun v_ SI2 SJ2 h_ => ?_)
  obtain ⟨r1, rfl, q1⟩ := h_
  show gj_Goes E om0 mt_40 5 [some (.ref 29), some (.int a1), some (.int a2), some (.int a3), none] [(.int r1)] SI2 SJ2 (QI Q)
  refine gj_goq gj_clT ok_40 [5, 54] ?_
  show vp_in r1 8 ∧ (vp_in a1 8 ∧ (vp_in r1 8 ∧ (vp_in a1 8 ∧ (vp_in a1 8 ∧ (vp_in a1 8 ∧ (gj_Do E om0 (gj_mt 38) [(.int ((SI2 30 (gj_n r1)) - (SI2 30 (gj_n a1)))), (.int ((SI2 31 (gj_n r1)) - (SI2 31 (gj_n a1)))), (.int (a2 - (SI2 30 (gj_n a1)))), (.int (a3 - (SI2 31 (gj_n a1))))] SI2 SJ2 _))))))
  have k2 := q1.1
  refine ⟨k2, ?_⟩
  have k3 := q1.2.1
  refine ⟨k3, ?_⟩
  refine ⟨k2, ?_⟩
  refine ⟨k3, ?_⟩
  refine ⟨k3, ?_⟩
  refine ⟨k3, ?_⟩
  refine gj_Do.mono q1.2.2 (fun v_ SI4 SJ4 h_ => ?_)
  obtain ⟨r3, rfl, q4⟩ := h_
  show gj_Goes E om0 mt_40 54 [some (.ref 29), some (.int a1), some (.int a2), some (.int a3), some (.int r1)] [(.int r3)] SI4 SJ4 (QI Q)
  refine gj_goq gj_clT ok_40 [5, 54] ?_
  show (¬ r3 = 0 → gj_Goes E om0 mt_40 141 [some (.ref 29), some (.int a1), some (.int a2), some (.int a3), some (.int r1)] [] SI4 SJ4 (QI Q)) ∧ (r3 = 0 → vp_in a1 8 ∧ (vp_in r1 8 ∧ ((a2 < (if (SI4 30 (gj_n r1)) < (SI4 30 (gj_n a1)) then (SI4 30 (gj_n r1)) else (SI4 30 (gj_n a1))) → gj_Goes E om0 mt_40 141 [some (.ref 29), some (.int a1), some (.int a2), some (.int a3), some (.int r1)] [] SI4 SJ4 (QI Q)) ∧ (¬ a2 < (if (SI4 30 (gj_n r1)) < (SI4 30 (gj_n a1)) then (SI4 30 (gj_n r1)) else (SI4 30 (gj_n a1))) → vp_in a1 8 ∧ (vp_in r1 8 ∧ (((if (SI4 30 (gj_n a1)) < (SI4 30 (gj_n r1)) then (SI4 30 (gj_n r1)) else (SI4 30 (gj_n a1))) < a2 → gj_Goes E om0 mt_40 141 [some (.ref 29), some (.int a1), some (.int a2), some (.int a3), some (.int r1)] [] SI4 SJ4 (QI Q)) ∧ (¬ (if (SI4 30 (gj_n a1)) < (SI4 30 (gj_n r1)) then (SI4 30 (gj_n r1)) else (SI4 30 (gj_n a1))) < a2 → vp_in a1 8 ∧ (vp_in r1 8 ∧ ((a3 < (if (SI4 31 (gj_n r1)) < (SI4 31 (gj_n a1)) then (SI4 31 (gj_n r1)) else (SI4 31 (gj_n a1))) → gj_Goes E om0 mt_40 141 [some (.ref 29), some (.int a1), some (.int a2), some (.int a3), some (.int r1)] [] SI4 SJ4 (QI Q)) ∧ (¬ a3 < (if (SI4 31 (gj_n r1)) < (SI4 31 (gj_n a1)) then (SI4 31 (gj_n r1)) else (SI4 31 (gj_n a1))) → vp_in a1 8 ∧ (vp_in r1 8 ∧ (((if (SI4 31 (gj_n a1)) < (SI4 31 (gj_n r1)) then (SI4 31 (gj_n r1)) else (SI4 31 (gj_n a1))) < a3 → gj_Goes E om0 mt_40 141 [some (.ref 29), some (.int a1), some (.int a2), some (.int a3), some (.int r1)] [] SI4 SJ4 (QI Q)) ∧ (¬ (if (SI4 31 (gj_n a1)) < (SI4 31 (gj_n r1)) then (SI4 31 (gj_n r1)) else (SI4 31 (gj_n a1))) < a3 → gj_Goes E om0 mt_40 142 [some (.ref 29), some (.int a1), some (.int a2), some (.int a3), some (.int r1)] [(.int (i3 1))] SI4 SJ4 (QI Q))))))))))))))
  refine ⟨fun c5 => ?_, fun c5 => ?_⟩
  · refine gj_goq gj_clT ok_40 [5, 54] ?_
    show ((i3 0) = 0 ∨ (i3 0) = 1) ∧ (QI Q (some (.int (i3 0))) SI4 SJ4)
    refine ⟨(Or.inl rfl), ?_⟩
    exact ⟨_, rfl, (q4.1 c5)⟩
  · refine ⟨k3, ?_⟩
    refine ⟨k2, ?_⟩
    refine ⟨fun c6 => ?_, fun c6 => ?_⟩
    · refine gj_goq gj_clT ok_40 [5, 54] ?_
      show ((i3 0) = 0 ∨ (i3 0) = 1) ∧ (QI Q (some (.int (i3 0))) SI4 SJ4)
      refine ⟨(Or.inl rfl), ?_⟩
      exact ⟨_, rfl, ((q4.2 c5).1 c6)⟩
    · refine ⟨k3, ?_⟩
      refine ⟨k2, ?_⟩
      refine ⟨fun c7 => ?_, fun c7 => ?_⟩
      · refine gj_goq gj_clT ok_40 [5, 54] ?_
        show ((i3 0) = 0 ∨ (i3 0) = 1) ∧ (QI Q (some (.int (i3 0))) SI4 SJ4)
        refine ⟨(Or.inl rfl), ?_⟩
        exact ⟨_, rfl, (((q4.2 c5).2 c6).1 c7)⟩
      · refine ⟨k3, ?_⟩
        refine ⟨k2, ?_⟩
        refine ⟨fun c8 => ?_, fun c8 => ?_⟩
        · refine gj_goq gj_clT ok_40 [5, 54] ?_
          show ((i3 0) = 0 ∨ (i3 0) = 1) ∧ (QI Q (some (.int (i3 0))) SI4 SJ4)
          refine ⟨(Or.inl rfl), ?_⟩
          exact ⟨_, rfl, ((((q4.2 c5).2 c6).2 c7).1 c8)⟩
        · refine ⟨k3, ?_⟩
          refine ⟨k2, ?_⟩
          refine ⟨fun c9 => ?_, fun c9 => ?_⟩
          · refine gj_goq gj_clT ok_40 [5, 54] ?_
            show ((i3 0) = 0 ∨ (i3 0) = 1) ∧ (QI Q (some (.int (i3 0))) SI4 SJ4)
            refine ⟨(Or.inl rfl), ?_⟩
            exact ⟨_, rfl, (((((q4.2 c5).2 c6).2 c7).2 c8).1 c9)⟩
          · refine gj_goq gj_clT ok_40 [5, 54] ?_
            show ((i3 1) = 0 ∨ (i3 1) = 1) ∧ (QI Q (some (.int (i3 1))) SI4 SJ4)
            refine ⟨(Or.inr rfl), ?_⟩
            exact ⟨_, rfl, (((((q4.2 c5).2 c6).2 c7).2 c8).2 c9)⟩
set_option maxRecDepth 20000 in
/-- GraspJudge$Plate.twiceArea -/
theorem st_41_4 {E : gj_E} {Q : Int32 → gj_I → gj_J → Prop} (SI : gj_I) (SJ : gj_J) (h : GoI E mt_41 4 [some (.ref 4), some (.int (i3 0)), some (.int (i3 0))] SI SJ Q) : DoI E 41 [(.ref 4)] SI SJ Q := by
  refine gj_start (M := mt_41) ok_41 (Nat.le_of_ble_eq_true rfl) ?_
  refine gj_goq gj_clT ok_41 [4, 34, 44, 48] ?_
  show gj_Goes E om0 mt_41 4 [some (.ref 4), some (.int (i3 0)), some (.int (i3 0))] [] SI SJ (QI Q)
  exact h
set_option maxRecDepth 20000 in
theorem lp_41_4_4 {E : gj_E} {Q : Int32 → gj_I → gj_J → Prop} (x1 : Int32) (x2 : Int32) (SI : gj_I) (SJ : gj_J) (h : ((SI 4 7) ≤ x2 → Q x1 SI SJ) ∧ (¬ (SI 4 7) ≤ x2 → vp_in x2 8 ∧ (DoI E 29 [(.ref 4), (.int x2)] SI SJ (fun r1 SI2 SJ2 => vp_in r1 8 ∧ (DoI E 29 [(.ref 4), (.int x2)] SI2 SJ2 (fun r3 SI4 SJ4 => vp_in r3 8 ∧ (DoI E 38 [(.int (SI 5 (gj_n x2))), (.int (SI 6 (gj_n x2))), (.int (SI2 5 (gj_n r1))), (.int (SI4 6 (gj_n r3)))] SI4 SJ4 (fun r5 SI6 SJ6 => GoI E mt_41 4 [some (.ref 4), some (.int (x1 + r5)), some (.int (x2 + (i3 1)))] SI6 SJ6 Q)))))))) : GoI E mt_41 4 [some (.ref 4), some (.int x1), some (.int x2)] SI SJ Q := by
  refine gj_goq gj_clT ok_41 [4, 34, 44, 48] ?_
  show ((SI 4 7) ≤ x2 → gj_Goes E om0 mt_41 56 [some (.ref 4), some (.int x1), some (.int x2)] [] SI SJ (QI Q)) ∧ (¬ (SI 4 7) ≤ x2 → vp_in x2 8 ∧ (vp_in x2 8 ∧ (gj_Do E om0 (gj_mt 29) [(.ref 4), (.int x2)] SI SJ _)))
  refine ⟨fun c1 => ?_, fun c1 => ?_⟩
  · refine gj_goq gj_clT ok_41 [4, 34, 44, 48] ?_
    show QI Q (some (.int x1)) SI SJ
    exact ⟨_, rfl, (h.1 c1)⟩
  · have k2 := (h.2 c1).1
    refine ⟨k2, ?_⟩
    refine ⟨k2, ?_⟩
    refine gj_Do.mono (h.2 c1).2 (fun v_ SI2 SJ2 h_ => ?_)
    obtain ⟨r1, rfl, q3⟩ := h_
    show gj_Goes E om0 mt_41 34 [some (.ref 4), some (.int x1), some (.int x2)] [(.int r1), (.ref 5), (.int (SI 6 (gj_n x2))), (.int (SI 5 (gj_n x2))), (.int x1)] SI2 SJ2 (QI Q)
    refine gj_goq gj_clT ok_41 [4, 34, 44, 48] ?_
    show vp_in r1 8 ∧ (gj_Do E om0 (gj_mt 29) [(.ref 4), (.int x2)] SI2 SJ2 _)
    have k4 := q3.1
    refine ⟨k4, ?_⟩
    refine gj_Do.mono q3.2 (fun v_ SI4 SJ4 h_ => ?_)
    obtain ⟨r3, rfl, q5⟩ := h_
    show gj_Goes E om0 mt_41 44 [some (.ref 4), some (.int x1), some (.int x2)] [(.int r3), (.ref 6), (.int (SI2 5 (gj_n r1))), (.int (SI 6 (gj_n x2))), (.int (SI 5 (gj_n x2))), (.int x1)] SI4 SJ4 (QI Q)
    refine gj_goq gj_clT ok_41 [4, 34, 44, 48] ?_
    show vp_in r3 8 ∧ (gj_Do E om0 (gj_mt 38) [(.int (SI 5 (gj_n x2))), (.int (SI 6 (gj_n x2))), (.int (SI2 5 (gj_n r1))), (.int (SI4 6 (gj_n r3)))] SI4 SJ4 _)
    have k6 := q5.1
    refine ⟨k6, ?_⟩
    refine gj_Do.mono q5.2 (fun v_ SI6 SJ6 h_ => ?_)
    obtain ⟨r5, rfl, q7⟩ := h_
    show gj_Goes E om0 mt_41 48 [some (.ref 4), some (.int x1), some (.int x2)] [(.int r5), (.int x1)] SI6 SJ6 (QI Q)
    refine gj_goq gj_clT ok_41 [4, 34, 44, 48] ?_
    show gj_Goes E om0 mt_41 4 [some (.ref 4), some (.int (x1 + r5)), some (.int (x2 + (i3 1)))] [] SI6 SJ6 (QI Q)
    exact q7
set_option maxRecDepth 20000 in
theorem st_41_29 {E : gj_E} {Q : Int32 → gj_I → gj_J → Prop} (SI : gj_I) (SJ : gj_J) (h : GoI E mt_41 4 [some (.ref 29), some (.int (i3 0)), some (.int (i3 0))] SI SJ Q) : DoI E 41 [(.ref 29)] SI SJ Q := by
  refine gj_start (M := mt_41) ok_41 (Nat.le_of_ble_eq_true rfl) ?_
  refine gj_goq gj_clT ok_41 [4, 34, 44, 48] ?_
  show gj_Goes E om0 mt_41 4 [some (.ref 29), some (.int (i3 0)), some (.int (i3 0))] [] SI SJ (QI Q)
  exact h
set_option maxRecDepth 20000 in
theorem lp_41_4_29 {E : gj_E} {Q : Int32 → gj_I → gj_J → Prop} (x1 : Int32) (x2 : Int32) (SI : gj_I) (SJ : gj_J) (h : ((SI 29 7) ≤ x2 → Q x1 SI SJ) ∧ (¬ (SI 29 7) ≤ x2 → vp_in x2 8 ∧ (DoI E 29 [(.ref 29), (.int x2)] SI SJ (fun r1 SI2 SJ2 => vp_in r1 8 ∧ (DoI E 29 [(.ref 29), (.int x2)] SI2 SJ2 (fun r3 SI4 SJ4 => vp_in r3 8 ∧ (DoI E 38 [(.int (SI 30 (gj_n x2))), (.int (SI 31 (gj_n x2))), (.int (SI2 30 (gj_n r1))), (.int (SI4 31 (gj_n r3)))] SI4 SJ4 (fun r5 SI6 SJ6 => GoI E mt_41 4 [some (.ref 29), some (.int (x1 + r5)), some (.int (x2 + (i3 1)))] SI6 SJ6 Q)))))))) : GoI E mt_41 4 [some (.ref 29), some (.int x1), some (.int x2)] SI SJ Q := by
  refine gj_goq gj_clT ok_41 [4, 34, 44, 48] ?_
  show ((SI 29 7) ≤ x2 → gj_Goes E om0 mt_41 56 [some (.ref 29), some (.int x1), some (.int x2)] [] SI SJ (QI Q)) ∧ (¬ (SI 29 7) ≤ x2 → vp_in x2 8 ∧ (vp_in x2 8 ∧ (gj_Do E om0 (gj_mt 29) [(.ref 29), (.int x2)] SI SJ _)))
  refine ⟨fun c1 => ?_, fun c1 => ?_⟩
  · refine gj_goq gj_clT ok_41 [4, 34, 44, 48] ?_
    show QI Q (some (.int x1)) SI SJ
    exact ⟨_, rfl, (h.1 c1)⟩
  · have k2 := (h.2 c1).1
    refine ⟨k2, ?_⟩
    refine ⟨k2, ?_⟩
    refine gj_Do.mono (h.2 c1).2 (fun v_ SI2 SJ2 h_ => ?_)
    obtain ⟨r1, rfl, q3⟩ := h_
    show gj_Goes E om0 mt_41 34 [some (.ref 29), some (.int x1), some (.int x2)] [(.int r1), (.ref 30), (.int (SI 31 (gj_n x2))), (.int (SI 30 (gj_n x2))), (.int x1)] SI2 SJ2 (QI Q)
    refine gj_goq gj_clT ok_41 [4, 34, 44, 48] ?_
    show vp_in r1 8 ∧ (gj_Do E om0 (gj_mt 29) [(.ref 29), (.int x2)] SI2 SJ2 _)
    have k4 := q3.1
    refine ⟨k4, ?_⟩
    refine gj_Do.mono q3.2 (fun v_ SI4 SJ4 h_ => ?_)
    obtain ⟨r3, rfl, q5⟩ := h_
    show gj_Goes E om0 mt_41 44 [some (.ref 29), some (.int x1), some (.int x2)] [(.int r3), (.ref 31), (.int (SI2 30 (gj_n r1))), (.int (SI 31 (gj_n x2))), (.int (SI 30 (gj_n x2))), (.int x1)] SI4 SJ4 (QI Q)
    refine gj_goq gj_clT ok_41 [4, 34, 44, 48] ?_
    show vp_in r3 8 ∧ (gj_Do E om0 (gj_mt 38) [(.int (SI 30 (gj_n x2))), (.int (SI 31 (gj_n x2))), (.int (SI2 30 (gj_n r1))), (.int (SI4 31 (gj_n r3)))] SI4 SJ4 _)
    have k6 := q5.1
    refine ⟨k6, ?_⟩
    refine gj_Do.mono q5.2 (fun v_ SI6 SJ6 h_ => ?_)
    obtain ⟨r5, rfl, q7⟩ := h_
    show gj_Goes E om0 mt_41 48 [some (.ref 29), some (.int x1), some (.int x2)] [(.int r5), (.int x1)] SI6 SJ6 (QI Q)
    refine gj_goq gj_clT ok_41 [4, 34, 44, 48] ?_
    show gj_Goes E om0 mt_41 4 [some (.ref 29), some (.int (x1 + r5)), some (.int (x2 + (i3 1)))] [] SI6 SJ6 (QI Q)
    exact q7
set_option maxRecDepth 20000 in
/-- GraspJudge$Plate.middle -/
theorem st_42 {E : gj_E} {Q : Int64 → gj_I → gj_J → Prop} (a1 : Int32) (SI : gj_I) (SJ : gj_J) (h : (a1 = 0 → GoL E mt_42 21 [some (.ref 4), none, some (.ref 6), some (.long (i6 0)), none, some (.int (i3 0)), none] SI SJ Q) ∧ (¬ a1 = 0 → GoL E mt_42 21 [some (.ref 4), none, some (.ref 5), some (.long (i6 0)), none, some (.int (i3 0)), none] SI SJ Q)) : DoL E 42 [(.ref 4), (.int a1)] SI SJ Q := by
  refine gj_start (M := mt_42) ok_42 (Nat.le_of_ble_eq_true rfl) ?_
  refine gj_goq gj_clT ok_42 [21, 36, 80] ?_
  show (a1 = 0 → gj_Goes E om0 mt_42 11 [some (.ref 4), some (.int a1), none, none, none, none, none] [] SI SJ (QL Q)) ∧ (¬ a1 = 0 → gj_Goes E om0 mt_42 15 [some (.ref 4), some (.int a1), none, none, none, none, none] [(.ref 5)] SI SJ (QL Q))
  refine ⟨fun c1 => ?_, fun c1 => ?_⟩
  · refine gj_goq gj_clT ok_42 [21, 36, 80] ?_
    show gj_Goes E om0 mt_42 21 [some (.ref 4), some (.int a1), some (.ref 6), some (.long (i6 0)), none, some (.int (i3 0)), none] [] SI SJ (QL Q)
    exact gj_fh (h.1 c1) (And.intro (Or.inr rfl) (And.intro (Or.inl rfl) (And.intro (Or.inr rfl) (And.intro (Or.inr rfl) (And.intro (Or.inl rfl) (And.intro (Or.inr rfl) (And.intro (Or.inl rfl) trivial)))))))
  · refine gj_goq gj_clT ok_42 [21, 36, 80] ?_
    show gj_Goes E om0 mt_42 21 [some (.ref 4), some (.int a1), some (.ref 5), some (.long (i6 0)), none, some (.int (i3 0)), none] [] SI SJ (QL Q)
    exact gj_fh (h.2 c1) (And.intro (Or.inr rfl) (And.intro (Or.inl rfl) (And.intro (Or.inr rfl) (And.intro (Or.inr rfl) (And.intro (Or.inl rfl) (And.intro (Or.inr rfl) (And.intro (Or.inl rfl) trivial)))))))
set_option maxRecDepth 20000 in
theorem lp_42_21_4_5 {E : gj_E} {Q : Int64 → gj_I → gj_J → Prop} (x3 : Int64) (x5 : Int32) (SI : gj_I) (SJ : gj_J) (h : ((SI 4 7) ≤ x5 → Q x3 SI SJ) ∧ (¬ (SI 4 7) ≤ x5 → DoI E 29 [(.ref 4), (.int x5)] SI SJ (fun r1 SI2 SJ2 => vp_in x5 8 ∧ (vp_in r1 8 ∧ (DoI E 38 [(.int (SI2 5 (gj_n x5))), (.int (SI2 6 (gj_n x5))), (.int (SI2 5 (gj_n r1))), (.int (SI2 6 (gj_n r1)))] SI2 SJ2 (fun r3 SI4 SJ4 => GoL E mt_42 21 [some (.ref 4), none, some (.ref 5), some (.long (x3 + (((SI2 5 (gj_n x5)) + (SI2 5 (gj_n r1))).toInt64 * (r3).toInt64))), none, some (.int (x5 + (i3 1))), none] SI4 SJ4 Q)))))) : GoL E mt_42 21 [some (.ref 4), none, some (.ref 5), some (.long x3), none, some (.int x5), none] SI SJ Q := by
  refine gj_goq gj_clT ok_42 [21, 36, 80] ?_
  show ((SI 4 7) ≤ x5 → gj_Goes E om0 mt_42 90 [some (.ref 4), none, some (.ref 5), some (.long x3), none, some (.int x5), none] [] SI SJ (QL Q)) ∧ (¬ (SI 4 7) ≤ x5 → gj_Do E om0 (gj_mt 29) [(.ref 4), (.int x5)] SI SJ _)
  refine ⟨fun c1 => ?_, fun c1 => ?_⟩
  · refine gj_goq gj_clT ok_42 [21, 36, 80] ?_
    show QL Q (some (.long x3)) SI SJ
    exact ⟨_, rfl, (h.1 c1)⟩
  · refine gj_Do.mono (h.2 c1) (fun v_ SI2 SJ2 h_ => ?_)
    obtain ⟨r1, rfl, q2⟩ := h_
    show gj_Goes E om0 mt_42 36 [some (.ref 4), none, some (.ref 5), some (.long x3), none, some (.int x5), none] [(.int r1)] SI2 SJ2 (QL Q)
    refine gj_goq gj_clT ok_42 [21, 36, 80] ?_
    show vp_in x5 8 ∧ (vp_in r1 8 ∧ (vp_in x5 8 ∧ (vp_in x5 8 ∧ (vp_in r1 8 ∧ (vp_in r1 8 ∧ (gj_Do E om0 (gj_mt 38) [(.int (SI2 5 (gj_n x5))), (.int (SI2 6 (gj_n x5))), (.int (SI2 5 (gj_n r1))), (.int (SI2 6 (gj_n r1)))] SI2 SJ2 _))))))
    have k3 := q2.1
    refine ⟨k3, ?_⟩
    have k4 := q2.2.1
    refine ⟨k4, ?_⟩
    refine ⟨k3, ?_⟩
    refine ⟨k3, ?_⟩
    refine ⟨k4, ?_⟩
    refine ⟨k4, ?_⟩
    refine gj_Do.mono q2.2.2 (fun v_ SI4 SJ4 h_ => ?_)
    obtain ⟨r3, rfl, q5⟩ := h_
    show gj_Goes E om0 mt_42 80 [some (.ref 4), none, some (.ref 5), some (.long x3), none, some (.int x5), some (.int r1)] [(.int r3), (.long ((SI2 5 (gj_n x5)) + (SI2 5 (gj_n r1))).toInt64), (.long x3)] SI4 SJ4 (QL Q)
    refine gj_goq gj_clT ok_42 [21, 36, 80] ?_
    show gj_Goes E om0 mt_42 21 [some (.ref 4), none, some (.ref 5), some (.long (x3 + (((SI2 5 (gj_n x5)) + (SI2 5 (gj_n r1))).toInt64 * (r3).toInt64))), none, some (.int (x5 + (i3 1))), some (.int r1)] [] SI4 SJ4 (QL Q)
    exact gj_fh q5 (And.intro (Or.inr rfl) (And.intro (Or.inl rfl) (And.intro (Or.inr rfl) (And.intro (Or.inr rfl) (And.intro (Or.inl rfl) (And.intro (Or.inr rfl) (And.intro (Or.inl rfl) trivial)))))))
set_option maxRecDepth 20000 in
theorem lp_42_21_4_6 {E : gj_E} {Q : Int64 → gj_I → gj_J → Prop} (x3 : Int64) (x5 : Int32) (SI : gj_I) (SJ : gj_J) (h : ((SI 4 7) ≤ x5 → Q x3 SI SJ) ∧ (¬ (SI 4 7) ≤ x5 → DoI E 29 [(.ref 4), (.int x5)] SI SJ (fun r1 SI2 SJ2 => vp_in x5 8 ∧ (vp_in r1 8 ∧ (DoI E 38 [(.int (SI2 5 (gj_n x5))), (.int (SI2 6 (gj_n x5))), (.int (SI2 5 (gj_n r1))), (.int (SI2 6 (gj_n r1)))] SI2 SJ2 (fun r3 SI4 SJ4 => GoL E mt_42 21 [some (.ref 4), none, some (.ref 6), some (.long (x3 + (((SI2 6 (gj_n x5)) + (SI2 6 (gj_n r1))).toInt64 * (r3).toInt64))), none, some (.int (x5 + (i3 1))), none] SI4 SJ4 Q)))))) : GoL E mt_42 21 [some (.ref 4), none, some (.ref 6), some (.long x3), none, some (.int x5), none] SI SJ Q := by
  refine gj_goq gj_clT ok_42 [21, 36, 80] ?_
  show ((SI 4 7) ≤ x5 → gj_Goes E om0 mt_42 90 [some (.ref 4), none, some (.ref 6), some (.long x3), none, some (.int x5), none] [] SI SJ (QL Q)) ∧ (¬ (SI 4 7) ≤ x5 → gj_Do E om0 (gj_mt 29) [(.ref 4), (.int x5)] SI SJ _)
  refine ⟨fun c1 => ?_, fun c1 => ?_⟩
  · refine gj_goq gj_clT ok_42 [21, 36, 80] ?_
    show QL Q (some (.long x3)) SI SJ
    exact ⟨_, rfl, (h.1 c1)⟩
  · refine gj_Do.mono (h.2 c1) (fun v_ SI2 SJ2 h_ => ?_)
    obtain ⟨r1, rfl, q2⟩ := h_
    show gj_Goes E om0 mt_42 36 [some (.ref 4), none, some (.ref 6), some (.long x3), none, some (.int x5), none] [(.int r1)] SI2 SJ2 (QL Q)
    refine gj_goq gj_clT ok_42 [21, 36, 80] ?_
    show vp_in x5 8 ∧ (vp_in r1 8 ∧ (vp_in x5 8 ∧ (vp_in x5 8 ∧ (vp_in r1 8 ∧ (vp_in r1 8 ∧ (gj_Do E om0 (gj_mt 38) [(.int (SI2 5 (gj_n x5))), (.int (SI2 6 (gj_n x5))), (.int (SI2 5 (gj_n r1))), (.int (SI2 6 (gj_n r1)))] SI2 SJ2 _))))))
    have k3 := q2.1
    refine ⟨k3, ?_⟩
    have k4 := q2.2.1
    refine ⟨k4, ?_⟩
    refine ⟨k3, ?_⟩
    refine ⟨k3, ?_⟩
    refine ⟨k4, ?_⟩
    refine ⟨k4, ?_⟩
    refine gj_Do.mono q2.2.2 (fun v_ SI4 SJ4 h_ => ?_)
    obtain ⟨r3, rfl, q5⟩ := h_
    show gj_Goes E om0 mt_42 80 [some (.ref 4), none, some (.ref 6), some (.long x3), none, some (.int x5), some (.int r1)] [(.int r3), (.long ((SI2 6 (gj_n x5)) + (SI2 6 (gj_n r1))).toInt64), (.long x3)] SI4 SJ4 (QL Q)
    refine gj_goq gj_clT ok_42 [21, 36, 80] ?_
    show gj_Goes E om0 mt_42 21 [some (.ref 4), none, some (.ref 6), some (.long (x3 + (((SI2 6 (gj_n x5)) + (SI2 6 (gj_n r1))).toInt64 * (r3).toInt64))), none, some (.int (x5 + (i3 1))), some (.int r1)] [] SI4 SJ4 (QL Q)
    exact gj_fh q5 (And.intro (Or.inr rfl) (And.intro (Or.inl rfl) (And.intro (Or.inr rfl) (And.intro (Or.inr rfl) (And.intro (Or.inl rfl) (And.intro (Or.inr rfl) (And.intro (Or.inl rfl) trivial)))))))
set_option maxRecDepth 20000 in
/-- GraspJudge$Plate.whereIs -/
theorem st_43 {E : gj_E} {Q : Int32 → gj_I → gj_J → Prop} (a1 : Int32) (a2 : Int32) (SI : gj_I) (SJ : gj_J) (h : GoI E mt_43 5 [some (.ref 4), some (.int a1), some (.int a2), some (.int (i3 0)), some (.int (i3 0)), none, none] SI SJ Q) : DoI E 43 [(.ref 4), (.int a1), (.int a2)] SI SJ Q := by
  refine gj_start (M := mt_43) ok_43 (Nat.le_of_ble_eq_true rfl) ?_
  refine gj_goq gj_clT ok_43 [5, 22, 33, 86] ?_
  show gj_Goes E om0 mt_43 5 [some (.ref 4), some (.int a1), some (.int a2), some (.int (i3 0)), some (.int (i3 0)), none, none] [] SI SJ (QI Q)
  exact h
set_option maxRecDepth 20000 in
theorem lp_43_5 {E : gj_E} {Q : Int32 → gj_I → gj_J → Prop} (x1 : Int32) (x2 : Int32) (x3 : Int32) (x4 : Int32) (SI : gj_I) (SJ : gj_J) (h : ((SI 4 7) ≤ x4 → (¬ x3 = 0 → Q (i3 1) SI SJ) ∧ (x3 = 0 → Q (i3 0) SI SJ)) ∧ (¬ (SI 4 7) ≤ x4 → DoI E 40 [(.ref 4), (.int x4), (.int x1), (.int x2)] SI SJ (fun r1 SI2 SJ2 => (r1 = 0 → DoI E 29 [(.ref 4), (.int x4)] SI2 SJ2 (fun r3 SI4 SJ4 => vp_in r3 8 ∧ (vp_in x4 8 ∧ (DoI E 38 [(.int ((SI4 5 (gj_n r3)) - (SI4 5 (gj_n x4)))), (.int ((SI4 6 (gj_n r3)) - (SI4 6 (gj_n x4)))), (.int (x1 - (SI4 5 (gj_n x4)))), (.int (x2 - (SI4 6 (gj_n x4))))] SI4 SJ4 (fun r5 SI6 SJ6 => (x2 < (SI6 6 (gj_n x4)) → ((SI6 6 (gj_n x4)) ≤ x2 → GoI E mt_43 5 [some (.ref 4), some (.int x1), some (.int x2), some (.int x3), some (.int (x4 + (i3 1))), none, none] SI6 SJ6 Q) ∧ (¬ (SI6 6 (gj_n x4)) ≤ x2 → (x2 < (SI6 6 (gj_n r3)) → GoI E mt_43 5 [some (.ref 4), some (.int x1), some (.int x2), some (.int x3), some (.int (x4 + (i3 1))), none, none] SI6 SJ6 Q) ∧ (¬ x2 < (SI6 6 (gj_n r3)) → (0 ≤ r5 → GoI E mt_43 5 [some (.ref 4), some (.int x1), some (.int x2), some (.int x3), some (.int (x4 + (i3 1))), none, none] SI6 SJ6 Q) ∧ (¬ 0 ≤ r5 → GoI E mt_43 5 [some (.ref 4), some (.int x1), some (.int x2), some (.int (x3 + (i3 (-1)))), some (.int (x4 + (i3 1))), none, none] SI6 SJ6 Q)))) ∧ (¬ x2 < (SI6 6 (gj_n x4)) → ((SI6 6 (gj_n r3)) ≤ x2 → ((SI6 6 (gj_n x4)) ≤ x2 → GoI E mt_43 5 [some (.ref 4), some (.int x1), some (.int x2), some (.int x3), some (.int (x4 + (i3 1))), none, none] SI6 SJ6 Q) ∧ (¬ (SI6 6 (gj_n x4)) ≤ x2 → (x2 < (SI6 6 (gj_n r3)) → GoI E mt_43 5 [some (.ref 4), some (.int x1), some (.int x2), some (.int x3), some (.int (x4 + (i3 1))), none, none] SI6 SJ6 Q) ∧ (¬ x2 < (SI6 6 (gj_n r3)) → (0 ≤ r5 → GoI E mt_43 5 [some (.ref 4), some (.int x1), some (.int x2), some (.int x3), some (.int (x4 + (i3 1))), none, none] SI6 SJ6 Q) ∧ (¬ 0 ≤ r5 → GoI E mt_43 5 [some (.ref 4), some (.int x1), some (.int x2), some (.int (x3 + (i3 (-1)))), some (.int (x4 + (i3 1))), none, none] SI6 SJ6 Q)))) ∧ (¬ (SI6 6 (gj_n r3)) ≤ x2 → (r5 ≤ 0 → ((SI6 6 (gj_n x4)) ≤ x2 → GoI E mt_43 5 [some (.ref 4), some (.int x1), some (.int x2), some (.int x3), some (.int (x4 + (i3 1))), none, none] SI6 SJ6 Q) ∧ (¬ (SI6 6 (gj_n x4)) ≤ x2 → (x2 < (SI6 6 (gj_n r3)) → GoI E mt_43 5 [some (.ref 4), some (.int x1), some (.int x2), some (.int x3), some (.int (x4 + (i3 1))), none, none] SI6 SJ6 Q) ∧ (¬ x2 < (SI6 6 (gj_n r3)) → (0 ≤ r5 → GoI E mt_43 5 [some (.ref 4), some (.int x1), some (.int x2), some (.int x3), some (.int (x4 + (i3 1))), none, none] SI6 SJ6 Q) ∧ (¬ 0 ≤ r5 → GoI E mt_43 5 [some (.ref 4), some (.int x1), some (.int x2), some (.int (x3 + (i3 (-1)))), some (.int (x4 + (i3 1))), none, none] SI6 SJ6 Q)))) ∧ (¬ r5 ≤ 0 → GoI E mt_43 5 [some (.ref 4), some (.int x1), some (.int x2), some (.int (x3 + (i3 1))), some (.int (x4 + (i3 1))), none, none] SI6 SJ6 Q)))))))) ∧ (¬ r1 = 0 → Q (i3 2) SI2 SJ2)))) : GoI E mt_43 5 [some (.ref 4), some (.int x1), some (.int x2), some (.int x3), some (.int x4), none, none] SI SJ Q := by
  refine gj_goq gj_clT ok_43 [5, 22, 33, 86] ?_
  show ((SI 4 7) ≤ x4 → gj_Goes E om0 mt_43 157 [some (.ref 4), some (.int x1), some (.int x2), some (.int x3), some (.int x4), none, none] [] SI SJ (QI Q)) ∧ (¬ (SI 4 7) ≤ x4 → gj_Do E om0 (gj_mt 40) [(.ref 4), (.int x4), (.int x1), (.int x2)] SI SJ _)
  refine ⟨fun c1 => ?_, fun c1 => ?_⟩
  · refine gj_goq gj_clT ok_43 [5, 22, 33, 86] ?_
    show (¬ x3 = 0 → gj_Goes E om0 mt_43 165 [some (.ref 4), some (.int x1), some (.int x2), some (.int x3), some (.int x4), none, none] [] SI SJ (QI Q)) ∧ (x3 = 0 → gj_Goes E om0 mt_43 166 [some (.ref 4), some (.int x1), some (.int x2), some (.int x3), some (.int x4), none, none] [(.int (i3 0))] SI SJ (QI Q))
    refine ⟨fun c2 => ?_, fun c2 => ?_⟩
    · refine gj_goq gj_clT ok_43 [5, 22, 33, 86] ?_
      show QI Q (some (.int (i3 1))) SI SJ
      exact ⟨_, rfl, ((h.1 c1).1 c2)⟩
    · refine gj_goq gj_clT ok_43 [5, 22, 33, 86] ?_
      show QI Q (some (.int (i3 0))) SI SJ
      exact ⟨_, rfl, ((h.1 c1).2 c2)⟩
  · refine gj_Do.mono (h.2 c1) (fun v_ SI2 SJ2 h_ => ?_)
    obtain ⟨r1, rfl, q3⟩ := h_
    show gj_Goes E om0 mt_43 22 [some (.ref 4), some (.int x1), some (.int x2), some (.int x3), some (.int x4), none, none] [(.int r1)] SI2 SJ2 (QI Q)
    refine gj_goq gj_clT ok_43 [5, 22, 33, 86] ?_
    show (r1 = 0 → gj_Goes E om0 mt_43 27 [some (.ref 4), some (.int x1), some (.int x2), some (.int x3), some (.int x4), none, none] [] SI2 SJ2 (QI Q)) ∧ (¬ r1 = 0 → QI Q (some (.int (i3 2))) SI2 SJ2)
    refine ⟨fun c4 => ?_, fun c4 => ?_⟩
    · refine gj_goq gj_clT ok_43 [5, 22, 33, 86] ?_
      show gj_Do E om0 (gj_mt 29) [(.ref 4), (.int x4)] SI2 SJ2 _
      refine gj_Do.mono (q3.1 c4) (fun v_ SI4 SJ4 h_ => ?_)
      obtain ⟨r3, rfl, q5⟩ := h_
      show gj_Goes E om0 mt_43 33 [some (.ref 4), some (.int x1), some (.int x2), some (.int x3), some (.int x4), none, none] [(.int r3)] SI4 SJ4 (QI Q)
      refine gj_goq gj_clT ok_43 [5, 22, 33, 86] ?_
      show vp_in r3 8 ∧ (vp_in x4 8 ∧ (vp_in r3 8 ∧ (vp_in x4 8 ∧ (vp_in x4 8 ∧ (vp_in x4 8 ∧ (gj_Do E om0 (gj_mt 38) [(.int ((SI4 5 (gj_n r3)) - (SI4 5 (gj_n x4)))), (.int ((SI4 6 (gj_n r3)) - (SI4 6 (gj_n x4)))), (.int (x1 - (SI4 5 (gj_n x4)))), (.int (x2 - (SI4 6 (gj_n x4))))] SI4 SJ4 _))))))
      have k6 := q5.1
      refine ⟨k6, ?_⟩
      have k7 := q5.2.1
      refine ⟨k7, ?_⟩
      refine ⟨k6, ?_⟩
      refine ⟨k7, ?_⟩
      refine ⟨k7, ?_⟩
      refine ⟨k7, ?_⟩
      refine gj_Do.mono q5.2.2 (fun v_ SI6 SJ6 h_ => ?_)
      obtain ⟨r5, rfl, q8⟩ := h_
      show gj_Goes E om0 mt_43 86 [some (.ref 4), some (.int x1), some (.int x2), some (.int x3), some (.int x4), some (.int r3), none] [(.int r5)] SI6 SJ6 (QI Q)
      refine gj_goq gj_clT ok_43 [5, 22, 33, 86] ?_
      show vp_in x4 8 ∧ ((x2 < (SI6 6 (gj_n x4)) → gj_Goes E om0 mt_43 121 [some (.ref 4), some (.int x1), some (.int x2), some (.int x3), some (.int x4), some (.int r3), some (.int r5)] [] SI6 SJ6 (QI Q)) ∧ (¬ x2 < (SI6 6 (gj_n x4)) → vp_in r3 8 ∧ (((SI6 6 (gj_n r3)) ≤ x2 → gj_Goes E om0 mt_43 121 [some (.ref 4), some (.int x1), some (.int x2), some (.int x3), some (.int x4), some (.int r3), some (.int r5)] [] SI6 SJ6 (QI Q)) ∧ (¬ (SI6 6 (gj_n r3)) ≤ x2 → (r5 ≤ 0 → gj_Goes E om0 mt_43 121 [some (.ref 4), some (.int x1), some (.int x2), some (.int x3), some (.int x4), some (.int r3), some (.int r5)] [] SI6 SJ6 (QI Q)) ∧ (¬ r5 ≤ 0 → gj_Goes E om0 mt_43 151 [some (.ref 4), some (.int x1), some (.int x2), some (.int (x3 + (i3 1))), some (.int x4), some (.int r3), some (.int r5)] [] SI6 SJ6 (QI Q))))))
      refine ⟨k7, ?_⟩
      refine ⟨fun c9 => ?_, fun c9 => ?_⟩
      · refine gj_goq gj_clT ok_43 [5, 22, 33, 86] ?_
        show vp_in x4 8 ∧ (((SI6 6 (gj_n x4)) ≤ x2 → gj_Goes E om0 mt_43 151 [some (.ref 4), some (.int x1), some (.int x2), some (.int x3), some (.int x4), some (.int r3), some (.int r5)] [] SI6 SJ6 (QI Q)) ∧ (¬ (SI6 6 (gj_n x4)) ≤ x2 → vp_in r3 8 ∧ ((x2 < (SI6 6 (gj_n r3)) → gj_Goes E om0 mt_43 151 [some (.ref 4), some (.int x1), some (.int x2), some (.int x3), some (.int x4), some (.int r3), some (.int r5)] [] SI6 SJ6 (QI Q)) ∧ (¬ x2 < (SI6 6 (gj_n r3)) → (0 ≤ r5 → gj_Goes E om0 mt_43 151 [some (.ref 4), some (.int x1), some (.int x2), some (.int x3), some (.int x4), some (.int r3), some (.int r5)] [] SI6 SJ6 (QI Q)) ∧ (¬ 0 ≤ r5 → gj_Goes E om0 mt_43 5 [some (.ref 4), some (.int x1), some (.int x2), some (.int (x3 + (i3 (-1)))), some (.int (x4 + (i3 1))), some (.int r3), some (.int r5)] [] SI6 SJ6 (QI Q))))))
        refine ⟨k7, ?_⟩
        refine ⟨fun c10 => ?_, fun c10 => ?_⟩
        · refine gj_goq gj_clT ok_43 [5, 22, 33, 86] ?_
          show gj_Goes E om0 mt_43 5 [some (.ref 4), some (.int x1), some (.int x2), some (.int x3), some (.int (x4 + (i3 1))), some (.int r3), some (.int r5)] [] SI6 SJ6 (QI Q)
          exact gj_fh ((q8.1 c9).1 c10) (And.intro (Or.inr rfl) (And.intro (Or.inr rfl) (And.intro (Or.inr rfl) (And.intro (Or.inr rfl) (And.intro (Or.inr rfl) (And.intro (Or.inl rfl) (And.intro (Or.inl rfl) trivial)))))))
        · refine ⟨k6, ?_⟩
          refine ⟨fun c11 => ?_, fun c11 => ?_⟩
          · refine gj_goq gj_clT ok_43 [5, 22, 33, 86] ?_
            show gj_Goes E om0 mt_43 5 [some (.ref 4), some (.int x1), some (.int x2), some (.int x3), some (.int (x4 + (i3 1))), some (.int r3), some (.int r5)] [] SI6 SJ6 (QI Q)
            exact gj_fh (((q8.1 c9).2 c10).1 c11) (And.intro (Or.inr rfl) (And.intro (Or.inr rfl) (And.intro (Or.inr rfl) (And.intro (Or.inr rfl) (And.intro (Or.inr rfl) (And.intro (Or.inl rfl) (And.intro (Or.inl rfl) trivial)))))))
          · refine ⟨fun c12 => ?_, fun c12 => ?_⟩
            · refine gj_goq gj_clT ok_43 [5, 22, 33, 86] ?_
              show gj_Goes E om0 mt_43 5 [some (.ref 4), some (.int x1), some (.int x2), some (.int x3), some (.int (x4 + (i3 1))), some (.int r3), some (.int r5)] [] SI6 SJ6 (QI Q)
              exact gj_fh ((((q8.1 c9).2 c10).2 c11).1 c12) (And.intro (Or.inr rfl) (And.intro (Or.inr rfl) (And.intro (Or.inr rfl) (And.intro (Or.inr rfl) (And.intro (Or.inr rfl) (And.intro (Or.inl rfl) (And.intro (Or.inl rfl) trivial)))))))
            · exact gj_fh ((((q8.1 c9).2 c10).2 c11).2 c12) (And.intro (Or.inr rfl) (And.intro (Or.inr rfl) (And.intro (Or.inr rfl) (And.intro (Or.inr rfl) (And.intro (Or.inr rfl) (And.intro (Or.inl rfl) (And.intro (Or.inl rfl) trivial)))))))
      · refine ⟨k6, ?_⟩
        refine ⟨fun c13 => ?_, fun c13 => ?_⟩
        · refine gj_goq gj_clT ok_43 [5, 22, 33, 86] ?_
          show vp_in x4 8 ∧ (((SI6 6 (gj_n x4)) ≤ x2 → gj_Goes E om0 mt_43 151 [some (.ref 4), some (.int x1), some (.int x2), some (.int x3), some (.int x4), some (.int r3), some (.int r5)] [] SI6 SJ6 (QI Q)) ∧ (¬ (SI6 6 (gj_n x4)) ≤ x2 → vp_in r3 8 ∧ ((x2 < (SI6 6 (gj_n r3)) → gj_Goes E om0 mt_43 151 [some (.ref 4), some (.int x1), some (.int x2), some (.int x3), some (.int x4), some (.int r3), some (.int r5)] [] SI6 SJ6 (QI Q)) ∧ (¬ x2 < (SI6 6 (gj_n r3)) → (0 ≤ r5 → gj_Goes E om0 mt_43 151 [some (.ref 4), some (.int x1), some (.int x2), some (.int x3), some (.int x4), some (.int r3), some (.int r5)] [] SI6 SJ6 (QI Q)) ∧ (¬ 0 ≤ r5 → gj_Goes E om0 mt_43 5 [some (.ref 4), some (.int x1), some (.int x2), some (.int (x3 + (i3 (-1)))), some (.int (x4 + (i3 1))), some (.int r3), some (.int r5)] [] SI6 SJ6 (QI Q))))))
          refine ⟨k7, ?_⟩
          refine ⟨fun c14 => ?_, fun c14 => ?_⟩
          · refine gj_goq gj_clT ok_43 [5, 22, 33, 86] ?_
            show gj_Goes E om0 mt_43 5 [some (.ref 4), some (.int x1), some (.int x2), some (.int x3), some (.int (x4 + (i3 1))), some (.int r3), some (.int r5)] [] SI6 SJ6 (QI Q)
            exact gj_fh (((q8.2 c9).1 c13).1 c14) (And.intro (Or.inr rfl) (And.intro (Or.inr rfl) (And.intro (Or.inr rfl) (And.intro (Or.inr rfl) (And.intro (Or.inr rfl) (And.intro (Or.inl rfl) (And.intro (Or.inl rfl) trivial)))))))
          · refine ⟨k6, ?_⟩
            refine ⟨fun c15 => ?_, fun c15 => ?_⟩
            · refine gj_goq gj_clT ok_43 [5, 22, 33, 86] ?_
              show gj_Goes E om0 mt_43 5 [some (.ref 4), some (.int x1), some (.int x2), some (.int x3), some (.int (x4 + (i3 1))), some (.int r3), some (.int r5)] [] SI6 SJ6 (QI Q)
              exact gj_fh ((((q8.2 c9).1 c13).2 c14).1 c15) (And.intro (Or.inr rfl) (And.intro (Or.inr rfl) (And.intro (Or.inr rfl) (And.intro (Or.inr rfl) (And.intro (Or.inr rfl) (And.intro (Or.inl rfl) (And.intro (Or.inl rfl) trivial)))))))
            · refine ⟨fun c16 => ?_, fun c16 => ?_⟩
              · refine gj_goq gj_clT ok_43 [5, 22, 33, 86] ?_
                show gj_Goes E om0 mt_43 5 [some (.ref 4), some (.int x1), some (.int x2), some (.int x3), some (.int (x4 + (i3 1))), some (.int r3), some (.int r5)] [] SI6 SJ6 (QI Q)
                exact gj_fh (((((q8.2 c9).1 c13).2 c14).2 c15).1 c16) (And.intro (Or.inr rfl) (And.intro (Or.inr rfl) (And.intro (Or.inr rfl) (And.intro (Or.inr rfl) (And.intro (Or.inr rfl) (And.intro (Or.inl rfl) (And.intro (Or.inl rfl) trivial)))))))
              · exact gj_fh (((((q8.2 c9).1 c13).2 c14).2 c15).2 c16) (And.intro (Or.inr rfl) (And.intro (Or.inr rfl) (And.intro (Or.inr rfl) (And.intro (Or.inr rfl) (And.intro (Or.inr rfl) (And.intro (Or.inl rfl) (And.intro (Or.inl rfl) trivial)))))))
        · refine ⟨fun c17 => ?_, fun c17 => ?_⟩
          · refine gj_goq gj_clT ok_43 [5, 22, 33, 86] ?_
            show vp_in x4 8 ∧ (((SI6 6 (gj_n x4)) ≤ x2 → gj_Goes E om0 mt_43 151 [some (.ref 4), some (.int x1), some (.int x2), some (.int x3), some (.int x4), some (.int r3), some (.int r5)] [] SI6 SJ6 (QI Q)) ∧ (¬ (SI6 6 (gj_n x4)) ≤ x2 → vp_in r3 8 ∧ ((x2 < (SI6 6 (gj_n r3)) → gj_Goes E om0 mt_43 151 [some (.ref 4), some (.int x1), some (.int x2), some (.int x3), some (.int x4), some (.int r3), some (.int r5)] [] SI6 SJ6 (QI Q)) ∧ (¬ x2 < (SI6 6 (gj_n r3)) → (0 ≤ r5 → gj_Goes E om0 mt_43 151 [some (.ref 4), some (.int x1), some (.int x2), some (.int x3), some (.int x4), some (.int r3), some (.int r5)] [] SI6 SJ6 (QI Q)) ∧ (¬ 0 ≤ r5 → gj_Goes E om0 mt_43 5 [some (.ref 4), some (.int x1), some (.int x2), some (.int (x3 + (i3 (-1)))), some (.int (x4 + (i3 1))), some (.int r3), some (.int r5)] [] SI6 SJ6 (QI Q))))))
            refine ⟨k7, ?_⟩
            refine ⟨fun c18 => ?_, fun c18 => ?_⟩
            · refine gj_goq gj_clT ok_43 [5, 22, 33, 86] ?_
              show gj_Goes E om0 mt_43 5 [some (.ref 4), some (.int x1), some (.int x2), some (.int x3), some (.int (x4 + (i3 1))), some (.int r3), some (.int r5)] [] SI6 SJ6 (QI Q)
              exact gj_fh ((((q8.2 c9).2 c13).1 c17).1 c18) (And.intro (Or.inr rfl) (And.intro (Or.inr rfl) (And.intro (Or.inr rfl) (And.intro (Or.inr rfl) (And.intro (Or.inr rfl) (And.intro (Or.inl rfl) (And.intro (Or.inl rfl) trivial)))))))
            · refine ⟨k6, ?_⟩
              refine ⟨fun c19 => ?_, fun c19 => ?_⟩
              · refine gj_goq gj_clT ok_43 [5, 22, 33, 86] ?_
                show gj_Goes E om0 mt_43 5 [some (.ref 4), some (.int x1), some (.int x2), some (.int x3), some (.int (x4 + (i3 1))), some (.int r3), some (.int r5)] [] SI6 SJ6 (QI Q)
                exact gj_fh (((((q8.2 c9).2 c13).1 c17).2 c18).1 c19) (And.intro (Or.inr rfl) (And.intro (Or.inr rfl) (And.intro (Or.inr rfl) (And.intro (Or.inr rfl) (And.intro (Or.inr rfl) (And.intro (Or.inl rfl) (And.intro (Or.inl rfl) trivial)))))))
              · refine ⟨fun c20 => ?_, fun c20 => ?_⟩
                · refine gj_goq gj_clT ok_43 [5, 22, 33, 86] ?_
                  show gj_Goes E om0 mt_43 5 [some (.ref 4), some (.int x1), some (.int x2), some (.int x3), some (.int (x4 + (i3 1))), some (.int r3), some (.int r5)] [] SI6 SJ6 (QI Q)
                  exact gj_fh ((((((q8.2 c9).2 c13).1 c17).2 c18).2 c19).1 c20) (And.intro (Or.inr rfl) (And.intro (Or.inr rfl) (And.intro (Or.inr rfl) (And.intro (Or.inr rfl) (And.intro (Or.inr rfl) (And.intro (Or.inl rfl) (And.intro (Or.inl rfl) trivial)))))))
                · exact gj_fh ((((((q8.2 c9).2 c13).1 c17).2 c18).2 c19).2 c20) (And.intro (Or.inr rfl) (And.intro (Or.inr rfl) (And.intro (Or.inr rfl) (And.intro (Or.inr rfl) (And.intro (Or.inr rfl) (And.intro (Or.inl rfl) (And.intro (Or.inl rfl) trivial)))))))
          · refine gj_goq gj_clT ok_43 [5, 22, 33, 86] ?_
            show gj_Goes E om0 mt_43 5 [some (.ref 4), some (.int x1), some (.int x2), some (.int (x3 + (i3 1))), some (.int (x4 + (i3 1))), some (.int r3), some (.int r5)] [] SI6 SJ6 (QI Q)
            exact gj_fh (((q8.2 c9).2 c13).2 c17) (And.intro (Or.inr rfl) (And.intro (Or.inr rfl) (And.intro (Or.inr rfl) (And.intro (Or.inr rfl) (And.intro (Or.inr rfl) (And.intro (Or.inl rfl) (And.intro (Or.inl rfl) trivial)))))))
    · exact ⟨_, rfl, (q3.2 c4)⟩
set_option maxRecDepth 20000 in
/-- GraspJudge$State.copyOf -/
theorem st_60_3_16 {E : gj_E} {Q : gj_I → gj_J → Prop} (SI : gj_I) (SJ : gj_J) (h : DoV E 27 [(.ref 4), (.ref 17)] SI SJ (fun SI2 SJ2 => Q (gj_u2 (gj_u2 (gj_u2 (gj_u2 (gj_u2 (gj_u2 (gj_u2 (gj_u2 (gj_ua (gj_ua (gj_ua (gj_ua SI2 12 (va_cpy (SI2 25) (SI2 12) 0 0 6)) 13 (va_cpy (SI2 26) (SI2 13) 0 0 6)) 14 (va_cpy (SI2 27) (SI2 14) 0 0 80)) 15 (va_cpy (SI2 28) (SI2 15) 0 0 18)) 3 5 (SI2 16 5)) 3 6 (SI2 16 6)) 3 7 (SI2 16 7)) 3 8 (SI2 16 8)) 3 9 (SI2 16 9)) 3 10 (SI2 16 10)) 3 11 (SI2 16 11)) 3 12 (SI2 16 12)) SJ2)) : DoV E 60 [(.ref 3), (.ref 16)] SI SJ Q := by
  refine gj_start (M := mt_60) ok_60 (Nat.le_of_ble_eq_true rfl) ?_
  refine gj_goq gj_clT ok_60 [11] ?_
  show gj_Do E om0 (gj_mt 27) [(.ref 4), (.ref 17)] SI SJ _
  refine gj_Do.mono h (fun v_ SI2 SJ2 h_ => ?_)
  obtain ⟨rfl, q1⟩ := h_
  show gj_Goes E om0 mt_60 11 [some (.ref 3), some (.ref 16)] [] SI2 SJ2 (QV Q)
  refine gj_goq gj_clT ok_60 [11] ?_
  show ¬ (i3 0) < 0 ∧ (¬ (i3 0) < 0 ∧ (¬ (i3 6) < 0 ∧ (0 + 6 ≤ 6 ∧ (0 + 6 ≤ 6 ∧ (¬ (i3 0) < 0 ∧ (¬ (i3 0) < 0 ∧ (¬ (i3 6) < 0 ∧ (0 + 6 ≤ 6 ∧ (0 + 6 ≤ 6 ∧ (¬ (i3 0) < 0 ∧ (¬ (i3 0) < 0 ∧ (¬ (i3 80) < 0 ∧ (0 + 80 ≤ 80 ∧ (0 + 80 ≤ 80 ∧ (¬ (i3 0) < 0 ∧ (¬ (i3 0) < 0 ∧ (¬ (i3 18) < 0 ∧ (0 + 18 ≤ 18 ∧ (0 + 18 ≤ 18 ∧ (QV Q none (gj_u2 (gj_u2 (gj_u2 (gj_u2 (gj_u2 (gj_u2 (gj_u2 (gj_u2 (gj_ua (gj_ua (gj_ua (gj_ua SI2 12 (va_cpy (SI2 25) (SI2 12) 0 0 6)) 13 (va_cpy (SI2 26) (SI2 13) 0 0 6)) 14 (va_cpy (SI2 27) (SI2 14) 0 0 80)) 15 (va_cpy (SI2 28) (SI2 15) 0 0 18)) 3 5 (SI2 16 5)) 3 6 (SI2 16 6)) 3 7 (SI2 16 7)) 3 8 (SI2 16 8)) 3 9 (SI2 16 9)) 3 10 (SI2 16 10)) 3 11 (SI2 16 11)) 3 12 (SI2 16 12)) SJ2))))))))))))))))))))
  refine ⟨(by decide), ?_⟩
  refine ⟨(by decide), ?_⟩
  refine ⟨(by decide), ?_⟩
  refine ⟨(by decide), ?_⟩
  refine ⟨(by decide), ?_⟩
  refine ⟨(by decide), ?_⟩
  refine ⟨(by decide), ?_⟩
  refine ⟨(by decide), ?_⟩
  refine ⟨(by decide), ?_⟩
  refine ⟨(by decide), ?_⟩
  refine ⟨(by decide), ?_⟩
  refine ⟨(by decide), ?_⟩
  refine ⟨(by decide), ?_⟩
  refine ⟨(by decide), ?_⟩
  refine ⟨(by decide), ?_⟩
  refine ⟨(by decide), ?_⟩
  refine ⟨(by decide), ?_⟩
  refine ⟨(by decide), ?_⟩
  refine ⟨(by decide), ?_⟩
  refine ⟨(by decide), ?_⟩
  exact ⟨rfl, q1⟩
set_option maxRecDepth 20000 in
theorem st_60_16_3 {E : gj_E} {Q : gj_I → gj_J → Prop} (SI : gj_I) (SJ : gj_J) (h : DoV E 27 [(.ref 17), (.ref 4)] SI SJ (fun SI2 SJ2 => Q (gj_u2 (gj_u2 (gj_u2 (gj_u2 (gj_u2 (gj_u2 (gj_u2 (gj_u2 (gj_ua (gj_ua (gj_ua (gj_ua SI2 25 (va_cpy (SI2 12) (SI2 25) 0 0 6)) 26 (va_cpy (SI2 13) (SI2 26) 0 0 6)) 27 (va_cpy (SI2 14) (SI2 27) 0 0 80)) 28 (va_cpy (SI2 15) (SI2 28) 0 0 18)) 16 5 (SI2 3 5)) 16 6 (SI2 3 6)) 16 7 (SI2 3 7)) 16 8 (SI2 3 8)) 16 9 (SI2 3 9)) 16 10 (SI2 3 10)) 16 11 (SI2 3 11)) 16 12 (SI2 3 12)) SJ2)) : DoV E 60 [(.ref 16), (.ref 3)] SI SJ Q := by
  refine gj_start (M := mt_60) ok_60 (Nat.le_of_ble_eq_true rfl) ?_
  refine gj_goq gj_clT ok_60 [11] ?_
  show gj_Do E om0 (gj_mt 27) [(.ref 17), (.ref 4)] SI SJ _
  refine gj_Do.mono h (fun v_ SI2 SJ2 h_ => ?_)
  obtain ⟨rfl, q1⟩ := h_
  show gj_Goes E om0 mt_60 11 [some (.ref 16), some (.ref 3)] [] SI2 SJ2 (QV Q)
  refine gj_goq gj_clT ok_60 [11] ?_
  show ¬ (i3 0) < 0 ∧ (¬ (i3 0) < 0 ∧ (¬ (i3 6) < 0 ∧ (0 + 6 ≤ 6 ∧ (0 + 6 ≤ 6 ∧ (¬ (i3 0) < 0 ∧ (¬ (i3 0) < 0 ∧ (¬ (i3 6) < 0 ∧ (0 + 6 ≤ 6 ∧ (0 + 6 ≤ 6 ∧ (¬ (i3 0) < 0 ∧ (¬ (i3 0) < 0 ∧ (¬ (i3 80) < 0 ∧ (0 + 80 ≤ 80 ∧ (0 + 80 ≤ 80 ∧ (¬ (i3 0) < 0 ∧ (¬ (i3 0) < 0 ∧ (¬ (i3 18) < 0 ∧ (0 + 18 ≤ 18 ∧ (0 + 18 ≤ 18 ∧ (QV Q none (gj_u2 (gj_u2 (gj_u2 (gj_u2 (gj_u2 (gj_u2 (gj_u2 (gj_u2 (gj_ua (gj_ua (gj_ua (gj_ua SI2 25 (va_cpy (SI2 12) (SI2 25) 0 0 6)) 26 (va_cpy (SI2 13) (SI2 26) 0 0 6)) 27 (va_cpy (SI2 14) (SI2 27) 0 0 80)) 28 (va_cpy (SI2 15) (SI2 28) 0 0 18)) 16 5 (SI2 3 5)) 16 6 (SI2 3 6)) 16 7 (SI2 3 7)) 16 8 (SI2 3 8)) 16 9 (SI2 3 9)) 16 10 (SI2 3 10)) 16 11 (SI2 3 11)) 16 12 (SI2 3 12)) SJ2))))))))))))))))))))
  refine ⟨(by decide), ?_⟩
  refine ⟨(by decide), ?_⟩
  refine ⟨(by decide), ?_⟩
  refine ⟨(by decide), ?_⟩
  refine ⟨(by decide), ?_⟩
  refine ⟨(by decide), ?_⟩
  refine ⟨(by decide), ?_⟩
  refine ⟨(by decide), ?_⟩
  refine ⟨(by decide), ?_⟩
  refine ⟨(by decide), ?_⟩
  refine ⟨(by decide), ?_⟩
  refine ⟨(by decide), ?_⟩
  refine ⟨(by decide), ?_⟩
  refine ⟨(by decide), ?_⟩
  refine ⟨(by decide), ?_⟩
  refine ⟨(by decide), ?_⟩
  refine ⟨(by decide), ?_⟩
  refine ⟨(by decide), ?_⟩
  refine ⟨(by decide), ?_⟩
  refine ⟨(by decide), ?_⟩
  exact ⟨rfl, q1⟩
set_option maxRecDepth 20000 in
/-- GraspJudge$State.beginOn -/
theorem st_61 {E : gj_E} {Q : gj_I → gj_J → Prop} (SI : gj_I) (SJ : gj_J) (h : DoV E 27 [(.ref 4), (.ref 29)] SI SJ (fun SI2 SJ2 => Q (gj_u2 (gj_u2 (gj_u2 (gj_u2 SI2 3 5 (i3 0)) 3 8 (i3 2)) 3 9 (i3 2)) 3 11 (i3 0)) SJ2)) : DoV E 61 [(.ref 3), (.ref 29)] SI SJ Q := by
  refine gj_start (M := mt_61) ok_61 (Nat.le_of_ble_eq_true rfl) ?_
  refine gj_goq gj_clT ok_61 [8] ?_
  show gj_Do E om0 (gj_mt 27) [(.ref 4), (.ref 29)] SI SJ _
  refine gj_Do.mono h (fun v_ SI2 SJ2 h_ => ?_)
  obtain ⟨rfl, q1⟩ := h_
  show gj_Goes E om0 mt_61 8 [some (.ref 3), some (.ref 29)] [] SI2 SJ2 (QV Q)
  refine gj_goq gj_clT ok_61 [8] ?_
  show QV Q none (gj_u2 (gj_u2 (gj_u2 (gj_u2 SI2 3 5 (i3 0)) 3 8 (i3 2)) 3 9 (i3 2)) 3 11 (i3 0)) SJ2
  exact ⟨rfl, q1⟩
set_option maxRecDepth 20000 in
/-- GraspJudge$State.remember -/
theorem st_62 {E : gj_E} {Q : gj_I → gj_J → Prop} (a1 : Int32) (a2 : Int32) (a3 : Int32) (SI : gj_I) (SJ : gj_J) (h : Q (gj_u2 (gj_u2 (gj_u2 (gj_u2 (gj_u2 (gj_ua SI 14 (va_cpy (SI 14) (SI 14) 0 4 76)) 14 0 a1) 14 1 (SI 3 5)) 14 2 a2) 14 3 a3) 3 11 (if ((SI 3 11) + (i3 1)) < (i3 20) then ((SI 3 11) + (i3 1)) else (i3 20))) SJ) : DoV E 62 [(.ref 3), (.int a1), (.int a2), (.int a3)] SI SJ Q := by
  refine gj_start (M := mt_62) ok_62 (Nat.le_of_ble_eq_true rfl) ?_
  refine gj_goq gj_clT ok_62 [] ?_
  show ¬ (i3 0) < 0 ∧ (¬ (i3 4) < 0 ∧ (¬ (i3 76) < 0 ∧ (0 + 76 ≤ 80 ∧ (4 + 76 ≤ 80 ∧ (vp_in (i3 0) 80 ∧ (vp_in (i3 1) 80 ∧ (vp_in (i3 2) 80 ∧ (vp_in (i3 3) 80 ∧ (QV Q none (gj_u2 (gj_u2 (gj_u2 (gj_u2 (gj_u2 (gj_ua SI 14 (va_cpy (SI 14) (SI 14) 0 4 76)) 14 0 a1) 14 1 (SI 3 5)) 14 2 a2) 14 3 a3) 3 11 (if ((SI 3 11) + (i3 1)) < (i3 20) then ((SI 3 11) + (i3 1)) else (i3 20))) SJ)))))))))
  refine ⟨(by decide), ?_⟩
  refine ⟨(by decide), ?_⟩
  refine ⟨(by decide), ?_⟩
  refine ⟨(by decide), ?_⟩
  refine ⟨(by decide), ?_⟩
  refine ⟨(gj_vin (by decide)), ?_⟩
  refine ⟨(gj_vin (by decide)), ?_⟩
  refine ⟨(gj_vin (by decide)), ?_⟩
  refine ⟨(gj_vin (by decide)), ?_⟩
  exact ⟨rfl, h⟩
set_option maxRecDepth 20000 in
/-- GraspJudge$State.fingerAt -/
theorem st_63 {E : gj_E} {Q : Int32 → gj_I → gj_J → Prop} (a1 : Int32) (a2 : Int32) (SI : gj_I) (SJ : gj_J) (h : GoI E mt_63 2 [some (.ref 3), some (.int a1), some (.int a2), some (.int (i3 0))] SI SJ Q) : DoI E 63 [(.ref 3), (.int a1), (.int a2)] SI SJ Q := by
  refine gj_start (M := mt_63) ok_63 (Nat.le_of_ble_eq_true rfl) ?_
  refine gj_goq gj_clT ok_63 [2] ?_
  show gj_Goes E om0 mt_63 2 [some (.ref 3), some (.int a1), some (.int a2), some (.int (i3 0))] [] SI SJ (QI Q)
  exact h
set_option maxRecDepth 20000 in
theorem lp_63_2 {E : gj_E} {Q : Int32 → gj_I → gj_J → Prop} (x1 : Int32) (x2 : Int32) (x3 : Int32) (SI : gj_I) (SJ : gj_J) (h : ((SI 3 5) ≤ x3 → Q (i3 (-1)) SI SJ) ∧ (¬ (SI 3 5) ≤ x3 → vp_in x3 6 ∧ ((¬ (SI 12 (gj_n x3)) = x1 → GoI E mt_63 2 [some (.ref 3), some (.int x1), some (.int x2), some (.int (x3 + (i3 1)))] SI SJ Q) ∧ ((SI 12 (gj_n x3)) = x1 → (¬ (SI 13 (gj_n x3)) = x2 → GoI E mt_63 2 [some (.ref 3), some (.int x1), some (.int x2), some (.int (x3 + (i3 1)))] SI SJ Q) ∧ ((SI 13 (gj_n x3)) = x2 → Q x3 SI SJ))))) : GoI E mt_63 2 [some (.ref 3), some (.int x1), some (.int x2), some (.int x3)] SI SJ Q := by
  refine gj_goq gj_clT ok_63 [2] ?_
  show ((SI 3 5) ≤ x3 → gj_Goes E om0 mt_63 38 [some (.ref 3), some (.int x1), some (.int x2), some (.int x3)] [] SI SJ (QI Q)) ∧ (¬ (SI 3 5) ≤ x3 → vp_in x3 6 ∧ ((¬ (SI 12 (gj_n x3)) = x1 → gj_Goes E om0 mt_63 32 [some (.ref 3), some (.int x1), some (.int x2), some (.int x3)] [] SI SJ (QI Q)) ∧ ((SI 12 (gj_n x3)) = x1 → vp_in x3 6 ∧ ((¬ (SI 13 (gj_n x3)) = x2 → gj_Goes E om0 mt_63 32 [some (.ref 3), some (.int x1), some (.int x2), some (.int x3)] [] SI SJ (QI Q)) ∧ ((SI 13 (gj_n x3)) = x2 → QI Q (some (.int x3)) SI SJ)))))
  refine ⟨fun c1 => ?_, fun c1 => ?_⟩
  · refine gj_goq gj_clT ok_63 [2] ?_
    show QI Q (some (.int (i3 (-1)))) SI SJ
    exact ⟨_, rfl, (h.1 c1)⟩
  · have k2 := (h.2 c1).1
    refine ⟨k2, ?_⟩
    refine ⟨fun c3 => ?_, fun c3 => ?_⟩
    · refine gj_goq gj_clT ok_63 [2] ?_
      show gj_Goes E om0 mt_63 2 [some (.ref 3), some (.int x1), some (.int x2), some (.int (x3 + (i3 1)))] [] SI SJ (QI Q)
      exact ((h.2 c1).2.1 c3)
    · refine ⟨k2, ?_⟩
      refine ⟨fun c4 => ?_, fun c4 => ?_⟩
      · refine gj_goq gj_clT ok_63 [2] ?_
        show gj_Goes E om0 mt_63 2 [some (.ref 3), some (.int x1), some (.int x2), some (.int (x3 + (i3 1)))] [] SI SJ (QI Q)
        exact (((h.2 c1).2.2 c3).1 c4)
      · exact ⟨_, rfl, (((h.2 c1).2.2 c3).2 c4)⟩
set_option maxRecDepth 20000 in
/-- GraspJudge$State.forces -/
theorem st_64 {E : gj_E} {Q : Int32 → gj_I → gj_J → Prop} (SI : gj_I) (SJ : gj_J) (h : (¬ (SI 3 6) = 0 → Q (i3 2) SI SJ) ∧ ((SI 3 6) = 0 → Q (i3 1) SI SJ)) : DoI E 64 [(.ref 3)] SI SJ Q := by
  refine gj_start (M := mt_64) ok_64 (Nat.le_of_ble_eq_true rfl) ?_
  refine gj_goq gj_clT ok_64 [] ?_
  show (¬ (SI 3 6) = 0 → gj_Goes E om0 mt_64 11 [some (.ref 3)] [] SI SJ (QI Q)) ∧ ((SI 3 6) = 0 → gj_Goes E om0 mt_64 12 [some (.ref 3)] [(.int (i3 1))] SI SJ (QI Q))
  refine ⟨fun c1 => ?_, fun c1 => ?_⟩
  · refine gj_goq gj_clT ok_64 [] ?_
    show QI Q (some (.int (i3 2))) SI SJ
    exact ⟨_, rfl, (h.1 c1)⟩
  · refine gj_goq gj_clT ok_64 [] ?_
    show QI Q (some (.int (i3 1))) SI SJ
    exact ⟨_, rfl, (h.2 c1)⟩
set_option maxRecDepth 20000 in
/-- GraspJudge$State.press -/
theorem st_65_3_42 {E : gj_E} {Q : gj_I → gj_J → Prop} (a1 : Int32) (a2 : Int32) (a3 : Int32) (a4 : Int32) (a5 : Int32) (SI : gj_I) (SJ : gj_J) (h : DoI E 30 [(.ref 4), (.int a2), (.int a3)] SI SJ (fun r1 SI2 SJ2 => (¬ r1 = 0 → DoI E 31 [(.ref 4), (.int a2), (.int a3)] SI2 SJ2 (fun r3 SI4 SJ4 => DoI E 32 [(.ref 4), (.int a2), (.int a3)] SI4 SJ4 (fun r5 SI6 SJ6 => GoV E mt_65 51 [some (.ref 3), some (.ref 42), some (.int a1), some (.int a2), none, some (.int a4), some (.int a5), some (.int (r3 - (SI4 3 8))), some (.int (r5 - (SI6 3 9))), some (.int (i3 1)), none, none, none] SI6 SJ6 Q))) ∧ (r1 = 0 → Q SI2 SJ2))) : DoV E 65 [(.ref 3), (.ref 42), (.int a1), (.int a2), (.int a3), (.int a4), (.int a5)] SI SJ Q := by
  refine gj_start (M := mt_65) ok_65 (Nat.le_of_ble_eq_true rfl) ?_
  refine gj_goq gj_clT ok_65 [10, 24, 41, 51, 136, 179] ?_
  show gj_Do E om0 (gj_mt 30) [(.ref 4), (.int a2), (.int a3)] SI SJ _
  refine gj_Do.mono h (fun v_ SI2 SJ2 h_ => ?_)
  obtain ⟨r1, rfl, q1⟩ := h_
  show gj_Goes E om0 mt_65 10 [some (.ref 3), some (.ref 42), some (.int a1), some (.int a2), some (.int a3), some (.int a4), some (.int a5), none, none, none, none, none, none] [(.int r1)] SI2 SJ2 (QV Q)
  refine gj_goq gj_clT ok_65 [10, 24, 41, 51, 136, 179] ?_
  show (¬ r1 = 0 → gj_Goes E om0 mt_65 14 [some (.ref 3), some (.ref 42), some (.int a1), some (.int a2), some (.int a3), some (.int a4), some (.int a5), none, none, none, none, none, none] [] SI2 SJ2 (QV Q)) ∧ (r1 = 0 → QV Q none SI2 SJ2)
  refine ⟨fun c2 => ?_, fun c2 => ?_⟩
  · refine gj_goq gj_clT ok_65 [10, 24, 41, 51, 136, 179] ?_
    show gj_Do E om0 (gj_mt 31) [(.ref 4), (.int a2), (.int a3)] SI2 SJ2 _
    refine gj_Do.mono (q1.1 c2) (fun v_ SI4 SJ4 h_ => ?_)
    obtain ⟨r3, rfl, q3⟩ := h_
    show gj_Goes E om0 mt_65 24 [some (.ref 3), some (.ref 42), some (.int a1), some (.int a2), some (.int a3), some (.int a4), some (.int a5), none, none, none, none, none, none] [(.int r3)] SI4 SJ4 (QV Q)
    refine gj_goq gj_clT ok_65 [10, 24, 41, 51, 136, 179] ?_
    show gj_Do E om0 (gj_mt 32) [(.ref 4), (.int a2), (.int a3)] SI4 SJ4 _
    refine gj_Do.mono q3 (fun v_ SI6 SJ6 h_ => ?_)
    obtain ⟨r5, rfl, q4⟩ := h_
    show gj_Goes E om0 mt_65 41 [some (.ref 3), some (.ref 42), some (.int a1), some (.int a2), some (.int a3), some (.int a4), some (.int a5), some (.int (r3 - (SI4 3 8))), none, none, none, none, none] [(.int r5)] SI6 SJ6 (QV Q)
    refine gj_goq gj_clT ok_65 [10, 24, 41, 51, 136, 179] ?_
    show gj_Goes E om0 mt_65 51 [some (.ref 3), some (.ref 42), some (.int a1), some (.int a2), some (.int a3), some (.int a4), some (.int a5), some (.int (r3 - (SI4 3 8))), some (.int (r5 - (SI6 3 9))), some (.int (i3 1)), none, none, none] [] SI6 SJ6 (QV Q)
    exact gj_fh q4 (And.intro (Or.inr rfl) (And.intro (Or.inr rfl) (And.intro (Or.inr rfl) (And.intro (Or.inr rfl) (And.intro (Or.inl rfl) (And.intro (Or.inr rfl) (And.intro (Or.inr rfl) (And.intro (Or.inr rfl) (And.intro (Or.inr rfl) (And.intro (Or.inr rfl) (And.intro (Or.inl rfl) (And.intro (Or.inl rfl) (And.intro (Or.inl rfl) trivial)))))))))))))
  · exact ⟨rfl, (q1.2 c2)⟩
set_option maxRecDepth 20000 in
theorem lp_65_51_3_42 {E : gj_E} {Q : gj_I → gj_J → Prop} (x2 : Int32) (x3 : Int32) (x5 : Int32) (x6 : Int32) (x7 : Int32) (x8 : Int32) (x9 : Int32) (SI : gj_I) (SJ : gj_J) (h : (¬ x5 = 0 → (x9 < (i3 (-1)) → Q SI SJ) ∧ (¬ x9 < (i3 (-1)) → vp_in x3 8 ∧ (DoL E 154 [(.long (((-x6) * (SI 8 (gj_n x3))) + ((x9 * x5) * (SI 7 (gj_n x3)))).toInt64), (.long ((x6 * (SI 7 (gj_n x3))) + ((x9 * x5) * (SI 8 (gj_n x3)))).toInt64)] SI SJ (fun r1 SI2 SJ2 => ((r1).toInt32 ≤ (i3 1) → DoV E 1 [(.ref 42), (.int x2), (.int (((-x6) * (SI 8 (gj_n x3))) + ((x9 * x5) * (SI 7 (gj_n x3))))), (.int ((x6 * (SI 7 (gj_n x3))) + ((x9 * x5) * (SI 8 (gj_n x3))))), (.int ((x7 * ((x6 * (SI 7 (gj_n x3))) + ((x9 * x5) * (SI 8 (gj_n x3))))) - (x8 * (((-x6) * (SI 8 (gj_n x3))) + ((x9 * x5) * (SI 7 (gj_n x3)))))))] SI2 SJ2 (fun SI4 SJ4 => GoV E mt_65 51 [some (.ref 3), some (.ref 42), some (.int x2), some (.int x3), none, some (.int x5), some (.int x6), some (.int x7), some (.int x8), some (.int (x9 + (i3 (-2)))), none, none, none] SI4 SJ4 Q)) ∧ (¬ (r1).toInt32 ≤ (i3 1) → ¬ (r1).toInt32 = 0 ∧ (DoV E 1 [(.ref 42), (.int x2), (.int ((((-x6) * (SI 8 (gj_n x3))) + ((x9 * x5) * (SI 7 (gj_n x3)))) / (r1).toInt32)), (.int (((x6 * (SI 7 (gj_n x3))) + ((x9 * x5) * (SI 8 (gj_n x3)))) / (r1).toInt32)), (.int ((x7 * (((x6 * (SI 7 (gj_n x3))) + ((x9 * x5) * (SI 8 (gj_n x3)))) / (r1).toInt32)) - (x8 * ((((-x6) * (SI 8 (gj_n x3))) + ((x9 * x5) * (SI 7 (gj_n x3)))) / (r1).toInt32))))] SI2 SJ2 (fun SI6 SJ6 => GoV E mt_65 51 [some (.ref 3), some (.ref 42), some (.int x2), some (.int x3), none, some (.int x5), some (.int x6), some (.int x7), some (.int x8), some (.int (x9 + (i3 (-2)))), none, none, none] SI6 SJ6 Q))))))) ∧ (x5 = 0 → (x9 < (i3 1) → Q SI SJ) ∧ (¬ x9 < (i3 1) → vp_in x3 8 ∧ (DoL E 154 [(.long (((-x6) * (SI 8 (gj_n x3))) + ((x9 * x5) * (SI 7 (gj_n x3)))).toInt64), (.long ((x6 * (SI 7 (gj_n x3))) + ((x9 * x5) * (SI 8 (gj_n x3)))).toInt64)] SI SJ (fun r7 SI8 SJ8 => ((r7).toInt32 ≤ (i3 1) → DoV E 1 [(.ref 42), (.int x2), (.int (((-x6) * (SI 8 (gj_n x3))) + ((x9 * x5) * (SI 7 (gj_n x3))))), (.int ((x6 * (SI 7 (gj_n x3))) + ((x9 * x5) * (SI 8 (gj_n x3))))), (.int ((x7 * ((x6 * (SI 7 (gj_n x3))) + ((x9 * x5) * (SI 8 (gj_n x3))))) - (x8 * (((-x6) * (SI 8 (gj_n x3))) + ((x9 * x5) * (SI 7 (gj_n x3)))))))] SI8 SJ8 (fun SI10 SJ10 => GoV E mt_65 51 [some (.ref 3), some (.ref 42), some (.int x2), some (.int x3), none, some (.int x5), some (.int x6), some (.int x7), some (.int x8), some (.int (x9 + (i3 (-2)))), none, none, none] SI10 SJ10 Q)) ∧ (¬ (r7).toInt32 ≤ (i3 1) → ¬ (r7).toInt32 = 0 ∧ (DoV E 1 [(.ref 42), (.int x2), (.int ((((-x6) * (SI 8 (gj_n x3))) + ((x9 * x5) * (SI 7 (gj_n x3)))) / (r7).toInt32)), (.int (((x6 * (SI 7 (gj_n x3))) + ((x9 * x5) * (SI 8 (gj_n x3)))) / (r7).toInt32)), (.int ((x7 * (((x6 * (SI 7 (gj_n x3))) + ((x9 * x5) * (SI 8 (gj_n x3)))) / (r7).toInt32)) - (x8 * ((((-x6) * (SI 8 (gj_n x3))) + ((x9 * x5) * (SI 7 (gj_n x3)))) / (r7).toInt32))))] SI8 SJ8 (fun SI12 SJ12 => GoV E mt_65 51 [some (.ref 3), some (.ref 42), some (.int x2), some (.int x3), none, some (.int x5), some (.int x6), some (.int x7), some (.int x8), some (.int (x9 + (i3 (-2)))), none, none, none] SI12 SJ12 Q)))))))) : GoV E mt_65 51 [some (.ref 3), some (.ref 42), some (.int x2), some (.int x3), none, some (.int x5), some (.int x6), some (.int x7), some (.int x8), some (.int x9), none, none, none] SI SJ Q := by
  refine gj_goq gj_clT ok_65 [10, 24, 41, 51, 136, 179] ?_
  show (¬ x5 = 0 → gj_Goes E om0 mt_65 62 [some (.ref 3), some (.ref 42), some (.int x2), some (.int x3), none, some (.int x5), some (.int x6), some (.int x7), some (.int x8), some (.int x9), none, none, none] [(.int x9)] SI SJ (QV Q)) ∧ (x5 = 0 → gj_Goes E om0 mt_65 63 [some (.ref 3), some (.ref 42), some (.int x2), some (.int x3), none, some (.int x5), some (.int x6), some (.int x7), some (.int x8), some (.int x9), none, none, none] [(.int (i3 1)), (.int x9)] SI SJ (QV Q))
  refine ⟨fun c1 => ?_, fun c1 => ?_⟩
  · refine gj_goq gj_clT ok_65 [10, 24, 41, 51, 136, 179] ?_
    show (x9 < (i3 (-1)) → gj_Goes E om0 mt_65 185 [some (.ref 3), some (.ref 42), some (.int x2), some (.int x3), none, some (.int x5), some (.int x6), some (.int x7), some (.int x8), some (.int x9), none, none, none] [] SI SJ (QV Q)) ∧ (¬ x9 < (i3 (-1)) → vp_in x3 8 ∧ (vp_in x3 8 ∧ (vp_in x3 8 ∧ (vp_in x3 8 ∧ (gj_Do E om0 (gj_mt 154) [(.long (((-x6) * (SI 8 (gj_n x3))) + ((x9 * x5) * (SI 7 (gj_n x3)))).toInt64), (.long ((x6 * (SI 7 (gj_n x3))) + ((x9 * x5) * (SI 8 (gj_n x3)))).toInt64)] SI SJ _)))))
    refine ⟨fun c2 => ?_, fun c2 => ?_⟩
    · refine gj_goq gj_clT ok_65 [10, 24, 41, 51, 136, 179] ?_
      show QV Q none SI SJ
      exact ⟨rfl, ((h.1 c1).1 c2)⟩
    · have k3 := ((h.1 c1).2 c2).1
      refine ⟨k3, ?_⟩
      refine ⟨k3, ?_⟩
      refine ⟨k3, ?_⟩
      refine ⟨k3, ?_⟩
      refine gj_Do.mono ((h.1 c1).2 c2).2 (fun v_ SI2 SJ2 h_ => ?_)
      obtain ⟨r1, rfl, q4⟩ := h_
      show gj_Goes E om0 mt_65 136 [some (.ref 3), some (.ref 42), some (.int x2), some (.int x3), none, some (.int x5), some (.int x6), some (.int x7), some (.int x8), some (.int x9), some (.int (((-x6) * (SI 8 (gj_n x3))) + ((x9 * x5) * (SI 7 (gj_n x3))))), some (.int ((x6 * (SI 7 (gj_n x3))) + ((x9 * x5) * (SI 8 (gj_n x3))))), none] [(.long r1)] SI2 SJ2 (QV Q)
      refine gj_goq gj_clT ok_65 [10, 24, 41, 51, 136, 179] ?_
      show ((r1).toInt32 ≤ (i3 1) → gj_Goes E om0 mt_65 159 [some (.ref 3), some (.ref 42), some (.int x2), some (.int x3), none, some (.int x5), some (.int x6), some (.int x7), some (.int x8), some (.int x9), some (.int (((-x6) * (SI 8 (gj_n x3))) + ((x9 * x5) * (SI 7 (gj_n x3))))), some (.int ((x6 * (SI 7 (gj_n x3))) + ((x9 * x5) * (SI 8 (gj_n x3))))), some (.int (r1).toInt32)] [] SI2 SJ2 (QV Q)) ∧ (¬ (r1).toInt32 ≤ (i3 1) → ¬ (r1).toInt32 = 0 ∧ (¬ (r1).toInt32 = 0 ∧ (gj_Do E om0 (gj_mt 1) [(.ref 42), (.int x2), (.int ((((-x6) * (SI 8 (gj_n x3))) + ((x9 * x5) * (SI 7 (gj_n x3)))) / (r1).toInt32)), (.int (((x6 * (SI 7 (gj_n x3))) + ((x9 * x5) * (SI 8 (gj_n x3)))) / (r1).toInt32)), (.int ((x7 * (((x6 * (SI 7 (gj_n x3))) + ((x9 * x5) * (SI 8 (gj_n x3)))) / (r1).toInt32)) - (x8 * ((((-x6) * (SI 8 (gj_n x3))) + ((x9 * x5) * (SI 7 (gj_n x3)))) / (r1).toInt32))))] SI2 SJ2 _)))
      refine ⟨fun c5 => ?_, fun c5 => ?_⟩
      · refine gj_goq gj_clT ok_65 [10, 24, 41, 51, 136, 179] ?_
        show gj_Do E om0 (gj_mt 1) [(.ref 42), (.int x2), (.int (((-x6) * (SI 8 (gj_n x3))) + ((x9 * x5) * (SI 7 (gj_n x3))))), (.int ((x6 * (SI 7 (gj_n x3))) + ((x9 * x5) * (SI 8 (gj_n x3))))), (.int ((x7 * ((x6 * (SI 7 (gj_n x3))) + ((x9 * x5) * (SI 8 (gj_n x3))))) - (x8 * (((-x6) * (SI 8 (gj_n x3))) + ((x9 * x5) * (SI 7 (gj_n x3)))))))] SI2 SJ2 _
        refine gj_Do.mono (q4.1 c5) (fun v_ SI4 SJ4 h_ => ?_)
        obtain ⟨rfl, q6⟩ := h_
        show gj_Goes E om0 mt_65 179 [some (.ref 3), some (.ref 42), some (.int x2), some (.int x3), none, some (.int x5), some (.int x6), some (.int x7), some (.int x8), some (.int x9), some (.int (((-x6) * (SI 8 (gj_n x3))) + ((x9 * x5) * (SI 7 (gj_n x3))))), some (.int ((x6 * (SI 7 (gj_n x3))) + ((x9 * x5) * (SI 8 (gj_n x3))))), some (.int (r1).toInt32)] [] SI4 SJ4 (QV Q)
        refine gj_goq gj_clT ok_65 [10, 24, 41, 51, 136, 179] ?_
        show gj_Goes E om0 mt_65 51 [some (.ref 3), some (.ref 42), some (.int x2), some (.int x3), none, some (.int x5), some (.int x6), some (.int x7), some (.int x8), some (.int (x9 + (i3 (-2)))), some (.int (((-x6) * (SI 8 (gj_n x3))) + ((x9 * x5) * (SI 7 (gj_n x3))))), some (.int ((x6 * (SI 7 (gj_n x3))) + ((x9 * x5) * (SI 8 (gj_n x3))))), some (.int (r1).toInt32)] [] SI4 SJ4 (QV Q)
        exact gj_fh q6 (And.intro (Or.inr rfl) (And.intro (Or.inr rfl) (And.intro (Or.inr rfl) (And.intro (Or.inr rfl) (And.intro (Or.inl rfl) (And.intro (Or.inr rfl) (And.intro (Or.inr rfl) (And.intro (Or.inr rfl) (And.intro (Or.inr rfl) (And.intro (Or.inr rfl) (And.intro (Or.inl rfl) (And.intro (Or.inl rfl) (And.intro (Or.inl rfl) trivial)))))))))))))
      · have k7 := (q4.2 c5).1
        refine ⟨k7, ?_⟩
        refine ⟨k7, ?_⟩
        refine gj_Do.mono (q4.2 c5).2 (fun v_ SI6 SJ6 h_ => ?_)
        obtain ⟨rfl, q8⟩ := h_
        show gj_Goes E om0 mt_65 179 [some (.ref 3), some (.ref 42), some (.int x2), some (.int x3), none, some (.int x5), some (.int x6), some (.int x7), some (.int x8), some (.int x9), some (.int ((((-x6) * (SI 8 (gj_n x3))) + ((x9 * x5) * (SI 7 (gj_n x3)))) / (r1).toInt32)), some (.int (((x6 * (SI 7 (gj_n x3))) + ((x9 * x5) * (SI 8 (gj_n x3)))) / (r1).toInt32)), some (.int (r1).toInt32)] [] SI6 SJ6 (QV Q)
        refine gj_goq gj_clT ok_65 [10, 24, 41, 51, 136, 179] ?_
        show gj_Goes E om0 mt_65 51 [some (.ref 3), some (.ref 42), some (.int x2), some (.int x3), none, some (.int x5), some (.int x6), some (.int x7), some (.int x8), some (.int (x9 + (i3 (-2)))), some (.int ((((-x6) * (SI 8 (gj_n x3))) + ((x9 * x5) * (SI 7 (gj_n x3)))) / (r1).toInt32)), some (.int (((x6 * (SI 7 (gj_n x3))) + ((x9 * x5) * (SI 8 (gj_n x3)))) / (r1).toInt32)), some (.int (r1).toInt32)] [] SI6 SJ6 (QV Q)
        exact gj_fh q8 (And.intro (Or.inr rfl) (And.intro (Or.inr rfl) (And.intro (Or.inr rfl) (And.intro (Or.inr rfl) (And.intro (Or.inl rfl) (And.intro (Or.inr rfl) (And.intro (Or.inr rfl) (And.intro (Or.inr rfl) (And.intro (Or.inr rfl) (And.intro (Or.inr rfl) (And.intro (Or.inl rfl) (And.intro (Or.inl rfl) (And.intro (Or.inl rfl) trivial)))))))))))))
  · refine gj_goq gj_clT ok_65 [10, 24, 41, 51, 136, 179] ?_
    show (x9 < (i3 1) → gj_Goes E om0 mt_65 185 [some (.ref 3), some (.ref 42), some (.int x2), some (.int x3), none, some (.int x5), some (.int x6), some (.int x7), some (.int x8), some (.int x9), none, none, none] [] SI SJ (QV Q)) ∧ (¬ x9 < (i3 1) → vp_in x3 8 ∧ (vp_in x3 8 ∧ (vp_in x3 8 ∧ (vp_in x3 8 ∧ (gj_Do E om0 (gj_mt 154) [(.long (((-x6) * (SI 8 (gj_n x3))) + ((x9 * x5) * (SI 7 (gj_n x3)))).toInt64), (.long ((x6 * (SI 7 (gj_n x3))) + ((x9 * x5) * (SI 8 (gj_n x3)))).toInt64)] SI SJ _)))))
    refine ⟨fun c9 => ?_, fun c9 => ?_⟩
    · refine gj_goq gj_clT ok_65 [10, 24, 41, 51, 136, 179] ?_
      show QV Q none SI SJ
      exact ⟨rfl, ((h.2 c1).1 c9)⟩
    · have k10 := ((h.2 c1).2 c9).1
      refine ⟨k10, ?_⟩
      refine ⟨k10, ?_⟩
      refine ⟨k10, ?_⟩
      refine ⟨k10, ?_⟩
      refine gj_Do.mono ((h.2 c1).2 c9).2 (fun v_ SI8 SJ8 h_ => ?_)
      obtain ⟨r7, rfl, q11⟩ := h_
      show gj_Goes E om0 mt_65 136 [some (.ref 3), some (.ref 42), some (.int x2), some (.int x3), none, some (.int x5), some (.int x6), some (.int x7), some (.int x8), some (.int x9), some (.int (((-x6) * (SI 8 (gj_n x3))) + ((x9 * x5) * (SI 7 (gj_n x3))))), some (.int ((x6 * (SI 7 (gj_n x3))) + ((x9 * x5) * (SI 8 (gj_n x3))))), none] [(.long r7)] SI8 SJ8 (QV Q)
      refine gj_goq gj_clT ok_65 [10, 24, 41, 51, 136, 179] ?_
      show ((r7).toInt32 ≤ (i3 1) → gj_Goes E om0 mt_65 159 [some (.ref 3), some (.ref 42), some (.int x2), some (.int x3), none, some (.int x5), some (.int x6), some (.int x7), some (.int x8), some (.int x9), some (.int (((-x6) * (SI 8 (gj_n x3))) + ((x9 * x5) * (SI 7 (gj_n x3))))), some (.int ((x6 * (SI 7 (gj_n x3))) + ((x9 * x5) * (SI 8 (gj_n x3))))), some (.int (r7).toInt32)] [] SI8 SJ8 (QV Q)) ∧ (¬ (r7).toInt32 ≤ (i3 1) → ¬ (r7).toInt32 = 0 ∧ (¬ (r7).toInt32 = 0 ∧ (gj_Do E om0 (gj_mt 1) [(.ref 42), (.int x2), (.int ((((-x6) * (SI 8 (gj_n x3))) + ((x9 * x5) * (SI 7 (gj_n x3)))) / (r7).toInt32)), (.int (((x6 * (SI 7 (gj_n x3))) + ((x9 * x5) * (SI 8 (gj_n x3)))) / (r7).toInt32)), (.int ((x7 * (((x6 * (SI 7 (gj_n x3))) + ((x9 * x5) * (SI 8 (gj_n x3)))) / (r7).toInt32)) - (x8 * ((((-x6) * (SI 8 (gj_n x3))) + ((x9 * x5) * (SI 7 (gj_n x3)))) / (r7).toInt32))))] SI8 SJ8 _)))
      refine ⟨fun c12 => ?_, fun c12 => ?_⟩
      · refine gj_goq gj_clT ok_65 [10, 24, 41, 51, 136, 179] ?_
        show gj_Do E om0 (gj_mt 1) [(.ref 42), (.int x2), (.int (((-x6) * (SI 8 (gj_n x3))) + ((x9 * x5) * (SI 7 (gj_n x3))))), (.int ((x6 * (SI 7 (gj_n x3))) + ((x9 * x5) * (SI 8 (gj_n x3))))), (.int ((x7 * ((x6 * (SI 7 (gj_n x3))) + ((x9 * x5) * (SI 8 (gj_n x3))))) - (x8 * (((-x6) * (SI 8 (gj_n x3))) + ((x9 * x5) * (SI 7 (gj_n x3)))))))] SI8 SJ8 _
        refine gj_Do.mono (q11.1 c12) (fun v_ SI10 SJ10 h_ => ?_)
        obtain ⟨rfl, q13⟩ := h_
        show gj_Goes E om0 mt_65 179 [some (.ref 3), some (.ref 42), some (.int x2), some (.int x3), none, some (.int x5), some (.int x6), some (.int x7), some (.int x8), some (.int x9), some (.int (((-x6) * (SI 8 (gj_n x3))) + ((x9 * x5) * (SI 7 (gj_n x3))))), some (.int ((x6 * (SI 7 (gj_n x3))) + ((x9 * x5) * (SI 8 (gj_n x3))))), some (.int (r7).toInt32)] [] SI10 SJ10 (QV Q)
        refine gj_goq gj_clT ok_65 [10, 24, 41, 51, 136, 179] ?_
        show gj_Goes E om0 mt_65 51 [some (.ref 3), some (.ref 42), some (.int x2), some (.int x3), none, some (.int x5), some (.int x6), some (.int x7), some (.int x8), some (.int (x9 + (i3 (-2)))), some (.int (((-x6) * (SI 8 (gj_n x3))) + ((x9 * x5) * (SI 7 (gj_n x3))))), some (.int ((x6 * (SI 7 (gj_n x3))) + ((x9 * x5) * (SI 8 (gj_n x3))))), some (.int (r7).toInt32)] [] SI10 SJ10 (QV Q)
        exact gj_fh q13 (And.intro (Or.inr rfl) (And.intro (Or.inr rfl) (And.intro (Or.inr rfl) (And.intro (Or.inr rfl) (And.intro (Or.inl rfl) (And.intro (Or.inr rfl) (And.intro (Or.inr rfl) (And.intro (Or.inr rfl) (And.intro (Or.inr rfl) (And.intro (Or.inr rfl) (And.intro (Or.inl rfl) (And.intro (Or.inl rfl) (And.intro (Or.inl rfl) trivial)))))))))))))
      · have k14 := (q11.2 c12).1
        refine ⟨k14, ?_⟩
        refine ⟨k14, ?_⟩
        refine gj_Do.mono (q11.2 c12).2 (fun v_ SI12 SJ12 h_ => ?_)
        obtain ⟨rfl, q15⟩ := h_
        show gj_Goes E om0 mt_65 179 [some (.ref 3), some (.ref 42), some (.int x2), some (.int x3), none, some (.int x5), some (.int x6), some (.int x7), some (.int x8), some (.int x9), some (.int ((((-x6) * (SI 8 (gj_n x3))) + ((x9 * x5) * (SI 7 (gj_n x3)))) / (r7).toInt32)), some (.int (((x6 * (SI 7 (gj_n x3))) + ((x9 * x5) * (SI 8 (gj_n x3)))) / (r7).toInt32)), some (.int (r7).toInt32)] [] SI12 SJ12 (QV Q)
        refine gj_goq gj_clT ok_65 [10, 24, 41, 51, 136, 179] ?_
        show gj_Goes E om0 mt_65 51 [some (.ref 3), some (.ref 42), some (.int x2), some (.int x3), none, some (.int x5), some (.int x6), some (.int x7), some (.int x8), some (.int (x9 + (i3 (-2)))), some (.int ((((-x6) * (SI 8 (gj_n x3))) + ((x9 * x5) * (SI 7 (gj_n x3)))) / (r7).toInt32)), some (.int (((x6 * (SI 7 (gj_n x3))) + ((x9 * x5) * (SI 8 (gj_n x3)))) / (r7).toInt32)), some (.int (r7).toInt32)] [] SI12 SJ12 (QV Q)
        exact gj_fh q15 (And.intro (Or.inr rfl) (And.intro (Or.inr rfl) (And.intro (Or.inr rfl) (And.intro (Or.inr rfl) (And.intro (Or.inl rfl) (And.intro (Or.inr rfl) (And.intro (Or.inr rfl) (And.intro (Or.inr rfl) (And.intro (Or.inr rfl) (And.intro (Or.inr rfl) (And.intro (Or.inl rfl) (And.intro (Or.inl rfl) (And.intro (Or.inl rfl) trivial)))))))))))))
set_option maxRecDepth 20000 in
theorem st_65_3_66 {E : gj_E} {Q : gj_I → gj_J → Prop} (a1 : Int32) (a2 : Int32) (a3 : Int32) (a4 : Int32) (a5 : Int32) (SI : gj_I) (SJ : gj_J) (h : DoI E 30 [(.ref 4), (.int a2), (.int a3)] SI SJ (fun r1 SI2 SJ2 => (¬ r1 = 0 → DoI E 31 [(.ref 4), (.int a2), (.int a3)] SI2 SJ2 (fun r3 SI4 SJ4 => DoI E 32 [(.ref 4), (.int a2), (.int a3)] SI4 SJ4 (fun r5 SI6 SJ6 => GoV E mt_65 51 [some (.ref 3), some (.ref 66), some (.int a1), some (.int a2), none, some (.int a4), some (.int a5), some (.int (r3 - (SI4 3 8))), some (.int (r5 - (SI6 3 9))), some (.int (i3 1)), none, none, none] SI6 SJ6 Q))) ∧ (r1 = 0 → Q SI2 SJ2))) : DoV E 65 [(.ref 3), (.ref 66), (.int a1), (.int a2), (.int a3), (.int a4), (.int a5)] SI SJ Q := by
  refine gj_start (M := mt_65) ok_65 (Nat.le_of_ble_eq_true rfl) ?_
  refine gj_goq gj_clT ok_65 [10, 24, 41, 51, 136, 179] ?_
  show gj_Do E om0 (gj_mt 30) [(.ref 4), (.int a2), (.int a3)] SI SJ _
  refine gj_Do.mono h (fun v_ SI2 SJ2 h_ => ?_)
  obtain ⟨r1, rfl, q1⟩ := h_
  show gj_Goes E om0 mt_65 10 [some (.ref 3), some (.ref 66), some (.int a1), some (.int a2), some (.int a3), some (.int a4), some (.int a5), none, none, none, none, none, none] [(.int r1)] SI2 SJ2 (QV Q)
  refine gj_goq gj_clT ok_65 [10, 24, 41, 51, 136, 179] ?_
  show (¬ r1 = 0 → gj_Goes E om0 mt_65 14 [some (.ref 3), some (.ref 66), some (.int a1), some (.int a2), some (.int a3), some (.int a4), some (.int a5), none, none, none, none, none, none] [] SI2 SJ2 (QV Q)) ∧ (r1 = 0 → QV Q none SI2 SJ2)
  refine ⟨fun c2 => ?_, fun c2 => ?_⟩
  · refine gj_goq gj_clT ok_65 [10, 24, 41, 51, 136, 179] ?_
    show gj_Do E om0 (gj_mt 31) [(.ref 4), (.int a2), (.int a3)] SI2 SJ2 _
    refine gj_Do.mono (q1.1 c2) (fun v_ SI4 SJ4 h_ => ?_)
    obtain ⟨r3, rfl, q3⟩ := h_
    show gj_Goes E om0 mt_65 24 [some (.ref 3), some (.ref 66), some (.int a1), some (.int a2), some (.int a3), some (.int a4), some (.int a5), none, none, none, none, none, none] [(.int r3)] SI4 SJ4 (QV Q)
    refine gj_goq gj_clT ok_65 [10, 24, 41, 51, 136, 179] ?_
    show gj_Do E om0 (gj_mt 32) [(.ref 4), (.int a2), (.int a3)] SI4 SJ4 _
    refine gj_Do.mono q3 (fun v_ SI6 SJ6 h_ => ?_)
    obtain ⟨r5, rfl, q4⟩ := h_
    show gj_Goes E om0 mt_65 41 [some (.ref 3), some (.ref 66), some (.int a1), some (.int a2), some (.int a3), some (.int a4), some (.int a5), some (.int (r3 - (SI4 3 8))), none, none, none, none, none] [(.int r5)] SI6 SJ6 (QV Q)
    refine gj_goq gj_clT ok_65 [10, 24, 41, 51, 136, 179] ?_
    show gj_Goes E om0 mt_65 51 [some (.ref 3), some (.ref 66), some (.int a1), some (.int a2), some (.int a3), some (.int a4), some (.int a5), some (.int (r3 - (SI4 3 8))), some (.int (r5 - (SI6 3 9))), some (.int (i3 1)), none, none, none] [] SI6 SJ6 (QV Q)
    exact gj_fh q4 (And.intro (Or.inr rfl) (And.intro (Or.inr rfl) (And.intro (Or.inr rfl) (And.intro (Or.inr rfl) (And.intro (Or.inl rfl) (And.intro (Or.inr rfl) (And.intro (Or.inr rfl) (And.intro (Or.inr rfl) (And.intro (Or.inr rfl) (And.intro (Or.inr rfl) (And.intro (Or.inl rfl) (And.intro (Or.inl rfl) (And.intro (Or.inl rfl) trivial)))))))))))))
  · exact ⟨rfl, (q1.2 c2)⟩
set_option maxRecDepth 20000 in
theorem lp_65_51_3_66 {E : gj_E} {Q : gj_I → gj_J → Prop} (x2 : Int32) (x3 : Int32) (x5 : Int32) (x6 : Int32) (x7 : Int32) (x8 : Int32) (x9 : Int32) (SI : gj_I) (SJ : gj_J) (h : (¬ x5 = 0 → (x9 < (i3 (-1)) → Q SI SJ) ∧ (¬ x9 < (i3 (-1)) → vp_in x3 8 ∧ (DoL E 154 [(.long (((-x6) * (SI 8 (gj_n x3))) + ((x9 * x5) * (SI 7 (gj_n x3)))).toInt64), (.long ((x6 * (SI 7 (gj_n x3))) + ((x9 * x5) * (SI 8 (gj_n x3)))).toInt64)] SI SJ (fun r1 SI2 SJ2 => ((r1).toInt32 ≤ (i3 1) → DoV E 1 [(.ref 66), (.int x2), (.int (((-x6) * (SI 8 (gj_n x3))) + ((x9 * x5) * (SI 7 (gj_n x3))))), (.int ((x6 * (SI 7 (gj_n x3))) + ((x9 * x5) * (SI 8 (gj_n x3))))), (.int ((x7 * ((x6 * (SI 7 (gj_n x3))) + ((x9 * x5) * (SI 8 (gj_n x3))))) - (x8 * (((-x6) * (SI 8 (gj_n x3))) + ((x9 * x5) * (SI 7 (gj_n x3)))))))] SI2 SJ2 (fun SI4 SJ4 => GoV E mt_65 51 [some (.ref 3), some (.ref 66), some (.int x2), some (.int x3), none, some (.int x5), some (.int x6), some (.int x7), some (.int x8), some (.int (x9 + (i3 (-2)))), none, none, none] SI4 SJ4 Q)) ∧ (¬ (r1).toInt32 ≤ (i3 1) → ¬ (r1).toInt32 = 0 ∧ (DoV E 1 [(.ref 66), (.int x2), (.int ((((-x6) * (SI 8 (gj_n x3))) + ((x9 * x5) * (SI 7 (gj_n x3)))) / (r1).toInt32)), (.int (((x6 * (SI 7 (gj_n x3))) + ((x9 * x5) * (SI 8 (gj_n x3)))) / (r1).toInt32)), (.int ((x7 * (((x6 * (SI 7 (gj_n x3))) + ((x9 * x5) * (SI 8 (gj_n x3)))) / (r1).toInt32)) - (x8 * ((((-x6) * (SI 8 (gj_n x3))) + ((x9 * x5) * (SI 7 (gj_n x3)))) / (r1).toInt32))))] SI2 SJ2 (fun SI6 SJ6 => GoV E mt_65 51 [some (.ref 3), some (.ref 66), some (.int x2), some (.int x3), none, some (.int x5), some (.int x6), some (.int x7), some (.int x8), some (.int (x9 + (i3 (-2)))), none, none, none] SI6 SJ6 Q))))))) ∧ (x5 = 0 → (x9 < (i3 1) → Q SI SJ) ∧ (¬ x9 < (i3 1) → vp_in x3 8 ∧ (DoL E 154 [(.long (((-x6) * (SI 8 (gj_n x3))) + ((x9 * x5) * (SI 7 (gj_n x3)))).toInt64), (.long ((x6 * (SI 7 (gj_n x3))) + ((x9 * x5) * (SI 8 (gj_n x3)))).toInt64)] SI SJ (fun r7 SI8 SJ8 => ((r7).toInt32 ≤ (i3 1) → DoV E 1 [(.ref 66), (.int x2), (.int (((-x6) * (SI 8 (gj_n x3))) + ((x9 * x5) * (SI 7 (gj_n x3))))), (.int ((x6 * (SI 7 (gj_n x3))) + ((x9 * x5) * (SI 8 (gj_n x3))))), (.int ((x7 * ((x6 * (SI 7 (gj_n x3))) + ((x9 * x5) * (SI 8 (gj_n x3))))) - (x8 * (((-x6) * (SI 8 (gj_n x3))) + ((x9 * x5) * (SI 7 (gj_n x3)))))))] SI8 SJ8 (fun SI10 SJ10 => GoV E mt_65 51 [some (.ref 3), some (.ref 66), some (.int x2), some (.int x3), none, some (.int x5), some (.int x6), some (.int x7), some (.int x8), some (.int (x9 + (i3 (-2)))), none, none, none] SI10 SJ10 Q)) ∧ (¬ (r7).toInt32 ≤ (i3 1) → ¬ (r7).toInt32 = 0 ∧ (DoV E 1 [(.ref 66), (.int x2), (.int ((((-x6) * (SI 8 (gj_n x3))) + ((x9 * x5) * (SI 7 (gj_n x3)))) / (r7).toInt32)), (.int (((x6 * (SI 7 (gj_n x3))) + ((x9 * x5) * (SI 8 (gj_n x3)))) / (r7).toInt32)), (.int ((x7 * (((x6 * (SI 7 (gj_n x3))) + ((x9 * x5) * (SI 8 (gj_n x3)))) / (r7).toInt32)) - (x8 * ((((-x6) * (SI 8 (gj_n x3))) + ((x9 * x5) * (SI 7 (gj_n x3)))) / (r7).toInt32))))] SI8 SJ8 (fun SI12 SJ12 => GoV E mt_65 51 [some (.ref 3), some (.ref 66), some (.int x2), some (.int x3), none, some (.int x5), some (.int x6), some (.int x7), some (.int x8), some (.int (x9 + (i3 (-2)))), none, none, none] SI12 SJ12 Q)))))))) : GoV E mt_65 51 [some (.ref 3), some (.ref 66), some (.int x2), some (.int x3), none, some (.int x5), some (.int x6), some (.int x7), some (.int x8), some (.int x9), none, none, none] SI SJ Q := by
  refine gj_goq gj_clT ok_65 [10, 24, 41, 51, 136, 179] ?_
  show (¬ x5 = 0 → gj_Goes E om0 mt_65 62 [some (.ref 3), some (.ref 66), some (.int x2), some (.int x3), none, some (.int x5), some (.int x6), some (.int x7), some (.int x8), some (.int x9), none, none, none] [(.int x9)] SI SJ (QV Q)) ∧ (x5 = 0 → gj_Goes E om0 mt_65 63 [some (.ref 3), some (.ref 66), some (.int x2), some (.int x3), none, some (.int x5), some (.int x6), some (.int x7), some (.int x8), some (.int x9), none, none, none] [(.int (i3 1)), (.int x9)] SI SJ (QV Q))
  refine ⟨fun c1 => ?_, fun c1 => ?_⟩
  · refine gj_goq gj_clT ok_65 [10, 24, 41, 51, 136, 179] ?_
    show (x9 < (i3 (-1)) → gj_Goes E om0 mt_65 185 [some (.ref 3), some (.ref 66), some (.int x2), some (.int x3), none, some (.int x5), some (.int x6), some (.int x7), some (.int x8), some (.int x9), none, none, none] [] SI SJ (QV Q)) ∧ (¬ x9 < (i3 (-1)) → vp_in x3 8 ∧ (vp_in x3 8 ∧ (vp_in x3 8 ∧ (vp_in x3 8 ∧ (gj_Do E om0 (gj_mt 154) [(.long (((-x6) * (SI 8 (gj_n x3))) + ((x9 * x5) * (SI 7 (gj_n x3)))).toInt64), (.long ((x6 * (SI 7 (gj_n x3))) + ((x9 * x5) * (SI 8 (gj_n x3)))).toInt64)] SI SJ _)))))
    refine ⟨fun c2 => ?_, fun c2 => ?_⟩
    · refine gj_goq gj_clT ok_65 [10, 24, 41, 51, 136, 179] ?_
      show QV Q none SI SJ
      exact ⟨rfl, ((h.1 c1).1 c2)⟩
    · have k3 := ((h.1 c1).2 c2).1
      refine ⟨k3, ?_⟩
      refine ⟨k3, ?_⟩
      refine ⟨k3, ?_⟩
      refine ⟨k3, ?_⟩
      refine gj_Do.mono ((h.1 c1).2 c2).2 (fun v_ SI2 SJ2 h_ => ?_)
      obtain ⟨r1, rfl, q4⟩ := h_
      show gj_Goes E om0 mt_65 136 [some (.ref 3), some (.ref 66), some (.int x2), some (.int x3), none, some (.int x5), some (.int x6), some (.int x7), some (.int x8), some (.int x9), some (.int (((-x6) * (SI 8 (gj_n x3))) + ((x9 * x5) * (SI 7 (gj_n x3))))), some (.int ((x6 * (SI 7 (gj_n x3))) + ((x9 * x5) * (SI 8 (gj_n x3))))), none] [(.long r1)] SI2 SJ2 (QV Q)
      refine gj_goq gj_clT ok_65 [10, 24, 41, 51, 136, 179] ?_
      show ((r1).toInt32 ≤ (i3 1) → gj_Goes E om0 mt_65 159 [some (.ref 3), some (.ref 66), some (.int x2), some (.int x3), none, some (.int x5), some (.int x6), some (.int x7), some (.int x8), some (.int x9), some (.int (((-x6) * (SI 8 (gj_n x3))) + ((x9 * x5) * (SI 7 (gj_n x3))))), some (.int ((x6 * (SI 7 (gj_n x3))) + ((x9 * x5) * (SI 8 (gj_n x3))))), some (.int (r1).toInt32)] [] SI2 SJ2 (QV Q)) ∧ (¬ (r1).toInt32 ≤ (i3 1) → ¬ (r1).toInt32 = 0 ∧ (¬ (r1).toInt32 = 0 ∧ (gj_Do E om0 (gj_mt 1) [(.ref 66), (.int x2), (.int ((((-x6) * (SI 8 (gj_n x3))) + ((x9 * x5) * (SI 7 (gj_n x3)))) / (r1).toInt32)), (.int (((x6 * (SI 7 (gj_n x3))) + ((x9 * x5) * (SI 8 (gj_n x3)))) / (r1).toInt32)), (.int ((x7 * (((x6 * (SI 7 (gj_n x3))) + ((x9 * x5) * (SI 8 (gj_n x3)))) / (r1).toInt32)) - (x8 * ((((-x6) * (SI 8 (gj_n x3))) + ((x9 * x5) * (SI 7 (gj_n x3)))) / (r1).toInt32))))] SI2 SJ2 _)))
      refine ⟨fun c5 => ?_, fun c5 => ?_⟩
      · refine gj_goq gj_clT ok_65 [10, 24, 41, 51, 136, 179] ?_
        show gj_Do E om0 (gj_mt 1) [(.ref 66), (.int x2), (.int (((-x6) * (SI 8 (gj_n x3))) + ((x9 * x5) * (SI 7 (gj_n x3))))), (.int ((x6 * (SI 7 (gj_n x3))) + ((x9 * x5) * (SI 8 (gj_n x3))))), (.int ((x7 * ((x6 * (SI 7 (gj_n x3))) + ((x9 * x5) * (SI 8 (gj_n x3))))) - (x8 * (((-x6) * (SI 8 (gj_n x3))) + ((x9 * x5) * (SI 7 (gj_n x3)))))))] SI2 SJ2 _
        refine gj_Do.mono (q4.1 c5) (fun v_ SI4 SJ4 h_ => ?_)
        obtain ⟨rfl, q6⟩ := h_
        show gj_Goes E om0 mt_65 179 [some (.ref 3), some (.ref 66), some (.int x2), some (.int x3), none, some (.int x5), some (.int x6), some (.int x7), some (.int x8), some (.int x9), some (.int (((-x6) * (SI 8 (gj_n x3))) + ((x9 * x5) * (SI 7 (gj_n x3))))), some (.int ((x6 * (SI 7 (gj_n x3))) + ((x9 * x5) * (SI 8 (gj_n x3))))), some (.int (r1).toInt32)] [] SI4 SJ4 (QV Q)
        refine gj_goq gj_clT ok_65 [10, 24, 41, 51, 136, 179] ?_
        show gj_Goes E om0 mt_65 51 [some (.ref 3), some (.ref 66), some (.int x2), some (.int x3), none, some (.int x5), some (.int x6), some (.int x7), some (.int x8), some (.int (x9 + (i3 (-2)))), some (.int (((-x6) * (SI 8 (gj_n x3))) + ((x9 * x5) * (SI 7 (gj_n x3))))), some (.int ((x6 * (SI 7 (gj_n x3))) + ((x9 * x5) * (SI 8 (gj_n x3))))), some (.int (r1).toInt32)] [] SI4 SJ4 (QV Q)
        exact gj_fh q6 (And.intro (Or.inr rfl) (And.intro (Or.inr rfl) (And.intro (Or.inr rfl) (And.intro (Or.inr rfl) (And.intro (Or.inl rfl) (And.intro (Or.inr rfl) (And.intro (Or.inr rfl) (And.intro (Or.inr rfl) (And.intro (Or.inr rfl) (And.intro (Or.inr rfl) (And.intro (Or.inl rfl) (And.intro (Or.inl rfl) (And.intro (Or.inl rfl) trivial)))))))))))))
      · have k7 := (q4.2 c5).1
        refine ⟨k7, ?_⟩
        refine ⟨k7, ?_⟩
        refine gj_Do.mono (q4.2 c5).2 (fun v_ SI6 SJ6 h_ => ?_)
        obtain ⟨rfl, q8⟩ := h_
        show gj_Goes E om0 mt_65 179 [some (.ref 3), some (.ref 66), some (.int x2), some (.int x3), none, some (.int x5), some (.int x6), some (.int x7), some (.int x8), some (.int x9), some (.int ((((-x6) * (SI 8 (gj_n x3))) + ((x9 * x5) * (SI 7 (gj_n x3)))) / (r1).toInt32)), some (.int (((x6 * (SI 7 (gj_n x3))) + ((x9 * x5) * (SI 8 (gj_n x3)))) / (r1).toInt32)), some (.int (r1).toInt32)] [] SI6 SJ6 (QV Q)
        refine gj_goq gj_clT ok_65 [10, 24, 41, 51, 136, 179] ?_
        show gj_Goes E om0 mt_65 51 [some (.ref 3), some (.ref 66), some (.int x2), some (.int x3), none, some (.int x5), some (.int x6), some (.int x7), some (.int x8), some (.int (x9 + (i3 (-2)))), some (.int ((((-x6) * (SI 8 (gj_n x3))) + ((x9 * x5) * (SI 7 (gj_n x3)))) / (r1).toInt32)), some (.int (((x6 * (SI 7 (gj_n x3))) + ((x9 * x5) * (SI 8 (gj_n x3)))) / (r1).toInt32)), some (.int (r1).toInt32)] [] SI6 SJ6 (QV Q)
        exact gj_fh q8 (And.intro (Or.inr rfl) (And.intro (Or.inr rfl) (And.intro (Or.inr rfl) (And.intro (Or.inr rfl) (And.intro (Or.inl rfl) (And.intro (Or.inr rfl) (And.intro (Or.inr rfl) (And.intro (Or.inr rfl) (And.intro (Or.inr rfl) (And.intro (Or.inr rfl) (And.intro (Or.inl rfl) (And.intro (Or.inl rfl) (And.intro (Or.inl rfl) trivial)))))))))))))
  · refine gj_goq gj_clT ok_65 [10, 24, 41, 51, 136, 179] ?_
    show (x9 < (i3 1) → gj_Goes E om0 mt_65 185 [some (.ref 3), some (.ref 66), some (.int x2), some (.int x3), none, some (.int x5), some (.int x6), some (.int x7), some (.int x8), some (.int x9), none, none, none] [] SI SJ (QV Q)) ∧ (¬ x9 < (i3 1) → vp_in x3 8 ∧ (vp_in x3 8 ∧ (vp_in x3 8 ∧ (vp_in x3 8 ∧ (gj_Do E om0 (gj_mt 154) [(.long (((-x6) * (SI 8 (gj_n x3))) + ((x9 * x5) * (SI 7 (gj_n x3)))).toInt64), (.long ((x6 * (SI 7 (gj_n x3))) + ((x9 * x5) * (SI 8 (gj_n x3)))).toInt64)] SI SJ _)))))
    refine ⟨fun c9 => ?_, fun c9 => ?_⟩
    · refine gj_goq gj_clT ok_65 [10, 24, 41, 51, 136, 179] ?_
      show QV Q none SI SJ
      exact ⟨rfl, ((h.2 c1).1 c9)⟩
    · have k10 := ((h.2 c1).2 c9).1
      refine ⟨k10, ?_⟩
      refine ⟨k10, ?_⟩
      refine ⟨k10, ?_⟩
      refine ⟨k10, ?_⟩
      refine gj_Do.mono ((h.2 c1).2 c9).2 (fun v_ SI8 SJ8 h_ => ?_)
      obtain ⟨r7, rfl, q11⟩ := h_
      show gj_Goes E om0 mt_65 136 [some (.ref 3), some (.ref 66), some (.int x2), some (.int x3), none, some (.int x5), some (.int x6), some (.int x7), some (.int x8), some (.int x9), some (.int (((-x6) * (SI 8 (gj_n x3))) + ((x9 * x5) * (SI 7 (gj_n x3))))), some (.int ((x6 * (SI 7 (gj_n x3))) + ((x9 * x5) * (SI 8 (gj_n x3))))), none] [(.long r7)] SI8 SJ8 (QV Q)
      refine gj_goq gj_clT ok_65 [10, 24, 41, 51, 136, 179] ?_
      show ((r7).toInt32 ≤ (i3 1) → gj_Goes E om0 mt_65 159 [some (.ref 3), some (.ref 66), some (.int x2), some (.int x3), none, some (.int x5), some (.int x6), some (.int x7), some (.int x8), some (.int x9), some (.int (((-x6) * (SI 8 (gj_n x3))) + ((x9 * x5) * (SI 7 (gj_n x3))))), some (.int ((x6 * (SI 7 (gj_n x3))) + ((x9 * x5) * (SI 8 (gj_n x3))))), some (.int (r7).toInt32)] [] SI8 SJ8 (QV Q)) ∧ (¬ (r7).toInt32 ≤ (i3 1) → ¬ (r7).toInt32 = 0 ∧ (¬ (r7).toInt32 = 0 ∧ (gj_Do E om0 (gj_mt 1) [(.ref 66), (.int x2), (.int ((((-x6) * (SI 8 (gj_n x3))) + ((x9 * x5) * (SI 7 (gj_n x3)))) / (r7).toInt32)), (.int (((x6 * (SI 7 (gj_n x3))) + ((x9 * x5) * (SI 8 (gj_n x3)))) / (r7).toInt32)), (.int ((x7 * (((x6 * (SI 7 (gj_n x3))) + ((x9 * x5) * (SI 8 (gj_n x3)))) / (r7).toInt32)) - (x8 * ((((-x6) * (SI 8 (gj_n x3))) + ((x9 * x5) * (SI 7 (gj_n x3)))) / (r7).toInt32))))] SI8 SJ8 _)))
      refine ⟨fun c12 => ?_, fun c12 => ?_⟩
      · refine gj_goq gj_clT ok_65 [10, 24, 41, 51, 136, 179] ?_
        show gj_Do E om0 (gj_mt 1) [(.ref 66), (.int x2), (.int (((-x6) * (SI 8 (gj_n x3))) + ((x9 * x5) * (SI 7 (gj_n x3))))), (.int ((x6 * (SI 7 (gj_n x3))) + ((x9 * x5) * (SI 8 (gj_n x3))))), (.int ((x7 * ((x6 * (SI 7 (gj_n x3))) + ((x9 * x5) * (SI 8 (gj_n x3))))) - (x8 * (((-x6) * (SI 8 (gj_n x3))) + ((x9 * x5) * (SI 7 (gj_n x3)))))))] SI8 SJ8 _
        refine gj_Do.mono (q11.1 c12) (fun v_ SI10 SJ10 h_ => ?_)
        obtain ⟨rfl, q13⟩ := h_
        show gj_Goes E om0 mt_65 179 [some (.ref 3), some (.ref 66), some (.int x2), some (.int x3), none, some (.int x5), some (.int x6), some (.int x7), some (.int x8), some (.int x9), some (.int (((-x6) * (SI 8 (gj_n x3))) + ((x9 * x5) * (SI 7 (gj_n x3))))), some (.int ((x6 * (SI 7 (gj_n x3))) + ((x9 * x5) * (SI 8 (gj_n x3))))), some (.int (r7).toInt32)] [] SI10 SJ10 (QV Q)
        refine gj_goq gj_clT ok_65 [10, 24, 41, 51, 136, 179] ?_
        show gj_Goes E om0 mt_65 51 [some (.ref 3), some (.ref 66), some (.int x2), some (.int x3), none, some (.int x5), some (.int x6), some (.int x7), some (.int x8), some (.int (x9 + (i3 (-2)))), some (.int (((-x6) * (SI 8 (gj_n x3))) + ((x9 * x5) * (SI 7 (gj_n x3))))), some (.int ((x6 * (SI 7 (gj_n x3))) + ((x9 * x5) * (SI 8 (gj_n x3))))), some (.int (r7).toInt32)] [] SI10 SJ10 (QV Q)
        exact gj_fh q13 (And.intro (Or.inr rfl) (And.intro (Or.inr rfl) (And.intro (Or.inr rfl) (And.intro (Or.inr rfl) (And.intro (Or.inl rfl) (And.intro (Or.inr rfl) (And.intro (Or.inr rfl) (And.intro (Or.inr rfl) (And.intro (Or.inr rfl) (And.intro (Or.inr rfl) (And.intro (Or.inl rfl) (And.intro (Or.inl rfl) (And.intro (Or.inl rfl) trivial)))))))))))))
      · have k14 := (q11.2 c12).1
        refine ⟨k14, ?_⟩
        refine ⟨k14, ?_⟩
        refine gj_Do.mono (q11.2 c12).2 (fun v_ SI12 SJ12 h_ => ?_)
        obtain ⟨rfl, q15⟩ := h_
        show gj_Goes E om0 mt_65 179 [some (.ref 3), some (.ref 66), some (.int x2), some (.int x3), none, some (.int x5), some (.int x6), some (.int x7), some (.int x8), some (.int x9), some (.int ((((-x6) * (SI 8 (gj_n x3))) + ((x9 * x5) * (SI 7 (gj_n x3)))) / (r7).toInt32)), some (.int (((x6 * (SI 7 (gj_n x3))) + ((x9 * x5) * (SI 8 (gj_n x3)))) / (r7).toInt32)), some (.int (r7).toInt32)] [] SI12 SJ12 (QV Q)
        refine gj_goq gj_clT ok_65 [10, 24, 41, 51, 136, 179] ?_
        show gj_Goes E om0 mt_65 51 [some (.ref 3), some (.ref 66), some (.int x2), some (.int x3), none, some (.int x5), some (.int x6), some (.int x7), some (.int x8), some (.int (x9 + (i3 (-2)))), some (.int ((((-x6) * (SI 8 (gj_n x3))) + ((x9 * x5) * (SI 7 (gj_n x3)))) / (r7).toInt32)), some (.int (((x6 * (SI 7 (gj_n x3))) + ((x9 * x5) * (SI 8 (gj_n x3)))) / (r7).toInt32)), some (.int (r7).toInt32)] [] SI12 SJ12 (QV Q)
        exact gj_fh q15 (And.intro (Or.inr rfl) (And.intro (Or.inr rfl) (And.intro (Or.inr rfl) (And.intro (Or.inr rfl) (And.intro (Or.inl rfl) (And.intro (Or.inr rfl) (And.intro (Or.inr rfl) (And.intro (Or.inr rfl) (And.intro (Or.inr rfl) (And.intro (Or.inr rfl) (And.intro (Or.inl rfl) (And.intro (Or.inl rfl) (And.intro (Or.inl rfl) trivial)))))))))))))
set_option maxRecDepth 20000 in
/-- GraspJudge$State.face -/
theorem st_66 {E : gj_E} {Q : Int32 → gj_I → gj_J → Prop} (a1 : Int32) (a2 : Int32) (SI : gj_I) (SJ : gj_J) (h : (a1 = a2 → Q (i3 0) SI SJ) ∧ (¬ a1 = a2 → DoI E 67 [(.ref 3), (.int a1), (.int a2)] SI SJ (fun r1 SI2 SJ2 => (r1 = 0 → Q (i3 0) SI2 SJ2) ∧ (¬ r1 = 0 → DoI E 67 [(.ref 3), (.int a2), (.int a1)] SI2 SJ2 (fun r3 SI4 SJ4 => (r3 = 0 → Q (i3 0) SI4 SJ4) ∧ (¬ r3 = 0 → Q (i3 1) SI4 SJ4)))))) : DoI E 66 [(.ref 3), (.int a1), (.int a2)] SI SJ Q := by
  refine gj_start (M := mt_66) ok_66 (Nat.le_of_ble_eq_true rfl) ?_
  refine gj_goq gj_clT ok_66 [11, 20] ?_
  show (a1 = a2 → gj_Goes E om0 mt_66 27 [some (.ref 3), some (.int a1), some (.int a2)] [] SI SJ (QI Q)) ∧ (¬ a1 = a2 → gj_Do E om0 (gj_mt 67) [(.ref 3), (.int a1), (.int a2)] SI SJ _)
  refine ⟨fun c1 => ?_, fun c1 => ?_⟩
  · refine gj_goq gj_clT ok_66 [11, 20] ?_
    show ((i3 0) = 0 ∨ (i3 0) = 1) ∧ (QI Q (some (.int (i3 0))) SI SJ)
    refine ⟨(Or.inl rfl), ?_⟩
    exact ⟨_, rfl, (h.1 c1)⟩
  · refine gj_Do.mono (h.2 c1) (fun v_ SI2 SJ2 h_ => ?_)
    obtain ⟨r1, rfl, q2⟩ := h_
    show gj_Goes E om0 mt_66 11 [some (.ref 3), some (.int a1), some (.int a2)] [(.int r1)] SI2 SJ2 (QI Q)
    refine gj_goq gj_clT ok_66 [11, 20] ?_
    show (r1 = 0 → gj_Goes E om0 mt_66 27 [some (.ref 3), some (.int a1), some (.int a2)] [] SI2 SJ2 (QI Q)) ∧ (¬ r1 = 0 → gj_Do E om0 (gj_mt 67) [(.ref 3), (.int a2), (.int a1)] SI2 SJ2 _)
    refine ⟨fun c3 => ?_, fun c3 => ?_⟩
    · refine gj_goq gj_clT ok_66 [11, 20] ?_
      show ((i3 0) = 0 ∨ (i3 0) = 1) ∧ (QI Q (some (.int (i3 0))) SI2 SJ2)
      refine ⟨(Or.inl rfl), ?_⟩
      exact ⟨_, rfl, (q2.1 c3)⟩
    · refine gj_Do.mono (q2.2 c3) (fun v_ SI4 SJ4 h_ => ?_)
      obtain ⟨r3, rfl, q4⟩ := h_
      show gj_Goes E om0 mt_66 20 [some (.ref 3), some (.int a1), some (.int a2)] [(.int r3)] SI4 SJ4 (QI Q)
      refine gj_goq gj_clT ok_66 [11, 20] ?_
      show (r3 = 0 → gj_Goes E om0 mt_66 27 [some (.ref 3), some (.int a1), some (.int a2)] [] SI4 SJ4 (QI Q)) ∧ (¬ r3 = 0 → gj_Goes E om0 mt_66 28 [some (.ref 3), some (.int a1), some (.int a2)] [(.int (i3 1))] SI4 SJ4 (QI Q))
      refine ⟨fun c5 => ?_, fun c5 => ?_⟩
      · refine gj_goq gj_clT ok_66 [11, 20] ?_
        show ((i3 0) = 0 ∨ (i3 0) = 1) ∧ (QI Q (some (.int (i3 0))) SI4 SJ4)
        refine ⟨(Or.inl rfl), ?_⟩
        exact ⟨_, rfl, (q4.1 c5)⟩
      · refine gj_goq gj_clT ok_66 [11, 20] ?_
        show ((i3 1) = 0 ∨ (i3 1) = 1) ∧ (QI Q (some (.int (i3 1))) SI4 SJ4)
        refine ⟨(Or.inr rfl), ?_⟩
        exact ⟨_, rfl, (q4.2 c5)⟩
set_option maxRecDepth 20000 in
/-- GraspJudge$State.sees -/
theorem st_67 {E : gj_E} {Q : Int32 → gj_I → gj_J → Prop} (a1 : Int32) (a2 : Int32) (SI : gj_I) (SJ : gj_J) (h : vp_in a1 72 ∧ (vp_in a2 72 ∧ (DoI E 31 [(.ref 4), (.int (SI 10 (gj_n a2))), (.int (SI 11 (gj_n a2)))] SI SJ (fun r1 SI2 SJ2 => DoI E 31 [(.ref 4), (.int (SI 10 (gj_n a1))), (.int (SI2 11 (gj_n a1)))] SI2 SJ2 (fun r3 SI4 SJ4 => DoI E 32 [(.ref 4), (.int (SI 10 (gj_n a2))), (.int (SI4 11 (gj_n a2)))] SI4 SJ4 (fun r5 SI6 SJ6 => DoI E 32 [(.ref 4), (.int (SI 10 (gj_n a1))), (.int (SI6 11 (gj_n a1)))] SI6 SJ6 (fun r7 SI8 SJ8 => vp_in (SI 10 (gj_n a1)) 8 ∧ (((((r5 - r7) * (SI8 7 (gj_n (SI 10 (gj_n a1))))) - ((r1 - r3) * (SI8 8 (gj_n (SI 10 (gj_n a1)))))) < 0 → Q (i3 0) SI8 SJ8) ∧ (¬ (((r5 - r7) * (SI8 7 (gj_n (SI 10 (gj_n a1))))) - ((r1 - r3) * (SI8 8 (gj_n (SI 10 (gj_n a1)))))) < 0 → (((SI8 3 6) * (((r5 - r7) * (SI8 7 (gj_n (SI 10 (gj_n a1))))) - ((r1 - r3) * (SI8 8 (gj_n (SI 10 (gj_n a1))))))) < ((SI8 3 7) * (if 0 ≤ (((r1 - r3) * (SI8 7 (gj_n (SI 10 (gj_n a1))))) + ((r5 - r7) * (SI8 8 (gj_n (SI 10 (gj_n a1)))))) then (((r1 - r3) * (SI8 7 (gj_n (SI 10 (gj_n a1))))) + ((r5 - r7) * (SI8 8 (gj_n (SI 10 (gj_n a1)))))) else 0 - (((r1 - r3) * (SI8 7 (gj_n (SI 10 (gj_n a1))))) + ((r5 - r7) * (SI8 8 (gj_n (SI 10 (gj_n a1)))))))) → Q (i3 0) SI8 SJ8) ∧ (¬ ((SI8 3 6) * (((r5 - r7) * (SI8 7 (gj_n (SI 10 (gj_n a1))))) - ((r1 - r3) * (SI8 8 (gj_n (SI 10 (gj_n a1))))))) < ((SI8 3 7) * (if 0 ≤ (((r1 - r3) * (SI8 7 (gj_n (SI 10 (gj_n a1))))) + ((r5 - r7) * (SI8 8 (gj_n (SI 10 (gj_n a1)))))) then (((r1 - r3) * (SI8 7 (gj_n (SI 10 (gj_n a1))))) + ((r5 - r7) * (SI8 8 (gj_n (SI 10 (gj_n a1)))))) else 0 - (((r1 - r3) * (SI8 7 (gj_n (SI 10 (gj_n a1))))) + ((r5 - r7) * (SI8 8 (gj_n (SI 10 (gj_n a1)))))))) → Q (i3 1) SI8 SJ8)))))))))) : DoI E 67 [(.ref 3), (.int a1), (.int a2)] SI SJ Q := by
  refine gj_start (M := mt_67) ok_67 (Nat.le_of_ble_eq_true rfl) ?_
  refine gj_goq gj_clT ok_67 [39, 56, 77, 94] ?_
  show vp_in a1 72 ∧ (vp_in a2 72 ∧ (vp_in a2 72 ∧ (gj_Do E om0 (gj_mt 31) [(.ref 4), (.int (SI 10 (gj_n a2))), (.int (SI 11 (gj_n a2)))] SI SJ _)))
  have k1 := h.1
  refine ⟨k1, ?_⟩
  have k2 := h.2.1
  refine ⟨k2, ?_⟩
  refine ⟨k2, ?_⟩
  refine gj_Do.mono h.2.2 (fun v_ SI2 SJ2 h_ => ?_)
  obtain ⟨r1, rfl, q3⟩ := h_
  show gj_Goes E om0 mt_67 39 [some (.ref 3), some (.int a1), some (.int a2), some (.int (SI 10 (gj_n a1))), some (.int (SI 10 (gj_n a2))), none, none, none, none] [(.int r1)] SI2 SJ2 (QI Q)
  refine gj_goq gj_clT ok_67 [39, 56, 77, 94] ?_
  show vp_in a1 72 ∧ (gj_Do E om0 (gj_mt 31) [(.ref 4), (.int (SI 10 (gj_n a1))), (.int (SI2 11 (gj_n a1)))] SI2 SJ2 _)
  refine ⟨k1, ?_⟩
  refine gj_Do.mono q3 (fun v_ SI4 SJ4 h_ => ?_)
  obtain ⟨r3, rfl, q4⟩ := h_
  show gj_Goes E om0 mt_67 56 [some (.ref 3), some (.int a1), some (.int a2), some (.int (SI 10 (gj_n a1))), some (.int (SI 10 (gj_n a2))), none, none, none, none] [(.int r3), (.int r1)] SI4 SJ4 (QI Q)
  refine gj_goq gj_clT ok_67 [39, 56, 77, 94] ?_
  show vp_in a2 72 ∧ (gj_Do E om0 (gj_mt 32) [(.ref 4), (.int (SI 10 (gj_n a2))), (.int (SI4 11 (gj_n a2)))] SI4 SJ4 _)
  refine ⟨k2, ?_⟩
  refine gj_Do.mono q4 (fun v_ SI6 SJ6 h_ => ?_)
  obtain ⟨r5, rfl, q5⟩ := h_
  show gj_Goes E om0 mt_67 77 [some (.ref 3), some (.int a1), some (.int a2), some (.int (SI 10 (gj_n a1))), some (.int (SI 10 (gj_n a2))), some (.int (r1 - r3)), none, none, none] [(.int r5)] SI6 SJ6 (QI Q)
  refine gj_goq gj_clT ok_67 [39, 56, 77, 94] ?_
  show vp_in a1 72 ∧ (gj_Do E om0 (gj_mt 32) [(.ref 4), (.int (SI 10 (gj_n a1))), (.int (SI6 11 (gj_n a1)))] SI6 SJ6 _)
  refine ⟨k1, ?_⟩
  refine gj_Do.mono q5 (fun v_ SI8 SJ8 h_ => ?_)
  obtain ⟨r7, rfl, q6⟩ := h_
  show gj_Goes E om0 mt_67 94 [some (.ref 3), some (.int a1), some (.int a2), some (.int (SI 10 (gj_n a1))), some (.int (SI 10 (gj_n a2))), some (.int (r1 - r3)), none, none, none] [(.int r7), (.int r5)] SI8 SJ8 (QI Q)
  refine gj_goq gj_clT ok_67 [39, 56, 77, 94] ?_
  show vp_in (SI 10 (gj_n a1)) 8 ∧ (vp_in (SI 10 (gj_n a1)) 8 ∧ (vp_in (SI 10 (gj_n a1)) 8 ∧ (vp_in (SI 10 (gj_n a1)) 8 ∧ (((((r5 - r7) * (SI8 7 (gj_n (SI 10 (gj_n a1))))) - ((r1 - r3) * (SI8 8 (gj_n (SI 10 (gj_n a1)))))) < 0 → gj_Goes E om0 mt_67 180 [some (.ref 3), some (.int a1), some (.int a2), some (.int (SI 10 (gj_n a1))), some (.int (SI 10 (gj_n a2))), some (.int (r1 - r3)), some (.int (r5 - r7)), some (.int (((r5 - r7) * (SI8 7 (gj_n (SI 10 (gj_n a1))))) - ((r1 - r3) * (SI8 8 (gj_n (SI 10 (gj_n a1))))))), some (.int (((r1 - r3) * (SI8 7 (gj_n (SI 10 (gj_n a1))))) + ((r5 - r7) * (SI8 8 (gj_n (SI 10 (gj_n a1)))))))] [] SI8 SJ8 (QI Q)) ∧ (¬ (((r5 - r7) * (SI8 7 (gj_n (SI 10 (gj_n a1))))) - ((r1 - r3) * (SI8 8 (gj_n (SI 10 (gj_n a1)))))) < 0 → (((SI8 3 6) * (((r5 - r7) * (SI8 7 (gj_n (SI 10 (gj_n a1))))) - ((r1 - r3) * (SI8 8 (gj_n (SI 10 (gj_n a1))))))) < ((SI8 3 7) * (if 0 ≤ (((r1 - r3) * (SI8 7 (gj_n (SI 10 (gj_n a1))))) + ((r5 - r7) * (SI8 8 (gj_n (SI 10 (gj_n a1)))))) then (((r1 - r3) * (SI8 7 (gj_n (SI 10 (gj_n a1))))) + ((r5 - r7) * (SI8 8 (gj_n (SI 10 (gj_n a1)))))) else 0 - (((r1 - r3) * (SI8 7 (gj_n (SI 10 (gj_n a1))))) + ((r5 - r7) * (SI8 8 (gj_n (SI 10 (gj_n a1)))))))) → gj_Goes E om0 mt_67 180 [some (.ref 3), some (.int a1), some (.int a2), some (.int (SI 10 (gj_n a1))), some (.int (SI 10 (gj_n a2))), some (.int (r1 - r3)), some (.int (r5 - r7)), some (.int (((r5 - r7) * (SI8 7 (gj_n (SI 10 (gj_n a1))))) - ((r1 - r3) * (SI8 8 (gj_n (SI 10 (gj_n a1))))))), some (.int (((r1 - r3) * (SI8 7 (gj_n (SI 10 (gj_n a1))))) + ((r5 - r7) * (SI8 8 (gj_n (SI 10 (gj_n a1)))))))] [] SI8 SJ8 (QI Q)) ∧ (¬ ((SI8 3 6) * (((r5 - r7) * (SI8 7 (gj_n (SI 10 (gj_n a1))))) - ((r1 - r3) * (SI8 8 (gj_n (SI 10 (gj_n a1))))))) < ((SI8 3 7) * (if 0 ≤ (((r1 - r3) * (SI8 7 (gj_n (SI 10 (gj_n a1))))) + ((r5 - r7) * (SI8 8 (gj_n (SI 10 (gj_n a1)))))) then (((r1 - r3) * (SI8 7 (gj_n (SI 10 (gj_n a1))))) + ((r5 - r7) * (SI8 8 (gj_n (SI 10 (gj_n a1)))))) else 0 - (((r1 - r3) * (SI8 7 (gj_n (SI 10 (gj_n a1))))) + ((r5 - r7) * (SI8 8 (gj_n (SI 10 (gj_n a1)))))))) → gj_Goes E om0 mt_67 181 [some (.ref 3), some (.int a1), some (.int a2), some (.int (SI 10 (gj_n a1))), some (.int (SI 10 (gj_n a2))), some (.int (r1 - r3)), some (.int (r5 - r7)), some (.int (((r5 - r7) * (SI8 7 (gj_n (SI 10 (gj_n a1))))) - ((r1 - r3) * (SI8 8 (gj_n (SI 10 (gj_n a1))))))), some (.int (((r1 - r3) * (SI8 7 (gj_n (SI 10 (gj_n a1))))) + ((r5 - r7) * (SI8 8 (gj_n (SI 10 (gj_n a1)))))))] [(.int (i3 1))] SI8 SJ8 (QI Q)))))))
  have k7 := q6.1
  refine ⟨k7, ?_⟩
  refine ⟨k7, ?_⟩
  refine ⟨k7, ?_⟩
  refine ⟨k7, ?_⟩
  refine ⟨fun c8 => ?_, fun c8 => ?_⟩
  · refine gj_goq gj_clT ok_67 [39, 56, 77, 94] ?_
    show ((i3 0) = 0 ∨ (i3 0) = 1) ∧ (QI Q (some (.int (i3 0))) SI8 SJ8)
    refine ⟨(Or.inl rfl), ?_⟩
    exact ⟨_, rfl, (q6.2.1 c8)⟩
  · refine ⟨fun c9 => ?_, fun c9 => ?_⟩
    · refine gj_goq gj_clT ok_67 [39, 56, 77, 94] ?_
      show ((i3 0) = 0 ∨ (i3 0) = 1) ∧ (QI Q (some (.int (i3 0))) SI8 SJ8)
      refine ⟨(Or.inl rfl), ?_⟩
      exact ⟨_, rfl, ((q6.2.2 c8).1 c9)⟩
    · refine gj_goq gj_clT ok_67 [39, 56, 77, 94] ?_
      show ((i3 1) = 0 ∨ (i3 1) = 1) ∧ (QI Q (some (.int (i3 1))) SI8 SJ8)
      refine ⟨(Or.inr rfl), ?_⟩
      exact ⟨_, rfl, ((q6.2.2 c8).2 c9)⟩
