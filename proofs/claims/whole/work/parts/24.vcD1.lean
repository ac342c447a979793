/-! 24.vcD1: what the machine asks of each method, from its entry (st_) and from each loop head (lp_): printed by a program, checked by the kernel -/
set_option maxRecDepth 20000 in
/-- GraspJudgeModel.in -/
theorem st_155 {E : gj_E} {Q : Int32 → gj_I → gj_J → Prop} (a1 : Int64) (a2 : Int64) (a3 : Int64) (SI : gj_I) (SJ : gj_J) (h : (a1 < a2 → Q (i3 0) SI SJ) ∧ (¬ a1 < a2 → (a1 > a3 → Q (i3 0) SI SJ) ∧ (¬ a1 > a3 → Q (i3 1) SI SJ))) : DoI E 155 [(.long a1), (.long a2), (.long a3)] SI SJ Q := by
  refine gj_start (M := mt_155) ok_155 (Nat.le_of_ble_eq_true rfl) ?_
  refine gj_goq gj_clT ok_155 [] ?_
  show ((lg_cmp a1 a2) < 0 → gj_Goes E om0 mt_155 17 [some (.long a1), none, some (.long a2), none, some (.long a3), none] [] SI SJ (QI Q)) ∧ (¬ (lg_cmp a1 a2) < 0 → (0 < (lg_cmp a1 a3) → gj_Goes E om0 mt_155 17 [some (.long a1), none, some (.long a2), none, some (.long a3), none] [] SI SJ (QI Q)) ∧ (¬ 0 < (lg_cmp a1 a3) → gj_Goes E om0 mt_155 18 [some (.long a1), none, some (.long a2), none, some (.long a3), none] [(.int (i3 1))] SI SJ (QI Q)))
  refine ⟨fun c1 => ?_, fun c1 => ?_⟩
  · refine gj_goq gj_clT ok_155 [] ?_
    show ((i3 0) = 0 ∨ (i3 0) = 1) ∧ (QI Q (some (.int (i3 0))) SI SJ)
    refine ⟨(Or.inl rfl), ?_⟩
    exact ⟨_, rfl, (h.1 (lgc_lt.mp c1))⟩
  · refine ⟨fun c2 => ?_, fun c2 => ?_⟩
    · refine gj_goq gj_clT ok_155 [] ?_
      show ((i3 0) = 0 ∨ (i3 0) = 1) ∧ (QI Q (some (.int (i3 0))) SI SJ)
      refine ⟨(Or.inl rfl), ?_⟩
      exact ⟨_, rfl, ((h.2 (fun z_ => c1 (lgc_lt.mpr z_))).1 (lgc_gt.mp c2))⟩
    · refine gj_goq gj_clT ok_155 [] ?_
      show ((i3 1) = 0 ∨ (i3 1) = 1) ∧ (QI Q (some (.int (i3 1))) SI SJ)
      refine ⟨(Or.inr rfl), ?_⟩
      exact ⟨_, rfl, ((h.2 (fun z_ => c1 (lgc_lt.mpr z_))).2 (fun z_ => c2 (lgc_gt.mpr z_)))⟩
set_option maxRecDepth 20000 in
/-- GraspJudgeModel.min -/
theorem st_156 {E : gj_E} {Q : Int32 → gj_I → gj_J → Prop} (a1 : Int32) (a2 : Int32) (SI : gj_I) (SJ : gj_J) (h : (a2 ≤ a1 → Q a2 SI SJ) ∧ (¬ a2 ≤ a1 → Q a1 SI SJ)) : DoI E 156 [(.int a1), (.int a2)] SI SJ Q := by
  refine gj_start (M := mt_156) ok_156 (Nat.le_of_ble_eq_true rfl) ?_
  refine gj_goq gj_clT ok_156 [] ?_
  show (a2 ≤ a1 → gj_Goes E om0 mt_156 9 [some (.int a1), some (.int a2)] [] SI SJ (QI Q)) ∧ (¬ a2 ≤ a1 → gj_Goes E om0 mt_156 10 [some (.int a1), some (.int a2)] [(.int a1)] SI SJ (QI Q))
  refine ⟨fun c1 => ?_, fun c1 => ?_⟩
  · refine gj_goq gj_clT ok_156 [] ?_
    show QI Q (some (.int a2)) SI SJ
    exact ⟨_, rfl, (h.1 c1)⟩
  · refine gj_goq gj_clT ok_156 [] ?_
    show QI Q (some (.int a1)) SI SJ
    exact ⟨_, rfl, (h.2 c1)⟩
set_option maxRecDepth 20000 in
/-- GraspJudgeModel.max -/
theorem st_157 {E : gj_E} {Q : Int32 → gj_I → gj_J → Prop} (a1 : Int32) (a2 : Int32) (SI : gj_I) (SJ : gj_J) (h : (a1 ≤ a2 → Q a2 SI SJ) ∧ (¬ a1 ≤ a2 → Q a1 SI SJ)) : DoI E 157 [(.int a1), (.int a2)] SI SJ Q := by
  refine gj_start (M := mt_157) ok_157 (Nat.le_of_ble_eq_true rfl) ?_
  refine gj_goq gj_clT ok_157 [] ?_
  show (a1 ≤ a2 → gj_Goes E om0 mt_157 9 [some (.int a1), some (.int a2)] [] SI SJ (QI Q)) ∧ (¬ a1 ≤ a2 → gj_Goes E om0 mt_157 10 [some (.int a1), some (.int a2)] [(.int a1)] SI SJ (QI Q))
  refine ⟨fun c1 => ?_, fun c1 => ?_⟩
  · refine gj_goq gj_clT ok_157 [] ?_
    show QI Q (some (.int a2)) SI SJ
    exact ⟨_, rfl, (h.1 c1)⟩
  · refine gj_goq gj_clT ok_157 [] ?_
    show QI Q (some (.int a1)) SI SJ
    exact ⟨_, rfl, (h.2 c1)⟩
set_option maxRecDepth 20000 in
/-- GraspJudgeModel.size -/
theorem st_158 {E : gj_E} {Q : Int64 → gj_I → gj_J → Prop} (a1 : Int64) (SI : gj_I) (SJ : gj_J) (h : (a1 ≥ (i6 0) → Q a1 SI SJ) ∧ (¬ a1 ≥ (i6 0) → Q (-a1) SI SJ)) : DoL E 158 [(.long a1)] SI SJ Q := by
  refine gj_start (M := mt_158) ok_158 (Nat.le_of_ble_eq_true rfl) ?_
  refine gj_goq gj_clT ok_158 [] ?_
  show (0 ≤ (lg_cmp a1 (i6 0)) → gj_Goes E om0 mt_158 11 [some (.long a1), none] [] SI SJ (QL Q)) ∧ (¬ 0 ≤ (lg_cmp a1 (i6 0)) → gj_Goes E om0 mt_158 12 [some (.long a1), none] [(.long (-a1))] SI SJ (QL Q))
  refine ⟨fun c1 => ?_, fun c1 => ?_⟩
  · refine gj_goq gj_clT ok_158 [] ?_
    show QL Q (some (.long a1)) SI SJ
    exact ⟨_, rfl, (h.1 (lgc_ge.mp c1))⟩
  · refine gj_goq gj_clT ok_158 [] ?_
    show QL Q (some (.long (-a1))) SI SJ
    exact ⟨_, rfl, (h.2 (fun z_ => c1 (lgc_ge.mpr z_)))⟩
set_option maxRecDepth 20000 in
/-- GraspJudgeModel.has -/
theorem st_159 {E : gj_E} {Q : Int32 → gj_I → gj_J → Prop} (a1 : Int32) (a2 : Int32) (SI : gj_I) (SJ : gj_J) (h : (¬ ((a1 >>> (a2 &&& 31)) &&& (i3 1)) = (i3 1) → Q (i3 0) SI SJ) ∧ (((a1 >>> (a2 &&& 31)) &&& (i3 1)) = (i3 1) → Q (i3 1) SI SJ)) : DoI E 159 [(.int a1), (.int a2)] SI SJ Q := by
  refine gj_start (M := mt_159) ok_159 (Nat.le_of_ble_eq_true rfl) ?_
  refine gj_goq gj_clT ok_159 [] ?_
  show (¬ ((a1 >>> (a2 &&& 31)) &&& (i3 1)) = (i3 1) → gj_Goes E om0 mt_159 13 [some (.int a1), some (.int a2)] [] SI SJ (QI Q)) ∧ (((a1 >>> (a2 &&& 31)) &&& (i3 1)) = (i3 1) → gj_Goes E om0 mt_159 14 [some (.int a1), some (.int a2)] [(.int (i3 1))] SI SJ (QI Q))
  refine ⟨fun c1 => ?_, fun c1 => ?_⟩
  · refine gj_goq gj_clT ok_159 [] ?_
    show ((i3 0) = 0 ∨ (i3 0) = 1) ∧ (QI Q (some (.int (i3 0))) SI SJ)
    refine ⟨(Or.inl rfl), ?_⟩
    exact ⟨_, rfl, (h.1 c1)⟩
  · refine gj_goq gj_clT ok_159 [] ?_
    show ((i3 1) = 0 ∨ (i3 1) = 1) ∧ (QI Q (some (.int (i3 1))) SI SJ)
    refine ⟨(Or.inr rfl), ?_⟩
    exact ⟨_, rfl, (h.2 c1)⟩
set_option maxRecDepth 20000 in
/-- GraspJudgeModel.sizeOf -/
theorem st_160 {E : gj_E} {Q : Int32 → gj_I → gj_J → Prop} (a1 : Int32) (SI : gj_I) (SJ : gj_J) (h : GoI E mt_160 4 [none, some (.int (i3 0)), some (.int a1)] SI SJ Q) : DoI E 160 [(.int a1)] SI SJ Q := by
  refine gj_start (M := mt_160) ok_160 (Nat.le_of_ble_eq_true rfl) ?_
  refine gj_goq gj_clT ok_160 [4] ?_
  show gj_Goes E om0 mt_160 4 [some (.int a1), some (.int (i3 0)), some (.int a1)] [] SI SJ (QI Q)
  exact gj_fh h (And.intro (Or.inl rfl) (And.intro (Or.inr rfl) (And.intro (Or.inr rfl) trivial)))
set_option maxRecDepth 20000 in
theorem lp_160_4 {E : gj_E} {Q : Int32 → gj_I → gj_J → Prop} (x1 : Int32) (x2 : Int32) (SI : gj_I) (SJ : gj_J) (h : (x2 = 0 → Q x1 SI SJ) ∧ (¬ x2 = 0 → GoI E mt_160 4 [none, some (.int (x1 + (i3 1))), some (.int (x2 &&& (x2 - (i3 1))))] SI SJ Q)) : GoI E mt_160 4 [none, some (.int x1), some (.int x2)] SI SJ Q := by
  refine gj_goq gj_clT ok_160 [4] ?_
  show (x2 = 0 → gj_Goes E om0 mt_160 21 [none, some (.int x1), some (.int x2)] [] SI SJ (QI Q)) ∧ (¬ x2 = 0 → gj_Goes E om0 mt_160 4 [none, some (.int (x1 + (i3 1))), some (.int (x2 &&& (x2 - (i3 1))))] [] SI SJ (QI Q))
  refine ⟨fun c1 => ?_, fun c1 => ?_⟩
  · refine gj_goq gj_clT ok_160 [4] ?_
    show QI Q (some (.int x1)) SI SJ
    exact ⟨_, rfl, (h.1 c1)⟩
  · exact (h.2 c1)
set_option maxRecDepth 20000 in
/-- GraspJudgeModel.common -/
theorem st_161 {E : gj_E} {Q : Int64 → gj_I → gj_J → Prop} (a1 : Int64) (a2 : Int64) (SI : gj_I) (SJ : gj_J) (h : DoL E 158 [(.long a1)] SI SJ (fun r1 SI2 SJ2 => DoL E 158 [(.long a2)] SI2 SJ2 (fun r3 SI4 SJ4 => GoL E mt_161 12 [none, none, none, none, some (.long r1), none, some (.long r3), none, none, none] SI4 SJ4 Q))) : DoL E 161 [(.long a1), (.long a2)] SI SJ Q := by
  refine gj_start (M := mt_161) ok_161 (Nat.le_of_ble_eq_true rfl) ?_
  refine gj_goq gj_clT ok_161 [4, 10, 12] ?_
  show gj_Do E om0 (gj_mt 158) [(.long a1)] SI SJ _
  refine gj_Do.mono h (fun v_ SI2 SJ2 h_ => ?_)
  obtain ⟨r1, rfl, q1⟩ := h_
  show gj_Goes E om0 mt_161 4 [some (.long a1), none, some (.long a2), none, none, none, none, none, none, none] [(.long r1)] SI2 SJ2 (QL Q)
  refine gj_goq gj_clT ok_161 [4, 10, 12] ?_
  show gj_Do E om0 (gj_mt 158) [(.long a2)] SI2 SJ2 _
  refine gj_Do.mono q1 (fun v_ SI4 SJ4 h_ => ?_)
  obtain ⟨r3, rfl, q2⟩ := h_
  show gj_Goes E om0 mt_161 10 [some (.long a1), none, some (.long a2), none, some (.long r1), none, none, none, none, none] [(.long r3)] SI4 SJ4 (QL Q)
  refine gj_goq gj_clT ok_161 [4, 10, 12] ?_
  show gj_Goes E om0 mt_161 12 [some (.long a1), none, some (.long a2), none, some (.long r1), none, some (.long r3), none, none, none] [] SI4 SJ4 (QL Q)
  exact gj_fh q2 (And.intro (Or.inl rfl) (And.intro (Or.inl rfl) (And.intro (Or.inl rfl) (And.intro (Or.inl rfl) (And.intro (Or.inr rfl) (And.intro (Or.inl rfl) (And.intro (Or.inr rfl) (And.intro (Or.inl rfl) (And.intro (Or.inl rfl) (And.intro (Or.inl rfl) trivial))))))))))
set_option maxRecDepth 20000 in
theorem lp_161_12 {E : gj_E} {Q : Int64 → gj_I → gj_J → Prop} (x4 : Int64) (x6 : Int64) (SI : gj_I) (SJ : gj_J) (h : (x6 = (i6 0) → Q x4 SI SJ) ∧ (¬ x6 = (i6 0) → ¬ x6 = 0 ∧ (GoL E mt_161 12 [none, none, none, none, some (.long x6), none, some (.long (x4 - x4 / x6 * x6)), none, none, none] SI SJ Q))) : GoL E mt_161 12 [none, none, none, none, some (.long x4), none, some (.long x6), none, none, none] SI SJ Q := by
  refine gj_goq gj_clT ok_161 [4, 10, 12] ?_
  show ((lg_cmp x6 (i6 0)) = 0 → gj_Goes E om0 mt_161 37 [none, none, none, none, some (.long x4), none, some (.long x6), none, none, none] [] SI SJ (QL Q)) ∧ (¬ (lg_cmp x6 (i6 0)) = 0 → ¬ x6 = 0 ∧ (gj_Goes E om0 mt_161 12 [none, none, none, none, some (.long x6), none, some (.long (x4 - x4 / x6 * x6)), none, some (.long (x4 - x4 / x6 * x6)), none] [] SI SJ (QL Q)))
  refine ⟨fun c1 => ?_, fun c1 => ?_⟩
  · refine gj_goq gj_clT ok_161 [4, 10, 12] ?_
    show QL Q (some (.long x4)) SI SJ
    exact ⟨_, rfl, (h.1 (lgc_eq.mp c1))⟩
  · have k2 := (h.2 (fun z_ => c1 (lgc_eq.mpr z_))).1
    refine ⟨k2, ?_⟩
    exact gj_fh (h.2 (fun z_ => c1 (lgc_eq.mpr z_))).2 (And.intro (Or.inl rfl) (And.intro (Or.inl rfl) (And.intro (Or.inl rfl) (And.intro (Or.inl rfl) (And.intro (Or.inr rfl) (And.intro (Or.inl rfl) (And.intro (Or.inr rfl) (And.intro (Or.inl rfl) (And.intro (Or.inl rfl) (And.intro (Or.inl rfl) trivial))))))))))
set_option maxRecDepth 20000 in
/-- GraspJudgeModel.corners -/
theorem st_162 {E : gj_E} {Q : Int32 → gj_I → gj_J → Prop} (SI : gj_I) (SJ : gj_J) (h : Q (SI 82 0) SI SJ) : DoI E 162 [(.ref 81)] SI SJ Q := by
  refine gj_start (M := mt_162) ok_162 (Nat.le_of_ble_eq_true rfl) ?_
  refine gj_goq gj_clT ok_162 [] ?_
  show vp_in (i3 0) 135 ∧ (QI Q (some (.int (SI 82 0))) SI SJ)
  refine ⟨(gj_vin (by decide)), ?_⟩
  exact ⟨_, rfl, h⟩
set_option maxRecDepth 20000 in
/-- GraspJudgeModel.cornerX -/
theorem st_163 {E : gj_E} {Q : Int32 → gj_I → gj_J → Prop} (a1 : Int32) (SI : gj_I) (SJ : gj_J) (h : DoI E 162 [(.ref 81)] SI SJ (fun r1 SI2 SJ2 => ¬ r1 = 0 ∧ (vp_in ((i3 1) + (a1 - a1 / r1 * r1)) 135 ∧ (Q (SI2 82 (gj_n ((i3 1) + (a1 - a1 / r1 * r1)))) SI2 SJ2)))) : DoI E 163 [(.ref 81), (.int a1)] SI SJ Q := by
  refine gj_start (M := mt_163) ok_163 (Nat.le_of_ble_eq_true rfl) ?_
  refine gj_goq gj_clT ok_163 [10] ?_
  show gj_Do E om0 (gj_mt 162) [(.ref 81)] SI SJ _
  refine gj_Do.mono h (fun v_ SI2 SJ2 h_ => ?_)
  obtain ⟨r1, rfl, q1⟩ := h_
  show gj_Goes E om0 mt_163 10 [some (.ref 81), some (.int a1)] [(.int r1), (.int a1), (.int (i3 1)), (.ref 82)] SI2 SJ2 (QI Q)
  refine gj_goq gj_clT ok_163 [10] ?_
  show ¬ r1 = 0 ∧ (vp_in ((i3 1) + (a1 - a1 / r1 * r1)) 135 ∧ (QI Q (some (.int (SI2 82 (gj_n ((i3 1) + (a1 - a1 / r1 * r1)))))) SI2 SJ2))
  have k2 := q1.1
  refine ⟨k2, ?_⟩
  have k3 := q1.2.1
  refine ⟨k3, ?_⟩
  exact ⟨_, rfl, q1.2.2⟩
set_option maxRecDepth 20000 in
/-- GraspJudgeModel.cornerY -/
theorem st_164 {E : gj_E} {Q : Int32 → gj_I → gj_J → Prop} (a1 : Int32) (SI : gj_I) (SJ : gj_J) (h : DoI E 162 [(.ref 81)] SI SJ (fun r1 SI2 SJ2 => ¬ r1 = 0 ∧ (vp_in ((i3 9) + (a1 - a1 / r1 * r1)) 135 ∧ (Q (SI2 82 (gj_n ((i3 9) + (a1 - a1 / r1 * r1)))) SI2 SJ2)))) : DoI E 164 [(.ref 81), (.int a1)] SI SJ Q := by
  refine gj_start (M := mt_164) ok_164 (Nat.le_of_ble_eq_true rfl) ?_
  refine gj_goq gj_clT ok_164 [11] ?_
  show gj_Do E om0 (gj_mt 162) [(.ref 81)] SI SJ _
  refine gj_Do.mono h (fun v_ SI2 SJ2 h_ => ?_)
  obtain ⟨r1, rfl, q1⟩ := h_
  show gj_Goes E om0 mt_164 11 [some (.ref 81), some (.int a1)] [(.int r1), (.int a1), (.int (i3 9)), (.ref 82)] SI2 SJ2 (QI Q)
  refine gj_goq gj_clT ok_164 [11] ?_
  show ¬ r1 = 0 ∧ (vp_in ((i3 9) + (a1 - a1 / r1 * r1)) 135 ∧ (QI Q (some (.int (SI2 82 (gj_n ((i3 9) + (a1 - a1 / r1 * r1)))))) SI2 SJ2))
  have k2 := q1.1
  refine ⟨k2, ?_⟩
  have k3 := q1.2.1
  refine ⟨k3, ?_⟩
  exact ⟨_, rfl, q1.2.2⟩
set_option maxRecDepth 20000 in
/-- GraspJudgeModel.stepsOf -/
theorem st_165 {E : gj_E} {Q : Int32 → gj_I → gj_J → Prop} (a1 : Int32) (SI : gj_I) (SJ : gj_J) (h : DoI E 163 [(.ref 81), (.int (a1 + (i3 1)))] SI SJ (fun r1 SI2 SJ2 => DoI E 163 [(.ref 81), (.int a1)] SI2 SJ2 (fun r3 SI4 SJ4 => DoI E 164 [(.ref 81), (.int (a1 + (i3 1)))] SI4 SJ4 (fun r5 SI6 SJ6 => DoI E 164 [(.ref 81), (.int a1)] SI6 SJ6 (fun r7 SI8 SJ8 => DoL E 161 [(.long (r1 - r3).toInt64), (.long (r5 - r7).toInt64)] SI8 SJ8 (fun r9 SI10 SJ10 => Q (r9).toInt32 SI10 SJ10)))))) : DoI E 165 [(.ref 81), (.int a1)] SI SJ Q := by
  refine gj_start (M := mt_165) ok_165 (Nat.le_of_ble_eq_true rfl) ?_
  refine gj_goq gj_clT ok_165 [7, 12, 21, 26, 31] ?_
  show gj_Do E om0 (gj_mt 163) [(.ref 81), (.int (a1 + (i3 1)))] SI SJ _
  refine gj_Do.mono h (fun v_ SI2 SJ2 h_ => ?_)
  obtain ⟨r1, rfl, q1⟩ := h_
  show gj_Goes E om0 mt_165 7 [some (.ref 81), some (.int a1)] [(.int r1)] SI2 SJ2 (QI Q)
  refine gj_goq gj_clT ok_165 [7, 12, 21, 26, 31] ?_
  show gj_Do E om0 (gj_mt 163) [(.ref 81), (.int a1)] SI2 SJ2 _
  refine gj_Do.mono q1 (fun v_ SI4 SJ4 h_ => ?_)
  obtain ⟨r3, rfl, q2⟩ := h_
  show gj_Goes E om0 mt_165 12 [some (.ref 81), some (.int a1)] [(.int r3), (.int r1)] SI4 SJ4 (QI Q)
  refine gj_goq gj_clT ok_165 [7, 12, 21, 26, 31] ?_
  show gj_Do E om0 (gj_mt 164) [(.ref 81), (.int (a1 + (i3 1)))] SI4 SJ4 _
  refine gj_Do.mono q2 (fun v_ SI6 SJ6 h_ => ?_)
  obtain ⟨r5, rfl, q3⟩ := h_
  show gj_Goes E om0 mt_165 21 [some (.ref 81), some (.int a1)] [(.int r5), (.long (r1 - r3).toInt64)] SI6 SJ6 (QI Q)
  refine gj_goq gj_clT ok_165 [7, 12, 21, 26, 31] ?_
  show gj_Do E om0 (gj_mt 164) [(.ref 81), (.int a1)] SI6 SJ6 _
  refine gj_Do.mono q3 (fun v_ SI8 SJ8 h_ => ?_)
  obtain ⟨r7, rfl, q4⟩ := h_
  show gj_Goes E om0 mt_165 26 [some (.ref 81), some (.int a1)] [(.int r7), (.int r5), (.long (r1 - r3).toInt64)] SI8 SJ8 (QI Q)
  refine gj_goq gj_clT ok_165 [7, 12, 21, 26, 31] ?_
  show gj_Do E om0 (gj_mt 161) [(.long (r1 - r3).toInt64), (.long (r5 - r7).toInt64)] SI8 SJ8 _
  refine gj_Do.mono q4 (fun v_ SI10 SJ10 h_ => ?_)
  obtain ⟨r9, rfl, q5⟩ := h_
  show gj_Goes E om0 mt_165 31 [some (.ref 81), some (.int a1)] [(.long r9)] SI10 SJ10 (QI Q)
  refine gj_goq gj_clT ok_165 [7, 12, 21, 26, 31] ?_
  show QI Q (some (.int (r9).toInt32)) SI10 SJ10
  exact ⟨_, rfl, q5⟩
set_option maxRecDepth 20000 in
/-- GraspJudgeModel.alongX -/
theorem st_166 {E : gj_E} {Q : Int32 → gj_I → gj_J → Prop} (a1 : Int32) (SI : gj_I) (SJ : gj_J) (h : DoI E 163 [(.ref 81), (.int (a1 + (i3 1)))] SI SJ (fun r1 SI2 SJ2 => DoI E 163 [(.ref 81), (.int a1)] SI2 SJ2 (fun r3 SI4 SJ4 => DoI E 165 [(.ref 81), (.int a1)] SI4 SJ4 (fun r5 SI6 SJ6 => ¬ r5 = 0 ∧ (Q ((r1 - r3) / r5) SI6 SJ6))))) : DoI E 166 [(.ref 81), (.int a1)] SI SJ Q := by
  refine gj_start (M := mt_166) ok_166 (Nat.le_of_ble_eq_true rfl) ?_
  refine gj_goq gj_clT ok_166 [7, 12, 18] ?_
  show gj_Do E om0 (gj_mt 163) [(.ref 81), (.int (a1 + (i3 1)))] SI SJ _
  refine gj_Do.mono h (fun v_ SI2 SJ2 h_ => ?_)
  obtain ⟨r1, rfl, q1⟩ := h_
  show gj_Goes E om0 mt_166 7 [some (.ref 81), some (.int a1)] [(.int r1)] SI2 SJ2 (QI Q)
  refine gj_goq gj_clT ok_166 [7, 12, 18] ?_
  show gj_Do E om0 (gj_mt 163) [(.ref 81), (.int a1)] SI2 SJ2 _
  refine gj_Do.mono q1 (fun v_ SI4 SJ4 h_ => ?_)
  obtain ⟨r3, rfl, q2⟩ := h_
  show gj_Goes E om0 mt_166 12 [some (.ref 81), some (.int a1)] [(.int r3), (.int r1)] SI4 SJ4 (QI Q)
  refine gj_goq gj_clT ok_166 [7, 12, 18] ?_
  show gj_Do E om0 (gj_mt 165) [(.ref 81), (.int a1)] SI4 SJ4 _
  refine gj_Do.mono q2 (fun v_ SI6 SJ6 h_ => ?_)
  obtain ⟨r5, rfl, q3⟩ := h_
  show gj_Goes E om0 mt_166 18 [some (.ref 81), some (.int a1)] [(.int r5), (.int (r1 - r3))] SI6 SJ6 (QI Q)
  refine gj_goq gj_clT ok_166 [7, 12, 18] ?_
  show ¬ r5 = 0 ∧ (QI Q (some (.int ((r1 - r3) / r5))) SI6 SJ6)
  have k4 := q3.1
  refine ⟨k4, ?_⟩
  exact ⟨_, rfl, q3.2⟩
set_option maxRecDepth 20000 in
/-- GraspJudgeModel.alongY -/
theorem st_167 {E : gj_E} {Q : Int32 → gj_I → gj_J → Prop} (a1 : Int32) (SI : gj_I) (SJ : gj_J) (h : DoI E 164 [(.ref 81), (.int (a1 + (i3 1)))] SI SJ (fun r1 SI2 SJ2 => DoI E 164 [(.ref 81), (.int a1)] SI2 SJ2 (fun r3 SI4 SJ4 => DoI E 165 [(.ref 81), (.int a1)] SI4 SJ4 (fun r5 SI6 SJ6 => ¬ r5 = 0 ∧ (Q ((r1 - r3) / r5) SI6 SJ6))))) : DoI E 167 [(.ref 81), (.int a1)] SI SJ Q := by
  refine gj_start (M := mt_167) ok_167 (Nat.le_of_ble_eq_true rfl) ?_
  refine gj_goq gj_clT ok_167 [7, 12, 18] ?_
  show gj_Do E om0 (gj_mt 164) [(.ref 81), (.int (a1 + (i3 1)))] SI SJ _
  refine gj_Do.mono h (fun v_ SI2 SJ2 h_ => ?_)
  obtain ⟨r1, rfl, q1⟩ := h_
  show gj_Goes E om0 mt_167 7 [some (.ref 81), some (.int a1)] [(.int r1)] SI2 SJ2 (QI Q)
  refine gj_goq gj_clT ok_167 [7, 12, 18] ?_
  show gj_Do E om0 (gj_mt 164) [(.ref 81), (.int a1)] SI2 SJ2 _
  refine gj_Do.mono q1 (fun v_ SI4 SJ4 h_ => ?_)
  obtain ⟨r3, rfl, q2⟩ := h_
  show gj_Goes E om0 mt_167 12 [some (.ref 81), some (.int a1)] [(.int r3), (.int r1)] SI4 SJ4 (QI Q)
  refine gj_goq gj_clT ok_167 [7, 12, 18] ?_
  show gj_Do E om0 (gj_mt 165) [(.ref 81), (.int a1)] SI4 SJ4 _
  refine gj_Do.mono q2 (fun v_ SI6 SJ6 h_ => ?_)
  obtain ⟨r5, rfl, q3⟩ := h_
  show gj_Goes E om0 mt_167 18 [some (.ref 81), some (.int a1)] [(.int r5), (.int (r1 - r3))] SI6 SJ6 (QI Q)
  refine gj_goq gj_clT ok_167 [7, 12, 18] ?_
  show ¬ r5 = 0 ∧ (QI Q (some (.int ((r1 - r3) / r5))) SI6 SJ6)
  have k4 := q3.1
  refine ⟨k4, ?_⟩
  exact ⟨_, rfl, q3.2⟩
set_option maxRecDepth 20000 in
/-- GraspJudgeModel.atX -/
theorem st_168 {E : gj_E} {Q : Int32 → gj_I → gj_J → Prop} (a1 : Int32) (a2 : Int32) (SI : gj_I) (SJ : gj_J) (h : DoI E 163 [(.ref 81), (.int a1)] SI SJ (fun r1 SI2 SJ2 => DoI E 166 [(.ref 81), (.int a1)] SI2 SJ2 (fun r3 SI4 SJ4 => Q (r1 + (a2 * r3)) SI4 SJ4))) : DoI E 168 [(.ref 81), (.int a1), (.int a2)] SI SJ Q := by
  refine gj_start (M := mt_168) ok_168 (Nat.le_of_ble_eq_true rfl) ?_
  refine gj_goq gj_clT ok_168 [5, 11] ?_
  show gj_Do E om0 (gj_mt 163) [(.ref 81), (.int a1)] SI SJ _
  refine gj_Do.mono h (fun v_ SI2 SJ2 h_ => ?_)
  obtain ⟨r1, rfl, q1⟩ := h_
  show gj_Goes E om0 mt_168 5 [some (.ref 81), some (.int a1), some (.int a2)] [(.int r1)] SI2 SJ2 (QI Q)
  refine gj_goq gj_clT ok_168 [5, 11] ?_
  show gj_Do E om0 (gj_mt 166) [(.ref 81), (.int a1)] SI2 SJ2 _
  refine gj_Do.mono q1 (fun v_ SI4 SJ4 h_ => ?_)
  obtain ⟨r3, rfl, q2⟩ := h_
  show gj_Goes E om0 mt_168 11 [some (.ref 81), some (.int a1), some (.int a2)] [(.int r3), (.int a2), (.int r1)] SI4 SJ4 (QI Q)
  refine gj_goq gj_clT ok_168 [5, 11] ?_
  show QI Q (some (.int (r1 + (a2 * r3)))) SI4 SJ4
  exact ⟨_, rfl, q2⟩
set_option maxRecDepth 20000 in
/-- GraspJudgeModel.atY -/
theorem st_169 {E : gj_E} {Q : Int32 → gj_I → gj_J → Prop} (a1 : Int32) (a2 : Int32) (SI : gj_I) (SJ : gj_J) (h : DoI E 164 [(.ref 81), (.int a1)] SI SJ (fun r1 SI2 SJ2 => DoI E 167 [(.ref 81), (.int a1)] SI2 SJ2 (fun r3 SI4 SJ4 => Q (r1 + (a2 * r3)) SI4 SJ4))) : DoI E 169 [(.ref 81), (.int a1), (.int a2)] SI SJ Q := by
  refine gj_start (M := mt_169) ok_169 (Nat.le_of_ble_eq_true rfl) ?_
  refine gj_goq gj_clT ok_169 [5, 11] ?_
  show gj_Do E om0 (gj_mt 164) [(.ref 81), (.int a1)] SI SJ _
  refine gj_Do.mono h (fun v_ SI2 SJ2 h_ => ?_)
  obtain ⟨r1, rfl, q1⟩ := h_
  show gj_Goes E om0 mt_169 5 [some (.ref 81), some (.int a1), some (.int a2)] [(.int r1)] SI2 SJ2 (QI Q)
  refine gj_goq gj_clT ok_169 [5, 11] ?_
  show gj_Do E om0 (gj_mt 167) [(.ref 81), (.int a1)] SI2 SJ2 _
  refine gj_Do.mono q1 (fun v_ SI4 SJ4 h_ => ?_)
  obtain ⟨r3, rfl, q2⟩ := h_
  show gj_Goes E om0 mt_169 11 [some (.ref 81), some (.int a1), some (.int a2)] [(.int r3), (.int a2), (.int r1)] SI4 SJ4 (QI Q)
  refine gj_goq gj_clT ok_169 [5, 11] ?_
  show QI Q (some (.int (r1 + (a2 * r3)))) SI4 SJ4
  exact ⟨_, rfl, q2⟩
set_option maxRecDepth 20000 in
/-- GraspJudgeModel.sideOf -/
theorem st_170 {E : gj_E} {Q : Int64 → gj_I → gj_J → Prop} (a1 : Int32) (a2 : Int32) (a3 : Int32) (a4 : Int32) (SI : gj_I) (SJ : gj_J) (h : DoI E 163 [(.ref 81), (.int a2)] SI SJ (fun r1 SI2 SJ2 => DoI E 163 [(.ref 81), (.int a1)] SI2 SJ2 (fun r3 SI4 SJ4 => DoI E 164 [(.ref 81), (.int a1)] SI4 SJ4 (fun r5 SI6 SJ6 => DoI E 164 [(.ref 81), (.int a2)] SI6 SJ6 (fun r7 SI8 SJ8 => DoI E 164 [(.ref 81), (.int a1)] SI8 SJ8 (fun r9 SI10 SJ10 => DoI E 163 [(.ref 81), (.int a1)] SI10 SJ10 (fun r11 SI12 SJ12 => Q (((r1 - r3).toInt64 * (a4 - r5).toInt64) - ((r7 - r9).toInt64 * (a3 - r11).toInt64)) SI12 SJ12))))))) : DoL E 170 [(.ref 81), (.int a1), (.int a2), (.int a3), (.int a4)] SI SJ Q := by
  refine gj_start (M := mt_170) ok_170 (Nat.le_of_ble_eq_true rfl) ?_
  refine gj_goq gj_clT ok_170 [5, 10, 19, 27, 32, 40] ?_
  show gj_Do E om0 (gj_mt 163) [(.ref 81), (.int a2)] SI SJ _
  refine gj_Do.mono h (fun v_ SI2 SJ2 h_ => ?_)
  obtain ⟨r1, rfl, q1⟩ := h_
  show gj_Goes E om0 mt_170 5 [some (.ref 81), some (.int a1), some (.int a2), some (.int a3), some (.int a4)] [(.int r1)] SI2 SJ2 (QL Q)
  refine gj_goq gj_clT ok_170 [5, 10, 19, 27, 32, 40] ?_
  show gj_Do E om0 (gj_mt 163) [(.ref 81), (.int a1)] SI2 SJ2 _
  refine gj_Do.mono q1 (fun v_ SI4 SJ4 h_ => ?_)
  obtain ⟨r3, rfl, q2⟩ := h_
  show gj_Goes E om0 mt_170 10 [some (.ref 81), some (.int a1), some (.int a2), some (.int a3), some (.int a4)] [(.int r3), (.int r1)] SI4 SJ4 (QL Q)
  refine gj_goq gj_clT ok_170 [5, 10, 19, 27, 32, 40] ?_
  show gj_Do E om0 (gj_mt 164) [(.ref 81), (.int a1)] SI4 SJ4 _
  refine gj_Do.mono q2 (fun v_ SI6 SJ6 h_ => ?_)
  obtain ⟨r5, rfl, q3⟩ := h_
  show gj_Goes E om0 mt_170 19 [some (.ref 81), some (.int a1), some (.int a2), some (.int a3), some (.int a4)] [(.int r5), (.int a4), (.long (r1 - r3).toInt64)] SI6 SJ6 (QL Q)
  refine gj_goq gj_clT ok_170 [5, 10, 19, 27, 32, 40] ?_
  show gj_Do E om0 (gj_mt 164) [(.ref 81), (.int a2)] SI6 SJ6 _
  refine gj_Do.mono q3 (fun v_ SI8 SJ8 h_ => ?_)
  obtain ⟨r7, rfl, q4⟩ := h_
  show gj_Goes E om0 mt_170 27 [some (.ref 81), some (.int a1), some (.int a2), some (.int a3), some (.int a4)] [(.int r7), (.long ((r1 - r3).toInt64 * (a4 - r5).toInt64))] SI8 SJ8 (QL Q)
  refine gj_goq gj_clT ok_170 [5, 10, 19, 27, 32, 40] ?_
  show gj_Do E om0 (gj_mt 164) [(.ref 81), (.int a1)] SI8 SJ8 _
  refine gj_Do.mono q4 (fun v_ SI10 SJ10 h_ => ?_)
  obtain ⟨r9, rfl, q5⟩ := h_
  show gj_Goes E om0 mt_170 32 [some (.ref 81), some (.int a1), some (.int a2), some (.int a3), some (.int a4)] [(.int r9), (.int r7), (.long ((r1 - r3).toInt64 * (a4 - r5).toInt64))] SI10 SJ10 (QL Q)
  refine gj_goq gj_clT ok_170 [5, 10, 19, 27, 32, 40] ?_
  show gj_Do E om0 (gj_mt 163) [(.ref 81), (.int a1)] SI10 SJ10 _
  refine gj_Do.mono q5 (fun v_ SI12 SJ12 h_ => ?_)
  obtain ⟨r11, rfl, q6⟩ := h_
  show gj_Goes E om0 mt_170 40 [some (.ref 81), some (.int a1), some (.int a2), some (.int a3), some (.int a4)] [(.int r11), (.int a3), (.long (r7 - r9).toInt64), (.long ((r1 - r3).toInt64 * (a4 - r5).toInt64))] SI12 SJ12 (QL Q)
  refine gj_goq gj_clT ok_170 [5, 10, 19, 27, 32, 40] ?_
  show QL Q (some (.long (((r1 - r3).toInt64 * (a4 - r5).toInt64) - ((r7 - r9).toInt64 * (a3 - r11).toInt64)))) SI12 SJ12
  exact ⟨_, rfl, q6⟩
set_option maxRecDepth 20000 in
/-- GraspJudgeModel.signOf -/
theorem st_171 {E : gj_E} {Q : Int32 → gj_I → gj_J → Prop} (a1 : Int64) (SI : gj_I) (SJ : gj_J) (h : (a1 ≤ (i6 0) → (a1 ≥ (i6 0) → Q (i3 0) SI SJ) ∧ (¬ a1 ≥ (i6 0) → Q (i3 (-1)) SI SJ)) ∧ (¬ a1 ≤ (i6 0) → Q (i3 1) SI SJ)) : DoI E 171 [(.long a1)] SI SJ Q := by
  refine gj_start (M := mt_171) ok_171 (Nat.le_of_ble_eq_true rfl) ?_
  refine gj_goq gj_clT ok_171 [] ?_
  show ((lg_cmp a1 (i6 0)) ≤ 0 → gj_Goes E om0 mt_171 10 [some (.long a1), none] [] SI SJ (QI Q)) ∧ (¬ (lg_cmp a1 (i6 0)) ≤ 0 → gj_Goes E om0 mt_171 21 [some (.long a1), none] [(.int (i3 1))] SI SJ (QI Q))
  refine ⟨fun c1 => ?_, fun c1 => ?_⟩
  · refine gj_goq gj_clT ok_171 [] ?_
    show (0 ≤ (lg_cmp a1 (i6 0)) → gj_Goes E om0 mt_171 20 [some (.long a1), none] [] SI SJ (QI Q)) ∧ (¬ 0 ≤ (lg_cmp a1 (i6 0)) → gj_Goes E om0 mt_171 21 [some (.long a1), none] [(.int (i3 (-1)))] SI SJ (QI Q))
    refine ⟨fun c2 => ?_, fun c2 => ?_⟩
    · refine gj_goq gj_clT ok_171 [] ?_
      show QI Q (some (.int (i3 0))) SI SJ
      exact ⟨_, rfl, ((h.1 (lgc_le.mp c1)).1 (lgc_ge.mp c2))⟩
    · refine gj_goq gj_clT ok_171 [] ?_
      show QI Q (some (.int (i3 (-1)))) SI SJ
      exact ⟨_, rfl, ((h.1 (lgc_le.mp c1)).2 (fun z_ => c2 (lgc_ge.mpr z_)))⟩
  · refine gj_goq gj_clT ok_171 [] ?_
    show QI Q (some (.int (i3 1))) SI SJ
    exact ⟨_, rfl, (h.2 (fun z_ => c1 (lgc_le.mpr z_)))⟩
set_option maxRecDepth 20000 in
/-- GraspJudgeModel.isBetween -/
theorem st_172 {E : gj_E} {Q : Int32 → gj_I → gj_J → Prop} (a1 : Int32) (a2 : Int32) (a3 : Int32) (SI : gj_I) (SJ : gj_J) (h : DoL E 170 [(.ref 81), (.int a1), (.int (a1 + (i3 1))), (.int a2), (.int a3)] SI SJ (fun r1 SI2 SJ2 => (r1 = (i6 0) → DoI E 163 [(.ref 81), (.int a1)] SI2 SJ2 (fun r3 SI4 SJ4 => DoI E 163 [(.ref 81), (.int (a1 + (i3 1)))] SI4 SJ4 (fun r5 SI6 SJ6 => DoI E 156 [(.int r3), (.int r5)] SI6 SJ6 (fun r7 SI8 SJ8 => DoI E 163 [(.ref 81), (.int a1)] SI8 SJ8 (fun r9 SI10 SJ10 => DoI E 163 [(.ref 81), (.int (a1 + (i3 1)))] SI10 SJ10 (fun r11 SI12 SJ12 => DoI E 157 [(.int r9), (.int r11)] SI12 SJ12 (fun r13 SI14 SJ14 => DoI E 155 [(.long (a2).toInt64), (.long (r7).toInt64), (.long (r13).toInt64)] SI14 SJ14 (fun r15 SI16 SJ16 => (r15 = 0 → Q (i3 0) SI16 SJ16) ∧ (¬ r15 = 0 → DoI E 164 [(.ref 81), (.int a1)] SI16 SJ16 (fun r17 SI18 SJ18 => DoI E 164 [(.ref 81), (.int (a1 + (i3 1)))] SI18 SJ18 (fun r19 SI20 SJ20 => DoI E 156 [(.int r17), (.int r19)] SI20 SJ20 (fun r21 SI22 SJ22 => DoI E 164 [(.ref 81), (.int a1)] SI22 SJ22 (fun r23 SI24 SJ24 => DoI E 164 [(.ref 81), (.int (a1 + (i3 1)))] SI24 SJ24 (fun r25 SI26 SJ26 => DoI E 157 [(.int r23), (.int r25)] SI26 SJ26 (fun r27 SI28 SJ28 => DoI E 155 [(.long (a3).toInt64), (.long (r21).toInt64), (.long (r27).toInt64)] SI28 SJ28 (fun r29 SI30 SJ30 => (r29 = 0 → Q (i3 0) SI30 SJ30) ∧ (¬ r29 = 0 → Q (i3 1) SI30 SJ30))))))))))))))))) ∧ (¬ r1 = (i6 0) → Q (i3 0) SI2 SJ2))) : DoI E 172 [(.ref 81), (.int a1), (.int a2), (.int a3)] SI SJ Q := by
  refine gj_start (M := mt_172) ok_172 (Nat.le_of_ble_eq_true rfl) ?_
  refine gj_goq gj_clT ok_172 [10, 24, 31, 34, 40, 47, 50, 54, 64, 71, 74, 80, 87, 90, 94] ?_
  show gj_Do E om0 (gj_mt 170) [(.ref 81), (.int a1), (.int (a1 + (i3 1))), (.int a2), (.int a3)] SI SJ _
  refine gj_Do.mono h (fun v_ SI2 SJ2 h_ => ?_)
  obtain ⟨r1, rfl, q1⟩ := h_
  show gj_Goes E om0 mt_172 10 [some (.ref 81), some (.int a1), some (.int a2), some (.int a3)] [(.long r1)] SI2 SJ2 (QI Q)
  refine gj_goq gj_clT ok_172 [10, 24, 31, 34, 40, 47, 50, 54, 64, 71, 74, 80, 87, 90, 94] ?_
  show ((lg_cmp r1 (i6 0)) = 0 → gj_Goes E om0 mt_172 17 [some (.ref 81), some (.int a1), some (.int a2), some (.int a3)] [] SI2 SJ2 (QI Q)) ∧ (¬ (lg_cmp r1 (i6 0)) = 0 → ((i3 0) = 0 ∨ (i3 0) = 1) ∧ (QI Q (some (.int (i3 0))) SI2 SJ2))
  refine ⟨fun c2 => ?_, fun c2 => ?_⟩
  · refine gj_goq gj_clT ok_172 [10, 24, 31, 34, 40, 47, 50, 54, 64, 71, 74, 80, 87, 90, 94] ?_
    show gj_Do E om0 (gj_mt 163) [(.ref 81), (.int a1)] SI2 SJ2 _
    refine gj_Do.mono (q1.1 (lgc_eq.mp c2)) (fun v_ SI4 SJ4 h_ => ?_)
    obtain ⟨r3, rfl, q3⟩ := h_
    show gj_Goes E om0 mt_172 24 [some (.ref 81), some (.int a1), some (.int a2), some (.int a3)] [(.int r3), (.long (a2).toInt64)] SI4 SJ4 (QI Q)
    refine gj_goq gj_clT ok_172 [10, 24, 31, 34, 40, 47, 50, 54, 64, 71, 74, 80, 87, 90, 94] ?_
    show gj_Do E om0 (gj_mt 163) [(.ref 81), (.int (a1 + (i3 1)))] SI4 SJ4 _
    refine gj_Do.mono q3 (fun v_ SI6 SJ6 h_ => ?_)
    obtain ⟨r5, rfl, q4⟩ := h_
    show gj_Goes E om0 mt_172 31 [some (.ref 81), some (.int a1), some (.int a2), some (.int a3)] [(.int r5), (.int r3), (.long (a2).toInt64)] SI6 SJ6 (QI Q)
    refine gj_goq gj_clT ok_172 [10, 24, 31, 34, 40, 47, 50, 54, 64, 71, 74, 80, 87, 90, 94] ?_
    show gj_Do E om0 (gj_mt 156) [(.int r3), (.int r5)] SI6 SJ6 _
    refine gj_Do.mono q4 (fun v_ SI8 SJ8 h_ => ?_)
    obtain ⟨r7, rfl, q5⟩ := h_
    show gj_Goes E om0 mt_172 34 [some (.ref 81), some (.int a1), some (.int a2), some (.int a3)] [(.int r7), (.long (a2).toInt64)] SI8 SJ8 (QI Q)
    refine gj_goq gj_clT ok_172 [10, 24, 31, 34, 40, 47, 50, 54, 64, 71, 74, 80, 87, 90, 94] ?_
    show gj_Do E om0 (gj_mt 163) [(.ref 81), (.int a1)] SI8 SJ8 _
    refine gj_Do.mono q5 (fun v_ SI10 SJ10 h_ => ?_)
    obtain ⟨r9, rfl, q6⟩ := h_
    show gj_Goes E om0 mt_172 40 [some (.ref 81), some (.int a1), some (.int a2), some (.int a3)] [(.int r9), (.long (r7).toInt64), (.long (a2).toInt64)] SI10 SJ10 (QI Q)
    refine gj_goq gj_clT ok_172 [10, 24, 31, 34, 40, 47, 50, 54, 64, 71, 74, 80, 87, 90, 94] ?_
    show gj_Do E om0 (gj_mt 163) [(.ref 81), (.int (a1 + (i3 1)))] SI10 SJ10 _
    refine gj_Do.mono q6 (fun v_ SI12 SJ12 h_ => ?_)
    obtain ⟨r11, rfl, q7⟩ := h_
    show gj_Goes E om0 mt_172 47 [some (.ref 81), some (.int a1), some (.int a2), some (.int a3)] [(.int r11), (.int r9), (.long (r7).toInt64), (.long (a2).toInt64)] SI12 SJ12 (QI Q)
    refine gj_goq gj_clT ok_172 [10, 24, 31, 34, 40, 47, 50, 54, 64, 71, 74, 80, 87, 90, 94] ?_
    show gj_Do E om0 (gj_mt 157) [(.int r9), (.int r11)] SI12 SJ12 _
    refine gj_Do.mono q7 (fun v_ SI14 SJ14 h_ => ?_)
    obtain ⟨r13, rfl, q8⟩ := h_
    show gj_Goes E om0 mt_172 50 [some (.ref 81), some (.int a1), some (.int a2), some (.int a3)] [(.int r13), (.long (r7).toInt64), (.long (a2).toInt64)] SI14 SJ14 (QI Q)
    refine gj_goq gj_clT ok_172 [10, 24, 31, 34, 40, 47, 50, 54, 64, 71, 74, 80, 87, 90, 94] ?_
    show gj_Do E om0 (gj_mt 155) [(.long (a2).toInt64), (.long (r7).toInt64), (.long (r13).toInt64)] SI14 SJ14 _
    refine gj_Do.mono q8 (fun v_ SI16 SJ16 h_ => ?_)
    obtain ⟨r15, rfl, q9⟩ := h_
    show gj_Goes E om0 mt_172 54 [some (.ref 81), some (.int a1), some (.int a2), some (.int a3)] [(.int r15)] SI16 SJ16 (QI Q)
    refine gj_goq gj_clT ok_172 [10, 24, 31, 34, 40, 47, 50, 54, 64, 71, 74, 80, 87, 90, 94] ?_
    show (r15 = 0 → gj_Goes E om0 mt_172 101 [some (.ref 81), some (.int a1), some (.int a2), some (.int a3)] [] SI16 SJ16 (QI Q)) ∧ (¬ r15 = 0 → gj_Do E om0 (gj_mt 164) [(.ref 81), (.int a1)] SI16 SJ16 _)
    refine ⟨fun c10 => ?_, fun c10 => ?_⟩
    · refine gj_goq gj_clT ok_172 [10, 24, 31, 34, 40, 47, 50, 54, 64, 71, 74, 80, 87, 90, 94] ?_
      show ((i3 0) = 0 ∨ (i3 0) = 1) ∧ (QI Q (some (.int (i3 0))) SI16 SJ16)
      refine ⟨(Or.inl rfl), ?_⟩
      exact ⟨_, rfl, (q9.1 c10)⟩
    · refine gj_Do.mono (q9.2 c10) (fun v_ SI18 SJ18 h_ => ?_)
      obtain ⟨r17, rfl, q11⟩ := h_
      show gj_Goes E om0 mt_172 64 [some (.ref 81), some (.int a1), some (.int a2), some (.int a3)] [(.int r17), (.long (a3).toInt64)] SI18 SJ18 (QI Q)
      refine gj_goq gj_clT ok_172 [10, 24, 31, 34, 40, 47, 50, 54, 64, 71, 74, 80, 87, 90, 94] ?_
      show gj_Do E om0 (gj_mt 164) [(.ref 81), (.int (a1 + (i3 1)))] SI18 SJ18 _
      refine gj_Do.mono q11 (fun v_ SI20 SJ20 h_ => ?_)
      obtain ⟨r19, rfl, q12⟩ := h_
      show gj_Goes E om0 mt_172 71 [some (.ref 81), some (.int a1), some (.int a2), some (.int a3)] [(.int r19), (.int r17), (.long (a3).toInt64)] SI20 SJ20 (QI Q)
      refine gj_goq gj_clT ok_172 [10, 24, 31, 34, 40, 47, 50, 54, 64, 71, 74, 80, 87, 90, 94] ?_
      show gj_Do E om0 (gj_mt 156) [(.int r17), (.int r19)] SI20 SJ20 _
      refine gj_Do.mono q12 (fun v_ SI22 SJ22 h_ => ?_)
      obtain ⟨r21, rfl, q13⟩ := h_
      show gj_Goes E om0 mt_172 74 [some (.ref 81), some (.int a1), some (.int a2), some (.int a3)] [(.int r21), (.long (a3).toInt64)] SI22 SJ22 (QI Q)
      refine gj_goq gj_clT ok_172 [10, 24, 31, 34, 40, 47, 50, 54, 64, 71, 74, 80, 87, 90, 94] ?_
      show gj_Do E om0 (gj_mt 164) [(.ref 81), (.int a1)] SI22 SJ22 _
      refine gj_Do.mono q13 (fun v_ SI24 SJ24 h_ => ?_)
      obtain ⟨r23, rfl, q14⟩ := h_
      show gj_Goes E om0 mt_172 80 [some (.ref 81), some (.int a1), some (.int a2), some (.int a3)] [(.int r23), (.long (r21).toInt64), (.long (a3).toInt64)] SI24 SJ24 (QI Q)
      refine gj_goq gj_clT ok_172 [10, 24, 31, 34, 40, 47, 50, 54, 64, 71, 74, 80, 87, 90, 94] ?_
      show gj_Do E om0 (gj_mt 164) [(.ref 81), (.int (a1 + (i3 1)))] SI24 SJ24 _
      refine gj_Do.mono q14 (fun v_ SI26 SJ26 h_ => ?_)
      obtain ⟨r25, rfl, q15⟩ := h_
      show gj_Goes E om0 mt_172 87 [some (.ref 81), some (.int a1), some (.int a2), some (.int a3)] [(.int r25), (.int r23), (.long (r21).toInt64), (.long (a3).toInt64)] SI26 SJ26 (QI Q)
      refine gj_goq gj_clT ok_172 [10, 24, 31, 34, 40, 47, 50, 54, 64, 71, 74, 80, 87, 90, 94] ?_
      show gj_Do E om0 (gj_mt 157) [(.int r23), (.int r25)] SI26 SJ26 _
      refine gj_Do.mono q15 (fun v_ SI28 SJ28 h_ => ?_)
      obtain ⟨r27, rfl, q16⟩ := h_
      show gj_Goes E om0 mt_172 90 [some (.ref 81), some (.int a1), some (.int a2), some (.int a3)] [(.int r27), (.long (r21).toInt64), (.long (a3).toInt64)] SI28 SJ28 (QI Q)
      refine gj_goq gj_clT ok_172 [10, 24, 31, 34, 40, 47, 50, 54, 64, 71, 74, 80, 87, 90, 94] ?_
      show gj_Do E om0 (gj_mt 155) [(.long (a3).toInt64), (.long (r21).toInt64), (.long (r27).toInt64)] SI28 SJ28 _
      refine gj_Do.mono q16 (fun v_ SI30 SJ30 h_ => ?_)
      obtain ⟨r29, rfl, q17⟩ := h_
      show gj_Goes E om0 mt_172 94 [some (.ref 81), some (.int a1), some (.int a2), some (.int a3)] [(.int r29)] SI30 SJ30 (QI Q)
      refine gj_goq gj_clT ok_172 [10, 24, 31, 34, 40, 47, 50, 54, 64, 71, 74, 80, 87, 90, 94] ?_
      show (r29 = 0 → gj_Goes E om0 mt_172 101 [some (.ref 81), some (.int a1), some (.int a2), some (.int a3)] [] SI30 SJ30 (QI Q)) ∧ (¬ r29 = 0 → gj_Goes E om0 mt_172 102 [some (.ref 81), some (.int a1), some (.int a2), some (.int a3)] [(.int (i3 1))] SI30 SJ30 (QI Q))
      refine ⟨fun c18 => ?_, fun c18 => ?_⟩
      · refine gj_goq gj_clT ok_172 [10, 24, 31, 34, 40, 47, 50, 54, 64, 71, 74, 80, 87, 90, 94] ?_
        show ((i3 0) = 0 ∨ (i3 0) = 1) ∧ (QI Q (some (.int (i3 0))) SI30 SJ30)
        refine ⟨(Or.inl rfl), ?_⟩
        exact ⟨_, rfl, (q17.1 c18)⟩
      · refine gj_goq gj_clT ok_172 [10, 24, 31, 34, 40, 47, 50, 54, 64, 71, 74, 80, 87, 90, 94] ?_
        show ((i3 1) = 0 ∨ (i3 1) = 1) ∧ (QI Q (some (.int (i3 1))) SI30 SJ30)
        refine ⟨(Or.inr rfl), ?_⟩
        exact ⟨_, rfl, (q17.2 c18)⟩
  · refine ⟨(Or.inl rfl), ?_⟩
    exact ⟨_, rfl, (q1.2 (fun z_ => c2 (lgc_eq.mpr z_)))⟩
set_option maxRecDepth 20000 in
/-- GraspJudgeModel.areMeeting -/
theorem st_173 {E : gj_E} {Q : Int32 → gj_I → gj_J → Prop} (a1 : Int32) (a2 : Int32) (SI : gj_I) (SJ : gj_J) (h : DoI E 163 [(.ref 81), (.int a2)] SI SJ (fun r1 SI2 SJ2 => DoI E 164 [(.ref 81), (.int a2)] SI2 SJ2 (fun r3 SI4 SJ4 => DoL E 170 [(.ref 81), (.int a1), (.int (a1 + (i3 1))), (.int r1), (.int r3)] SI4 SJ4 (fun r5 SI6 SJ6 => DoI E 171 [(.long r5)] SI6 SJ6 (fun r7 SI8 SJ8 => DoI E 163 [(.ref 81), (.int (a2 + (i3 1)))] SI8 SJ8 (fun r9 SI10 SJ10 => DoI E 164 [(.ref 81), (.int (a2 + (i3 1)))] SI10 SJ10 (fun r11 SI12 SJ12 => DoL E 170 [(.ref 81), (.int a1), (.int (a1 + (i3 1))), (.int r9), (.int r11)] SI12 SJ12 (fun r13 SI14 SJ14 => DoI E 171 [(.long r13)] SI14 SJ14 (fun r15 SI16 SJ16 => DoI E 163 [(.ref 81), (.int a1)] SI16 SJ16 (fun r17 SI18 SJ18 => DoI E 164 [(.ref 81), (.int a1)] SI18 SJ18 (fun r19 SI20 SJ20 => DoL E 170 [(.ref 81), (.int a2), (.int (a2 + (i3 1))), (.int r17), (.int r19)] SI20 SJ20 (fun r21 SI22 SJ22 => DoI E 171 [(.long r21)] SI22 SJ22 (fun r23 SI24 SJ24 => DoI E 163 [(.ref 81), (.int (a1 + (i3 1)))] SI24 SJ24 (fun r25 SI26 SJ26 => DoI E 164 [(.ref 81), (.int (a1 + (i3 1)))] SI26 SJ26 (fun r27 SI28 SJ28 => DoL E 170 [(.ref 81), (.int a2), (.int (a2 + (i3 1))), (.int r25), (.int r27)] SI28 SJ28 (fun r29 SI30 SJ30 => DoI E 171 [(.long r29)] SI30 SJ30 (fun r31 SI32 SJ32 => (0 ≤ (r7 * r15) → DoI E 163 [(.ref 81), (.int a2)] SI32 SJ32 (fun r33 SI34 SJ34 => DoI E 164 [(.ref 81), (.int a2)] SI34 SJ34 (fun r35 SI36 SJ36 => DoI E 172 [(.ref 81), (.int a1), (.int r33), (.int r35)] SI36 SJ36 (fun r37 SI38 SJ38 => (¬ r37 = 0 → Q (i3 1) SI38 SJ38) ∧ (r37 = 0 → DoI E 163 [(.ref 81), (.int (a2 + (i3 1)))] SI38 SJ38 (fun r39 SI40 SJ40 => DoI E 164 [(.ref 81), (.int (a2 + (i3 1)))] SI40 SJ40 (fun r41 SI42 SJ42 => DoI E 172 [(.ref 81), (.int a1), (.int r39), (.int r41)] SI42 SJ42 (fun r43 SI44 SJ44 => (¬ r43 = 0 → Q (i3 1) SI44 SJ44) ∧ (r43 = 0 → DoI E 163 [(.ref 81), (.int a1)] SI44 SJ44 (fun r45 SI46 SJ46 => DoI E 164 [(.ref 81), (.int a1)] SI46 SJ46 (fun r47 SI48 SJ48 => DoI E 172 [(.ref 81), (.int a2), (.int r45), (.int r47)] SI48 SJ48 (fun r49 SI50 SJ50 => (¬ r49 = 0 → Q (i3 1) SI50 SJ50) ∧ (r49 = 0 → DoI E 163 [(.ref 81), (.int (a1 + (i3 1)))] SI50 SJ50 (fun r51 SI52 SJ52 => DoI E 164 [(.ref 81), (.int (a1 + (i3 1)))] SI52 SJ52 (fun r53 SI54 SJ54 => DoI E 172 [(.ref 81), (.int a2), (.int r51), (.int r53)] SI54 SJ54 (fun r55 SI56 SJ56 => (r55 = 0 → Q (i3 0) SI56 SJ56) ∧ (¬ r55 = 0 → Q (i3 1) SI56 SJ56))))))))))))))))) ∧ (¬ 0 ≤ (r7 * r15) → (0 ≤ (r23 * r31) → DoI E 163 [(.ref 81), (.int a2)] SI32 SJ32 (fun r57 SI58 SJ58 => DoI E 164 [(.ref 81), (.int a2)] SI58 SJ58 (fun r59 SI60 SJ60 => DoI E 172 [(.ref 81), (.int a1), (.int r57), (.int r59)] SI60 SJ60 (fun r61 SI62 SJ62 => (¬ r61 = 0 → Q (i3 1) SI62 SJ62) ∧ (r61 = 0 → DoI E 163 [(.ref 81), (.int (a2 + (i3 1)))] SI62 SJ62 (fun r63 SI64 SJ64 => DoI E 164 [(.ref 81), (.int (a2 + (i3 1)))] SI64 SJ64 (fun r65 SI66 SJ66 => DoI E 172 [(.ref 81), (.int a1), (.int r63), (.int r65)] SI66 SJ66 (fun r67 SI68 SJ68 => (¬ r67 = 0 → Q (i3 1) SI68 SJ68) ∧ (r67 = 0 → DoI E 163 [(.ref 81), (.int a1)] SI68 SJ68 (fun r69 SI70 SJ70 => DoI E 164 [(.ref 81), (.int a1)] SI70 SJ70 (fun r71 SI72 SJ72 => DoI E 172 [(.ref 81), (.int a2), (.int r69), (.int r71)] SI72 SJ72 (fun r73 SI74 SJ74 => (¬ r73 = 0 → Q (i3 1) SI74 SJ74) ∧ (r73 = 0 → DoI E 163 [(.ref 81), (.int (a1 + (i3 1)))] SI74 SJ74 (fun r75 SI76 SJ76 => DoI E 164 [(.ref 81), (.int (a1 + (i3 1)))] SI76 SJ76 (fun r77 SI78 SJ78 => DoI E 172 [(.ref 81), (.int a2), (.int r75), (.int r77)] SI78 SJ78 (fun r79 SI80 SJ80 => (r79 = 0 → Q (i3 0) SI80 SJ80) ∧ (¬ r79 = 0 → Q (i3 1) SI80 SJ80))))))))))))))))) ∧ (¬ 0 ≤ (r23 * r31) → Q (i3 1) SI32 SJ32))))))))))))))))))) : DoI E 173 [(.ref 81), (.int a1), (.int a2)] SI SJ Q := by
  refine gj_start (M := mt_173) ok_173 (Nat.le_of_ble_eq_true rfl) ?_
  refine gj_goq gj_clT ok_173 [10, 15, 18, 21, 34, 41, 44, 47, 59, 64, 67, 70, 84, 91, 94, 97, 123, 128, 131, 143, 150, 153, 163, 168, 171, 183, 190, 193] ?_
  show gj_Do E om0 (gj_mt 163) [(.ref 81), (.int a2)] SI SJ _
  refine gj_Do.mono h (fun v_ SI2 SJ2 h_ => ?_)
  obtain ⟨r1, rfl, q1⟩ := h_
  show gj_Goes E om0 mt_173 10 [some (.ref 81), some (.int a1), some (.int a2), none, none, none, none] [(.int r1), (.int (a1 + (i3 1))), (.int a1), (.ref 81)] SI2 SJ2 (QI Q)
  refine gj_goq gj_clT ok_173 [10, 15, 18, 21, 34, 41, 44, 47, 59, 64, 67, 70, 84, 91, 94, 97, 123, 128, 131, 143, 150, 153, 163, 168, 171, 183, 190, 193] ?_
  show gj_Do E om0 (gj_mt 164) [(.ref 81), (.int a2)] SI2 SJ2 _
  refine gj_Do.mono q1 (fun v_ SI4 SJ4 h_ => ?_)
  obtain ⟨r3, rfl, q2⟩ := h_
  show gj_Goes E om0 mt_173 15 [some (.ref 81), some (.int a1), some (.int a2), none, none, none, none] [(.int r3), (.int r1), (.int (a1 + (i3 1))), (.int a1), (.ref 81)] SI4 SJ4 (QI Q)
  refine gj_goq gj_clT ok_173 [10, 15, 18, 21, 34, 41, 44, 47, 59, 64, 67, 70, 84, 91, 94, 97, 123, 128, 131, 143, 150, 153, 163, 168, 171, 183, 190, 193] ?_
  show gj_Do E om0 (gj_mt 170) [(.ref 81), (.int a1), (.int (a1 + (i3 1))), (.int r1), (.int r3)] SI4 SJ4 _
  refine gj_Do.mono q2 (fun v_ SI6 SJ6 h_ => ?_)
  obtain ⟨r5, rfl, q3⟩ := h_
  show gj_Goes E om0 mt_173 18 [some (.ref 81), some (.int a1), some (.int a2), none, none, none, none] [(.long r5)] SI6 SJ6 (QI Q)
  refine gj_goq gj_clT ok_173 [10, 15, 18, 21, 34, 41, 44, 47, 59, 64, 67, 70, 84, 91, 94, 97, 123, 128, 131, 143, 150, 153, 163, 168, 171, 183, 190, 193] ?_
  show gj_Do E om0 (gj_mt 171) [(.long r5)] SI6 SJ6 _
  refine gj_Do.mono q3 (fun v_ SI8 SJ8 h_ => ?_)
  obtain ⟨r7, rfl, q4⟩ := h_
  show gj_Goes E om0 mt_173 21 [some (.ref 81), some (.int a1), some (.int a2), none, none, none, none] [(.int r7)] SI8 SJ8 (QI Q)
  refine gj_goq gj_clT ok_173 [10, 15, 18, 21, 34, 41, 44, 47, 59, 64, 67, 70, 84, 91, 94, 97, 123, 128, 131, 143, 150, 153, 163, 168, 171, 183, 190, 193] ?_
  show gj_Do E om0 (gj_mt 163) [(.ref 81), (.int (a2 + (i3 1)))] SI8 SJ8 _
  refine gj_Do.mono q4 (fun v_ SI10 SJ10 h_ => ?_)
  obtain ⟨r9, rfl, q5⟩ := h_
  show gj_Goes E om0 mt_173 34 [some (.ref 81), some (.int a1), some (.int a2), some (.int r7), none, none, none] [(.int r9), (.int (a1 + (i3 1))), (.int a1), (.ref 81)] SI10 SJ10 (QI Q)
  refine gj_goq gj_clT ok_173 [10, 15, 18, 21, 34, 41, 44, 47, 59, 64, 67, 70, 84, 91, 94, 97, 123, 128, 131, 143, 150, 153, 163, 168, 171, 183, 190, 193] ?_
  show gj_Do E om0 (gj_mt 164) [(.ref 81), (.int (a2 + (i3 1)))] SI10 SJ10 _
  refine gj_Do.mono q5 (fun v_ SI12 SJ12 h_ => ?_)
  obtain ⟨r11, rfl, q6⟩ := h_
  show gj_Goes E om0 mt_173 41 [some (.ref 81), some (.int a1), some (.int a2), some (.int r7), none, none, none] [(.int r11), (.int r9), (.int (a1 + (i3 1))), (.int a1), (.ref 81)] SI12 SJ12 (QI Q)
  refine gj_goq gj_clT ok_173 [10, 15, 18, 21, 34, 41, 44, 47, 59, 64, 67, 70, 84, 91, 94, 97, 123, 128, 131, 143, 150, 153, 163, 168, 171, 183, 190, 193] ?_
  show gj_Do E om0 (gj_mt 170) [(.ref 81), (.int a1), (.int (a1 + (i3 1))), (.int r9), (.int r11)] SI12 SJ12 _
  refine gj_Do.mono q6 (fun v_ SI14 SJ14 h_ => ?_)
  obtain ⟨r13, rfl, q7⟩ := h_
  show gj_Goes E om0 mt_173 44 [some (.ref 81), some (.int a1), some (.int a2), some (.int r7), none, none, none] [(.long r13)] SI14 SJ14 (QI Q)
  refine gj_goq gj_clT ok_173 [10, 15, 18, 21, 34, 41, 44, 47, 59, 64, 67, 70, 84, 91, 94, 97, 123, 128, 131, 143, 150, 153, 163, 168, 171, 183, 190, 193] ?_
  show gj_Do E om0 (gj_mt 171) [(.long r13)] SI14 SJ14 _
  refine gj_Do.mono q7 (fun v_ SI16 SJ16 h_ => ?_)
  obtain ⟨r15, rfl, q8⟩ := h_
  show gj_Goes E om0 mt_173 47 [some (.ref 81), some (.int a1), some (.int a2), some (.int r7), none, none, none] [(.int r15)] SI16 SJ16 (QI Q)
  refine gj_goq gj_clT ok_173 [10, 15, 18, 21, 34, 41, 44, 47, 59, 64, 67, 70, 84, 91, 94, 97, 123, 128, 131, 143, 150, 153, 163, 168, 171, 183, 190, 193] ?_
  show gj_Do E om0 (gj_mt 163) [(.ref 81), (.int a1)] SI16 SJ16 _
  refine gj_Do.mono q8 (fun v_ SI18 SJ18 h_ => ?_)
  obtain ⟨r17, rfl, q9⟩ := h_
  show gj_Goes E om0 mt_173 59 [some (.ref 81), some (.int a1), some (.int a2), some (.int r7), some (.int r15), none, none] [(.int r17), (.int (a2 + (i3 1))), (.int a2), (.ref 81)] SI18 SJ18 (QI Q)
  refine gj_goq gj_clT ok_173 [10, 15, 18, 21, 34, 41, 44, 47, 59, 64, 67, 70, 84, 91, 94, 97, 123, 128, 131, 143, 150, 153, 163, 168, 171, 183, 190, 193] ?_
  show gj_Do E om0 (gj_mt 164) [(.ref 81), (.int a1)] SI18 SJ18 _
  refine gj_Do.mono q9 (fun v_ SI20 SJ20 h_ => ?_)
  obtain ⟨r19, rfl, q10⟩ := h_
  show gj_Goes E om0 mt_173 64 [some (.ref 81), some (.int a1), some (.int a2), some (.int r7), some (.int r15), none, none] [(.int r19), (.int r17), (.int (a2 + (i3 1))), (.int a2), (.ref 81)] SI20 SJ20 (QI Q)
  refine gj_goq gj_clT ok_173 [10, 15, 18, 21, 34, 41, 44, 47, 59, 64, 67, 70, 84, 91, 94, 97, 123, 128, 131, 143, 150, 153, 163, 168, 171, 183, 190, 193] ?_
  show gj_Do E om0 (gj_mt 170) [(.ref 81), (.int a2), (.int (a2 + (i3 1))), (.int r17), (.int r19)] SI20 SJ20 _
  refine gj_Do.mono q10 (fun v_ SI22 SJ22 h_ => ?_)
  obtain ⟨r21, rfl, q11⟩ := h_
  show gj_Goes E om0 mt_173 67 [some (.ref 81), some (.int a1), some (.int a2), some (.int r7), some (.int r15), none, none] [(.long r21)] SI22 SJ22 (QI Q)
  refine gj_goq gj_clT ok_173 [10, 15, 18, 21, 34, 41, 44, 47, 59, 64, 67, 70, 84, 91, 94, 97, 123, 128, 131, 143, 150, 153, 163, 168, 171, 183, 190, 193] ?_
  show gj_Do E om0 (gj_mt 171) [(.long r21)] SI22 SJ22 _
  refine gj_Do.mono q11 (fun v_ SI24 SJ24 h_ => ?_)
  obtain ⟨r23, rfl, q12⟩ := h_
  show gj_Goes E om0 mt_173 70 [some (.ref 81), some (.int a1), some (.int a2), some (.int r7), some (.int r15), none, none] [(.int r23)] SI24 SJ24 (QI Q)
  refine gj_goq gj_clT ok_173 [10, 15, 18, 21, 34, 41, 44, 47, 59, 64, 67, 70, 84, 91, 94, 97, 123, 128, 131, 143, 150, 153, 163, 168, 171, 183, 190, 193] ?_
  show gj_Do E om0 (gj_mt 163) [(.ref 81), (.int (a1 + (i3 1)))] SI24 SJ24 _
  refine gj_Do.mono q12 (fun v_ SI26 SJ26 h_ => ?_)
  obtain ⟨r25, rfl, q13⟩ := h_
  show gj_Goes E om0 mt_173 84 [some (.ref 81), some (.int a1), some (.int a2), some (.int r7), some (.int r15), some (.int r23), none] [(.int r25), (.int (a2 + (i3 1))), (.int a2), (.ref 81)] SI26 SJ26 (QI Q)
  refine gj_goq gj_clT ok_173 [10, 15, 18, 21, 34, 41, 44, 47, 59, 64, 67, 70, 84, 91, 94, 97, 123, 128, 131, 143, 150, 153, 163, 168, 171, 183, 190, 193] ?_
  show gj_Do E om0 (gj_mt 164) [(.ref 81), (.int (a1 + (i3 1)))] SI26 SJ26 _
  refine gj_Do.mono q13 (fun v_ SI28 SJ28 h_ => ?_)
  obtain ⟨r27, rfl, q14⟩ := h_
  show gj_Goes E om0 mt_173 91 [some (.ref 81), some (.int a1), some (.int a2), some (.int r7), some (.int r15), some (.int r23), none] [(.int r27), (.int r25), (.int (a2 + (i3 1))), (.int a2), (.ref 81)] SI28 SJ28 (QI Q)
  refine gj_goq gj_clT ok_173 [10, 15, 18, 21, 34, 41, 44, 47, 59, 64, 67, 70, 84, 91, 94, 97, 123, 128, 131, 143, 150, 153, 163, 168, 171, 183, 190, 193] ?_
  show gj_Do E om0 (gj_mt 170) [(.ref 81), (.int a2), (.int (a2 + (i3 1))), (.int r25), (.int r27)] SI28 SJ28 _
  refine gj_Do.mono q14 (fun v_ SI30 SJ30 h_ => ?_)
  obtain ⟨r29, rfl, q15⟩ := h_
  show gj_Goes E om0 mt_173 94 [some (.ref 81), some (.int a1), some (.int a2), some (.int r7), some (.int r15), some (.int r23), none] [(.long r29)] SI30 SJ30 (QI Q)
  refine gj_goq gj_clT ok_173 [10, 15, 18, 21, 34, 41, 44, 47, 59, 64, 67, 70, 84, 91, 94, 97, 123, 128, 131, 143, 150, 153, 163, 168, 171, 183, 190, 193] ?_
  show gj_Do E om0 (gj_mt 171) [(.long r29)] SI30 SJ30 _
  refine gj_Do.mono q15 (fun v_ SI32 SJ32 h_ => ?_)
  obtain ⟨r31, rfl, q16⟩ := h_
  show gj_Goes E om0 mt_173 97 [some (.ref 81), some (.int a1), some (.int a2), some (.int r7), some (.int r15), some (.int r23), none] [(.int r31)] SI32 SJ32 (QI Q)
  refine gj_goq gj_clT ok_173 [10, 15, 18, 21, 34, 41, 44, 47, 59, 64, 67, 70, 84, 91, 94, 97, 123, 128, 131, 143, 150, 153, 163, 168, 171, 183, 190, 193] ?_
  show (0 ≤ (r7 * r15) → gj_Goes E om0 mt_173 116 [some (.ref 81), some (.int a1), some (.int a2), some (.int r7), some (.int r15), some (.int r23), some (.int r31)] [] SI32 SJ32 (QI Q)) ∧ (¬ 0 ≤ (r7 * r15) → (0 ≤ (r23 * r31) → gj_Goes E om0 mt_173 116 [some (.ref 81), some (.int a1), some (.int a2), some (.int r7), some (.int r15), some (.int r23), some (.int r31)] [] SI32 SJ32 (QI Q)) ∧ (¬ 0 ≤ (r23 * r31) → ((i3 1) = 0 ∨ (i3 1) = 1) ∧ (QI Q (some (.int (i3 1))) SI32 SJ32)))
  refine ⟨fun c17 => ?_, fun c17 => ?_⟩
  · refine gj_goq gj_clT ok_173 [10, 15, 18, 21, 34, 41, 44, 47, 59, 64, 67, 70, 84, 91, 94, 97, 123, 128, 131, 143, 150, 153, 163, 168, 171, 183, 190, 193] ?_
    show gj_Do E om0 (gj_mt 163) [(.ref 81), (.int a2)] SI32 SJ32 _
    refine gj_Do.mono (q16.1 c17) (fun v_ SI34 SJ34 h_ => ?_)
    obtain ⟨r33, rfl, q18⟩ := h_
    show gj_Goes E om0 mt_173 123 [some (.ref 81), some (.int a1), some (.int a2), some (.int r7), some (.int r15), some (.int r23), some (.int r31)] [(.int r33), (.int a1), (.ref 81)] SI34 SJ34 (QI Q)
    refine gj_goq gj_clT ok_173 [10, 15, 18, 21, 34, 41, 44, 47, 59, 64, 67, 70, 84, 91, 94, 97, 123, 128, 131, 143, 150, 153, 163, 168, 171, 183, 190, 193] ?_
    show gj_Do E om0 (gj_mt 164) [(.ref 81), (.int a2)] SI34 SJ34 _
    refine gj_Do.mono q18 (fun v_ SI36 SJ36 h_ => ?_)
    obtain ⟨r35, rfl, q19⟩ := h_
    show gj_Goes E om0 mt_173 128 [some (.ref 81), some (.int a1), some (.int a2), some (.int r7), some (.int r15), some (.int r23), some (.int r31)] [(.int r35), (.int r33), (.int a1), (.ref 81)] SI36 SJ36 (QI Q)
    refine gj_goq gj_clT ok_173 [10, 15, 18, 21, 34, 41, 44, 47, 59, 64, 67, 70, 84, 91, 94, 97, 123, 128, 131, 143, 150, 153, 163, 168, 171, 183, 190, 193] ?_
    show gj_Do E om0 (gj_mt 172) [(.ref 81), (.int a1), (.int r33), (.int r35)] SI36 SJ36 _
    refine gj_Do.mono q19 (fun v_ SI38 SJ38 h_ => ?_)
    obtain ⟨r37, rfl, q20⟩ := h_
    show gj_Goes E om0 mt_173 131 [some (.ref 81), some (.int a1), some (.int a2), some (.int r7), some (.int r15), some (.int r23), some (.int r31)] [(.int r37)] SI38 SJ38 (QI Q)
    refine gj_goq gj_clT ok_173 [10, 15, 18, 21, 34, 41, 44, 47, 59, 64, 67, 70, 84, 91, 94, 97, 123, 128, 131, 143, 150, 153, 163, 168, 171, 183, 190, 193] ?_
    show (¬ r37 = 0 → gj_Goes E om0 mt_173 196 [some (.ref 81), some (.int a1), some (.int a2), some (.int r7), some (.int r15), some (.int r23), some (.int r31)] [] SI38 SJ38 (QI Q)) ∧ (r37 = 0 → gj_Do E om0 (gj_mt 163) [(.ref 81), (.int (a2 + (i3 1)))] SI38 SJ38 _)
    refine ⟨fun c21 => ?_, fun c21 => ?_⟩
    · refine gj_goq gj_clT ok_173 [10, 15, 18, 21, 34, 41, 44, 47, 59, 64, 67, 70, 84, 91, 94, 97, 123, 128, 131, 143, 150, 153, 163, 168, 171, 183, 190, 193] ?_
      show gj_Goes E om0 mt_173 201 [some (.ref 81), some (.int a1), some (.int a2), some (.int r7), some (.int r15), some (.int r23), some (.int r31)] [(.int (i3 1))] SI38 SJ38 (QI Q)
      refine gj_goq gj_clT ok_173 [10, 15, 18, 21, 34, 41, 44, 47, 59, 64, 67, 70, 84, 91, 94, 97, 123, 128, 131, 143, 150, 153, 163, 168, 171, 183, 190, 193] ?_
      show ((i3 1) = 0 ∨ (i3 1) = 1) ∧ (QI Q (some (.int (i3 1))) SI38 SJ38)
      refine ⟨(Or.inr rfl), ?_⟩
      exact ⟨_, rfl, (q20.1 c21)⟩
    · refine gj_Do.mono (q20.2 c21) (fun v_ SI40 SJ40 h_ => ?_)
      obtain ⟨r39, rfl, q22⟩ := h_
      show gj_Goes E om0 mt_173 143 [some (.ref 81), some (.int a1), some (.int a2), some (.int r7), some (.int r15), some (.int r23), some (.int r31)] [(.int r39), (.int a1), (.ref 81)] SI40 SJ40 (QI Q)
      refine gj_goq gj_clT ok_173 [10, 15, 18, 21, 34, 41, 44, 47, 59, 64, 67, 70, 84, 91, 94, 97, 123, 128, 131, 143, 150, 153, 163, 168, 171, 183, 190, 193] ?_
      show gj_Do E om0 (gj_mt 164) [(.ref 81), (.int (a2 + (i3 1)))] SI40 SJ40 _
      refine gj_Do.mono q22 (fun v_ SI42 SJ42 h_ => ?_)
      obtain ⟨r41, rfl, q23⟩ := h_
      show gj_Goes E om0 mt_173 150 [some (.ref 81), some (.int a1), some (.int a2), some (.int r7), some (.int r15), some (.int r23), some (.int r31)] [(.int r41), (.int r39), (.int a1), (.ref 81)] SI42 SJ42 (QI Q)
      refine gj_goq gj_clT ok_173 [10, 15, 18, 21, 34, 41, 44, 47, 59, 64, 67, 70, 84, 91, 94, 97, 123, 128, 131, 143, 150, 153, 163, 168, 171, 183, 190, 193] ?_
      show gj_Do E om0 (gj_mt 172) [(.ref 81), (.int a1), (.int r39), (.int r41)] SI42 SJ42 _
      refine gj_Do.mono q23 (fun v_ SI44 SJ44 h_ => ?_)
      obtain ⟨r43, rfl, q24⟩ := h_
      show gj_Goes E om0 mt_173 153 [some (.ref 81), some (.int a1), some (.int a2), some (.int r7), some (.int r15), some (.int r23), some (.int r31)] [(.int r43)] SI44 SJ44 (QI Q)
      refine gj_goq gj_clT ok_173 [10, 15, 18, 21, 34, 41, 44, 47, 59, 64, 67, 70, 84, 91, 94, 97, 123, 128, 131, 143, 150, 153, 163, 168, 171, 183, 190, 193] ?_
      show (¬ r43 = 0 → gj_Goes E om0 mt_173 196 [some (.ref 81), some (.int a1), some (.int a2), some (.int r7), some (.int r15), some (.int r23), some (.int r31)] [] SI44 SJ44 (QI Q)) ∧ (r43 = 0 → gj_Do E om0 (gj_mt 163) [(.ref 81), (.int a1)] SI44 SJ44 _)
      refine ⟨fun c25 => ?_, fun c25 => ?_⟩
      · refine gj_goq gj_clT ok_173 [10, 15, 18, 21, 34, 41, 44, 47, 59, 64, 67, 70, 84, 91, 94, 97, 123, 128, 131, 143, 150, 153, 163, 168, 171, 183, 190, 193] ?_
        show gj_Goes E om0 mt_173 201 [some (.ref 81), some (.int a1), some (.int a2), some (.int r7), some (.int r15), some (.int r23), some (.int r31)] [(.int (i3 1))] SI44 SJ44 (QI Q)
        refine gj_goq gj_clT ok_173 [10, 15, 18, 21, 34, 41, 44, 47, 59, 64, 67, 70, 84, 91, 94, 97, 123, 128, 131, 143, 150, 153, 163, 168, 171, 183, 190, 193] ?_
        show ((i3 1) = 0 ∨ (i3 1) = 1) ∧ (QI Q (some (.int (i3 1))) SI44 SJ44)
        refine ⟨(Or.inr rfl), ?_⟩
        exact ⟨_, rfl, (q24.1 c25)⟩
      · refine gj_Do.mono (q24.2 c25) (fun v_ SI46 SJ46 h_ => ?_)
        obtain ⟨r45, rfl, q26⟩ := h_
        show gj_Goes E om0 mt_173 163 [some (.ref 81), some (.int a1), some (.int a2), some (.int r7), some (.int r15), some (.int r23), some (.int r31)] [(.int r45), (.int a2), (.ref 81)] SI46 SJ46 (QI Q)
        refine gj_goq gj_clT ok_173 [10, 15, 18, 21, 34, 41, 44, 47, 59, 64, 67, 70, 84, 91, 94, 97, 123, 128, 131, 143, 150, 153, 163, 168, 171, 183, 190, 193] ?_
        show gj_Do E om0 (gj_mt 164) [(.ref 81), (.int a1)] SI46 SJ46 _
        refine gj_Do.mono q26 (fun v_ SI48 SJ48 h_ => ?_)
        obtain ⟨r47, rfl, q27⟩ := h_
        show gj_Goes E om0 mt_173 168 [some (.ref 81), some (.int a1), some (.int a2), some (.int r7), some (.int r15), some (.int r23), some (.int r31)] [(.int r47), (.int r45), (.int a2), (.ref 81)] SI48 SJ48 (QI Q)
        refine gj_goq gj_clT ok_173 [10, 15, 18, 21, 34, 41, 44, 47, 59, 64, 67, 70, 84, 91, 94, 97, 123, 128, 131, 143, 150, 153, 163, 168, 171, 183, 190, 193] ?_
        show gj_Do E om0 (gj_mt 172) [(.ref 81), (.int a2), (.int r45), (.int r47)] SI48 SJ48 _
        refine gj_Do.mono q27 (fun v_ SI50 SJ50 h_ => ?_)
        obtain ⟨r49, rfl, q28⟩ := h_
        show gj_Goes E om0 mt_173 171 [some (.ref 81), some (.int a1), some (.int a2), some (.int r7), some (.int r15), some (.int r23), some (.int r31)] [(.int r49)] SI50 SJ50 (QI Q)
        refine gj_goq gj_clT ok_173 [10, 15, 18, 21, 34, 41, 44, 47, 59, 64, 67, 70, 84, 91, 94, 97, 123, 128, 131, 143, 150, 153, 163, 168, 171, 183, 190, 193] ?_
        show (¬ r49 = 0 → gj_Goes E om0 mt_173 196 [some (.ref 81), some (.int a1), some (.int a2), some (.int r7), some (.int r15), some (.int r23), some (.int r31)] [] SI50 SJ50 (QI Q)) ∧ (r49 = 0 → gj_Do E om0 (gj_mt 163) [(.ref 81), (.int (a1 + (i3 1)))] SI50 SJ50 _)
        refine ⟨fun c29 => ?_, fun c29 => ?_⟩
        · refine gj_goq gj_clT ok_173 [10, 15, 18, 21, 34, 41, 44, 47, 59, 64, 67, 70, 84, 91, 94, 97, 123, 128, 131, 143, 150, 153, 163, 168, 171, 183, 190, 193] ?_
          show gj_Goes E om0 mt_173 201 [some (.ref 81), some (.int a1), some (.int a2), some (.int r7), some (.int r15), some (.int r23), some (.int r31)] [(.int (i3 1))] SI50 SJ50 (QI Q)
          refine gj_goq gj_clT ok_173 [10, 15, 18, 21, 34, 41, 44, 47, 59, 64, 67, 70, 84, 91, 94, 97, 123, 128, 131, 143, 150, 153, 163, 168, 171, 183, 190, 193] ?_
          show ((i3 1) = 0 ∨ (i3 1) = 1) ∧ (QI Q (some (.int (i3 1))) SI50 SJ50)
          refine ⟨(Or.inr rfl), ?_⟩
          exact ⟨_, rfl, (q28.1 c29)⟩
        · refine gj_Do.mono (q28.2 c29) (fun v_ SI52 SJ52 h_ => ?_)
          obtain ⟨r51, rfl, q30⟩ := h_
          show gj_Goes E om0 mt_173 183 [some (.ref 81), some (.int a1), some (.int a2), some (.int r7), some (.int r15), some (.int r23), some (.int r31)] [(.int r51), (.int a2), (.ref 81)] SI52 SJ52 (QI Q)
          refine gj_goq gj_clT ok_173 [10, 15, 18, 21, 34, 41, 44, 47, 59, 64, 67, 70, 84, 91, 94, 97, 123, 128, 131, 143, 150, 153, 163, 168, 171, 183, 190, 193] ?_
          show gj_Do E om0 (gj_mt 164) [(.ref 81), (.int (a1 + (i3 1)))] SI52 SJ52 _
          refine gj_Do.mono q30 (fun v_ SI54 SJ54 h_ => ?_)
          obtain ⟨r53, rfl, q31⟩ := h_
          show gj_Goes E om0 mt_173 190 [some (.ref 81), some (.int a1), some (.int a2), some (.int r7), some (.int r15), some (.int r23), some (.int r31)] [(.int r53), (.int r51), (.int a2), (.ref 81)] SI54 SJ54 (QI Q)
          refine gj_goq gj_clT ok_173 [10, 15, 18, 21, 34, 41, 44, 47, 59, 64, 67, 70, 84, 91, 94, 97, 123, 128, 131, 143, 150, 153, 163, 168, 171, 183, 190, 193] ?_
          show gj_Do E om0 (gj_mt 172) [(.ref 81), (.int a2), (.int r51), (.int r53)] SI54 SJ54 _
          refine gj_Do.mono q31 (fun v_ SI56 SJ56 h_ => ?_)
          obtain ⟨r55, rfl, q32⟩ := h_
          show gj_Goes E om0 mt_173 193 [some (.ref 81), some (.int a1), some (.int a2), some (.int r7), some (.int r15), some (.int r23), some (.int r31)] [(.int r55)] SI56 SJ56 (QI Q)
          refine gj_goq gj_clT ok_173 [10, 15, 18, 21, 34, 41, 44, 47, 59, 64, 67, 70, 84, 91, 94, 97, 123, 128, 131, 143, 150, 153, 163, 168, 171, 183, 190, 193] ?_
          show (r55 = 0 → gj_Goes E om0 mt_173 200 [some (.ref 81), some (.int a1), some (.int a2), some (.int r7), some (.int r15), some (.int r23), some (.int r31)] [] SI56 SJ56 (QI Q)) ∧ (¬ r55 = 0 → gj_Goes E om0 mt_173 201 [some (.ref 81), some (.int a1), some (.int a2), some (.int r7), some (.int r15), some (.int r23), some (.int r31)] [(.int (i3 1))] SI56 SJ56 (QI Q))
          refine ⟨fun c33 => ?_, fun c33 => ?_⟩
          · refine gj_goq gj_clT ok_173 [10, 15, 18, 21, 34, 41, 44, 47, 59, 64, 67, 70, 84, 91, 94, 97, 123, 128, 131, 143, 150, 153, 163, 168, 171, 183, 190, 193] ?_
            show ((i3 0) = 0 ∨ (i3 0) = 1) ∧ (QI Q (some (.int (i3 0))) SI56 SJ56)
            refine ⟨(Or.inl rfl), ?_⟩
            exact ⟨_, rfl, (q32.1 c33)⟩
          · refine gj_goq gj_clT ok_173 [10, 15, 18, 21, 34, 41, 44, 47, 59, 64, 67, 70, 84, 91, 94, 97, 123, 128, 131, 143, 150, 153, 163, 168, 171, 183, 190, 193] ?_
            show ((i3 1) = 0 ∨ (i3 1) = 1) ∧ (QI Q (some (.int (i3 1))) SI56 SJ56)
            refine ⟨(Or.inr rfl), ?_⟩
            exact ⟨_, rfl, (q32.2 c33)⟩
  · refine ⟨fun c34 => ?_, fun c34 => ?_⟩
    · refine gj_goq gj_clT ok_173 [10, 15, 18, 21, 34, 41, 44, 47, 59, 64, 67, 70, 84, 91, 94, 97, 123, 128, 131, 143, 150, 153, 163, 168, 171, 183, 190, 193] ?_
      show gj_Do E om0 (gj_mt 163) [(.ref 81), (.int a2)] SI32 SJ32 _
      refine gj_Do.mono ((q16.2 c17).1 c34) (fun v_ SI58 SJ58 h_ => ?_)
      obtain ⟨r57, rfl, q35⟩ := h_
      show gj_Goes E om0 mt_173 123 [some (.ref 81), some (.int a1), some (.int a2), some (.int r7), some (.int r15), some (.int r23), some (.int r31)] [(.int r57), (.int a1), (.ref 81)] SI58 SJ58 (QI Q)
      refine gj_goq gj_clT ok_173 [10, 15, 18, 21, 34, 41, 44, 47, 59, 64, 67, 70, 84, 91, 94, 97, 123, 128, 131, 143, 150, 153, 163, 168, 171, 183, 190, 193] ?_
      show gj_Do E om0 (gj_mt 164) [(.ref 81), (.int a2)] SI58 SJ58 _
      refine gj_Do.mono q35 (fun v_ SI60 SJ60 h_ => ?_)
      obtain ⟨r59, rfl, q36⟩ := h_
      show gj_Goes E om0 mt_173 128 [some (.ref 81), some (.int a1), some (.int a2), some (.int r7), some (.int r15), some (.int r23), some (.int r31)] [(.int r59), (.int r57), (.int a1), (.ref 81)] SI60 SJ60 (QI Q)
      refine gj_goq gj_clT ok_173 [10, 15, 18, 21, 34, 41, 44, 47, 59, 64, 67, 70, 84, 91, 94, 97, 123, 128, 131, 143, 150, 153, 163, 168, 171, 183, 190, 193] ?_
      show gj_Do E om0 (gj_mt 172) [(.ref 81), (.int a1), (.int r57), (.int r59)] SI60 SJ60 _
      refine gj_Do.mono q36 (fun v_ SI62 SJ62 h_ => ?_)
      obtain ⟨r61, rfl, q37⟩ := h_
      show gj_Goes E om0 mt_173 131 [some (.ref 81), some (.int a1), some (.int a2), some (.int r7), some (.int r15), some (.int r23), some (.int r31)] [(.int r61)] SI62 SJ62 (QI Q)
      refine gj_goq gj_clT ok_173 [10, 15, 18, 21, 34, 41, 44, 47, 59, 64, 67, 70, 84, 91, 94, 97, 123, 128, 131, 143, 150, 153, 163, 168, 171, 183, 190, 193] ?_
      show (¬ r61 = 0 → gj_Goes E om0 mt_173 196 [some (.ref 81), some (.int a1), some (.int a2), some (.int r7), some (.int r15), some (.int r23), some (.int r31)] [] SI62 SJ62 (QI Q)) ∧ (r61 = 0 → gj_Do E om0 (gj_mt 163) [(.ref 81), (.int (a2 + (i3 1)))] SI62 SJ62 _)
      refine ⟨fun c38 => ?_, fun c38 => ?_⟩
      · refine gj_goq gj_clT ok_173 [10, 15, 18, 21, 34, 41, 44, 47, 59, 64, 67, 70, 84, 91, 94, 97, 123, 128, 131, 143, 150, 153, 163, 168, 171, 183, 190, 193] ?_
        show gj_Goes E om0 mt_173 201 [some (.ref 81), some (.int a1), some (.int a2), some (.int r7), some (.int r15), some (.int r23), some (.int r31)] [(.int (i3 1))] SI62 SJ62 (QI Q)
        refine gj_goq gj_clT ok_173 [10, 15, 18, 21, 34, 41, 44, 47, 59, 64, 67, 70, 84, 91, 94, 97, 123, 128, 131, 143, 150, 153, 163, 168, 171, 183, 190, 193] ?_
        show ((i3 1) = 0 ∨ (i3 1) = 1) ∧ (QI Q (some (.int (i3 1))) SI62 SJ62)
        refine ⟨(Or.inr rfl), ?_⟩
        exact ⟨_, rfl, (q37.1 c38)⟩
      · refine gj_Do.mono (q37.2 c38) (fun v_ SI64 SJ64 h_ => ?_)
        obtain ⟨r63, rfl, q39⟩ := h_
        show gj_Goes E om0 mt_173 143 [some (.ref 81), some (.int a1), some (.int a2), some (.int r7), some (.int r15), some (.int r23), some (.int r31)] [(.int r63), (.int a1), (.ref 81)] SI64 SJ64 (QI Q)
        refine gj_goq gj_clT ok_173 [10, 15, 18, 21, 34, 41, 44, 47, 59, 64, 67, 70, 84, 91, 94, 97, 123, 128, 131, 143, 150, 153, 163, 168, 171, 183, 190, 193] ?_
        show gj_Do E om0 (gj_mt 164) [(.ref 81), (.int (a2 + (i3 1)))] SI64 SJ64 _
        refine gj_Do.mono q39 (fun v_ SI66 SJ66 h_ => ?_)
        obtain ⟨r65, rfl, q40⟩ := h_
        show gj_Goes E om0 mt_173 150 [some (.ref 81), some (.int a1), some (.int a2), some (.int r7), some (.int r15), some (.int r23), some (.int r31)] [(.int r65), (.int r63), (.int a1), (.ref 81)] SI66 SJ66 (QI Q)
        refine gj_goq gj_clT ok_173 [10, 15, 18, 21, 34, 41, 44, 47, 59, 64, 67, 70, 84, 91, 94, 97, 123, 128, 131, 143, 150, 153, 163, 168, 171, 183, 190, 193] ?_
        show gj_Do E om0 (gj_mt 172) [(.ref 81), (.int a1), (.int r63), (.int r65)] SI66 SJ66 _
        refine gj_Do.mono q40 (fun v_ SI68 SJ68 h_ => ?_)
        obtain ⟨r67, rfl, q41⟩ := h_
        show gj_Goes E om0 mt_173 153 [some (.ref 81), some (.int a1), some (.int a2), some (.int r7), some (.int r15), some (.int r23), some (.int r31)] [(.int r67)] SI68 SJ68 (QI Q)
        refine gj_goq gj_clT ok_173 [10, 15, 18, 21, 34, 41, 44, 47, 59, 64, 67, 70, 84, 91, 94, 97, 123, 128, 131, 143, 150, 153, 163, 168, 171, 183, 190, 193] ?_
        show (¬ r67 = 0 → gj_Goes E om0 mt_173 196 [some (.ref 81), some (.int a1), some (.int a2), some (.int r7), some (.int r15), some (.int r23), some (.int r31)] [] SI68 SJ68 (QI Q)) ∧ (r67 = 0 → gj_Do E om0 (gj_mt 163) [(.ref 81), (.int a1)] SI68 SJ68 _)
        refine ⟨fun c42 => ?_, fun c42 => ?_⟩
        · refine gj_goq gj_clT ok_173 [10, 15, 18, 21, 34, 41, 44, 47, 59, 64, 67, 70, 84, 91, 94, 97, 123, 128, 131, 143, 150, 153, 163, 168, 171, 183, 190, 193] ?_
          show gj_Goes E om0 mt_173 201 [some (.ref 81), some (.int a1), some (.int a2), some (.int r7), some (.int r15), some (.int r23), some (.int r31)] [(.int (i3 1))] SI68 SJ68 (QI Q)
          refine gj_goq gj_clT ok_173 [10, 15, 18, 21, 34, 41, 44, 47, 59, 64, 67, 70, 84, 91, 94, 97, 123, 128, 131, 143, 150, 153, 163, 168, 171, 183, 190, 193] ?_
          show ((i3 1) = 0 ∨ (i3 1) = 1) ∧ (QI Q (some (.int (i3 1))) SI68 SJ68)
          refine ⟨(Or.inr rfl), ?_⟩
          exact ⟨_, rfl, (q41.1 c42)⟩
        · refine gj_Do.mono (q41.2 c42) (fun v_ SI70 SJ70 h_ => ?_)
          obtain ⟨r69, rfl, q43⟩ := h_
          show gj_Goes E om0 mt_173 163 [some (.ref 81), some (.int a1), some (.int a2), some (.int r7), some (.int r15), some (.int r23), some (.int r31)] [(.int r69), (.int a2), (.ref 81)] SI70 SJ70 (QI Q)
          refine gj_goq gj_clT ok_173 [10, 15, 18, 21, 34, 41, 44, 47, 59, 64, 67, 70, 84, 91, 94, 97, 123, 128, 131, 143, 150, 153, 163, 168, 171, 183, 190, 193] ?_
          show gj_Do E om0 (gj_mt 164) [(.ref 81), (.int a1)] SI70 SJ70 _
          refine gj_Do.mono q43 (fun v_ SI72 SJ72 h_ => ?_)
          obtain ⟨r71, rfl, q44⟩ := h_
          show gj_Goes E om0 mt_173 168 [some (.ref 81), some (.int a1), some (.int a2), some (.int r7), some (.int r15), some (.int r23), some (.int r31)] [(.int r71), (.int r69), (.int a2), (.ref 81)] SI72 SJ72 (QI Q)
          refine gj_goq gj_clT ok_173 [10, 15, 18, 21, 34, 41, 44, 47, 59, 64, 67, 70, 84, 91, 94, 97, 123, 128, 131, 143, 150, 153, 163, 168, 171, 183, 190, 193] ?_
          show gj_Do E om0 (gj_mt 172) [(.ref 81), (.int a2), (.int r69), (.int r71)] SI72 SJ72 _
          refine gj_Do.mono q44 (fun v_ SI74 SJ74 h_ => ?_)
          obtain ⟨r73, rfl, q45⟩ := h_
          show gj_Goes E om0 mt_173 171 [some (.ref 81), some (.int a1), some (.int a2), some (.int r7), some (.int r15), some (.int r23), some (.int r31)] [(.int r73)] SI74 SJ74 (QI Q)
          refine gj_goq gj_clT ok_173 [10, 15, 18, 21, 34, 41, 44, 47, 59, 64, 67, 70, 84, 91, 94, 97, 123, 128, 131, 143, 150, 153, 163, 168, 171, 183, 190, 193] ?_
          show (¬ r73 = 0 → gj_Goes E om0 mt_173 196 [some (.ref 81), some (.int a1), some (.int a2), some (.int r7), some (.int r15), some (.int r23), some (.int r31)] [] SI74 SJ74 (QI Q)) ∧ (r73 = 0 → gj_Do E om0 (gj_mt 163) [(.ref 81), (.int (a1 + (i3 1)))] SI74 SJ74 _)
          refine ⟨fun c46 => ?_, fun c46 => ?_⟩
          · refine gj_goq gj_clT ok_173 [10, 15, 18, 21, 34, 41, 44, 47, 59, 64, 67, 70, 84, 91, 94, 97, 123, 128, 131, 143, 150, 153, 163, 168, 171, 183, 190, 193] ?_
            show gj_Goes E om0 mt_173 201 [some (.ref 81), some (.int a1), some (.int a2), some (.int r7), some (.int r15), some (.int r23), some (.int r31)] [(.int (i3 1))] SI74 SJ74 (QI Q)
            refine gj_goq gj_clT ok_173 [10, 15, 18, 21, 34, 41, 44, 47, 59, 64, 67, 70, 84, 91, 94, 97, 123, 128, 131, 143, 150, 153, 163, 168, 171, 183, 190, 193] ?_
            show ((i3 1) = 0 ∨ (i3 1) = 1) ∧ (QI Q (some (.int (i3 1))) SI74 SJ74)
            refine ⟨(Or.inr rfl), ?_⟩
            exact ⟨_, rfl, (q45.1 c46)⟩
          · refine gj_Do.mono (q45.2 c46) (fun v_ SI76 SJ76 h_ => ?_)
            obtain ⟨r75, rfl, q47⟩ := h_
            show gj_Goes E om0 mt_173 183 [some (.ref 81), some (.int a1), some (.int a2), some (.int r7), some (.int r15), some (.int r23), some (.int r31)] [(.int r75), (.int a2), (.ref 81)] SI76 SJ76 (QI Q)
            refine gj_goq gj_clT ok_173 [10, 15, 18, 21, 34, 41, 44, 47, 59, 64, 67, 70, 84, 91, 94, 97, 123, 128, 131, 143, 150, 153, 163, 168, 171, 183, 190, 193] ?_
            show gj_Do E om0 (gj_mt 164) [(.ref 81), (.int (a1 + (i3 1)))] SI76 SJ76 _
            refine gj_Do.mono q47 (fun v_ SI78 SJ78 h_ => ?_)
            obtain ⟨r77, rfl, q48⟩ := h_
            show gj_Goes E om0 mt_173 190 [some (.ref 81), some (.int a1), some (.int a2), some (.int r7), some (.int r15), some (.int r23), some (.int r31)] [(.int r77), (.int r75), (.int a2), (.ref 81)] SI78 SJ78 (QI Q)
            refine gj_goq gj_clT ok_173 [10, 15, 18, 21, 34, 41, 44, 47, 59, 64, 67, 70, 84, 91, 94, 97, 123, 128, 131, 143, 150, 153, 163, 168, 171, 183, 190, 193] ?_
            show gj_Do E om0 (gj_mt 172) [(.ref 81), (.int a2), (.int r75), (.int r77)] SI78 SJ78 _
            refine gj_Do.mono q48 (fun v_ SI80 SJ80 h_ => ?_)
            obtain ⟨r79, rfl, q49⟩ := h_
            show gj_Goes E om0 mt_173 193 [some (.ref 81), some (.int a1), some (.int a2), some (.int r7), some (.int r15), some (.int r23), some (.int r31)] [(.int r79)] SI80 SJ80 (QI Q)
            refine gj_goq gj_clT ok_173 [10, 15, 18, 21, 34, 41, 44, 47, 59, 64, 67, 70, 84, 91, 94, 97, 123, 128, 131, 143, 150, 153, 163, 168, 171, 183, 190, 193] ?_
            show (r79 = 0 → gj_Goes E om0 mt_173 200 [some (.ref 81), some (.int a1), some (.int a2), some (.int r7), some (.int r15), some (.int r23), some (.int r31)] [] SI80 SJ80 (QI Q)) ∧ (¬ r79 = 0 → gj_Goes E om0 mt_173 201 [some (.ref 81), some (.int a1), some (.int a2), some (.int r7), some (.int r15), some (.int r23), some (.int r31)] [(.int (i3 1))] SI80 SJ80 (QI Q))
            refine ⟨fun c50 => ?_, fun c50 => ?_⟩
            · refine gj_goq gj_clT ok_173 [10, 15, 18, 21, 34, 41, 44, 47, 59, 64, 67, 70, 84, 91, 94, 97, 123, 128, 131, 143, 150, 153, 163, 168, 171, 183, 190, 193] ?_
              show ((i3 0) = 0 ∨ (i3 0) = 1) ∧ (QI Q (some (.int (i3 0))) SI80 SJ80)
              refine ⟨(Or.inl rfl), ?_⟩
              exact ⟨_, rfl, (q49.1 c50)⟩
            · refine gj_goq gj_clT ok_173 [10, 15, 18, 21, 34, 41, 44, 47, 59, 64, 67, 70, 84, 91, 94, 97, 123, 128, 131, 143, 150, 153, 163, 168, 171, 183, 190, 193] ?_
              show ((i3 1) = 0 ∨ (i3 1) = 1) ∧ (QI Q (some (.int (i3 1))) SI80 SJ80)
              refine ⟨(Or.inr rfl), ?_⟩
              exact ⟨_, rfl, (q49.2 c50)⟩
    · refine ⟨(Or.inr rfl), ?_⟩
      exact ⟨_, rfl, ((q16.2 c17).2 c34)⟩
set_option maxRecDepth 20000 in
/-- GraspJudgeModel.areaTwice -/
theorem st_174 {E : gj_E} {Q : Int64 → gj_I → gj_J → Prop} (SI : gj_I) (SJ : gj_J) (h : GoL E mt_174 4 [some (.ref 81), some (.long (i6 0)), none, some (.int (i3 0))] SI SJ Q) : DoL E 174 [(.ref 81)] SI SJ Q := by
  refine gj_start (M := mt_174) ok_174 (Nat.le_of_ble_eq_true rfl) ?_
  refine gj_goq gj_clT ok_174 [4, 9, 18, 25, 35, 40] ?_
  show gj_Goes E om0 mt_174 4 [some (.ref 81), some (.long (i6 0)), none, some (.int (i3 0))] [] SI SJ (QL Q)
  exact h
set_option maxRecDepth 20000 in
theorem lp_174_4 {E : gj_E} {Q : Int64 → gj_I → gj_J → Prop} (x1 : Int64) (x3 : Int32) (SI : gj_I) (SJ : gj_J) (h : DoI E 162 [(.ref 81)] SI SJ (fun r1 SI2 SJ2 => (r1 ≤ x3 → Q x1 SI2 SJ2) ∧ (¬ r1 ≤ x3 → DoI E 163 [(.ref 81), (.int x3)] SI2 SJ2 (fun r3 SI4 SJ4 => DoI E 164 [(.ref 81), (.int (x3 + (i3 1)))] SI4 SJ4 (fun r5 SI6 SJ6 => DoI E 163 [(.ref 81), (.int (x3 + (i3 1)))] SI6 SJ6 (fun r7 SI8 SJ8 => DoI E 164 [(.ref 81), (.int x3)] SI8 SJ8 (fun r9 SI10 SJ10 => GoL E mt_174 4 [some (.ref 81), some (.long ((x1 + (r3 * r5).toInt64) - (r7 * r9).toInt64)), none, some (.int (x3 + (i3 1)))] SI10 SJ10 Q))))))) : GoL E mt_174 4 [some (.ref 81), some (.long x1), none, some (.int x3)] SI SJ Q := by
  refine gj_goq gj_clT ok_174 [4, 9, 18, 25, 35, 40] ?_
  show gj_Do E om0 (gj_mt 162) [(.ref 81)] SI SJ _
  refine gj_Do.mono h (fun v_ SI2 SJ2 h_ => ?_)
  obtain ⟨r1, rfl, q1⟩ := h_
  show gj_Goes E om0 mt_174 9 [some (.ref 81), some (.long x1), none, some (.int x3)] [(.int r1), (.int x3)] SI2 SJ2 (QL Q)
  refine gj_goq gj_clT ok_174 [4, 9, 18, 25, 35, 40] ?_
  show (r1 ≤ x3 → gj_Goes E om0 mt_174 50 [some (.ref 81), some (.long x1), none, some (.int x3)] [] SI2 SJ2 (QL Q)) ∧ (¬ r1 ≤ x3 → gj_Do E om0 (gj_mt 163) [(.ref 81), (.int x3)] SI2 SJ2 _)
  refine ⟨fun c2 => ?_, fun c2 => ?_⟩
  · refine gj_goq gj_clT ok_174 [4, 9, 18, 25, 35, 40] ?_
    show QL Q (some (.long x1)) SI2 SJ2
    exact ⟨_, rfl, (q1.1 c2)⟩
  · refine gj_Do.mono (q1.2 c2) (fun v_ SI4 SJ4 h_ => ?_)
    obtain ⟨r3, rfl, q3⟩ := h_
    show gj_Goes E om0 mt_174 18 [some (.ref 81), some (.long x1), none, some (.int x3)] [(.int r3), (.long x1)] SI4 SJ4 (QL Q)
    refine gj_goq gj_clT ok_174 [4, 9, 18, 25, 35, 40] ?_
    show gj_Do E om0 (gj_mt 164) [(.ref 81), (.int (x3 + (i3 1)))] SI4 SJ4 _
    refine gj_Do.mono q3 (fun v_ SI6 SJ6 h_ => ?_)
    obtain ⟨r5, rfl, q4⟩ := h_
    show gj_Goes E om0 mt_174 25 [some (.ref 81), some (.long x1), none, some (.int x3)] [(.int r5), (.int r3), (.long x1)] SI6 SJ6 (QL Q)
    refine gj_goq gj_clT ok_174 [4, 9, 18, 25, 35, 40] ?_
    show gj_Do E om0 (gj_mt 163) [(.ref 81), (.int (x3 + (i3 1)))] SI6 SJ6 _
    refine gj_Do.mono q4 (fun v_ SI8 SJ8 h_ => ?_)
    obtain ⟨r7, rfl, q5⟩ := h_
    show gj_Goes E om0 mt_174 35 [some (.ref 81), some (.long x1), none, some (.int x3)] [(.int r7), (.long (x1 + (r3 * r5).toInt64))] SI8 SJ8 (QL Q)
    refine gj_goq gj_clT ok_174 [4, 9, 18, 25, 35, 40] ?_
    show gj_Do E om0 (gj_mt 164) [(.ref 81), (.int x3)] SI8 SJ8 _
    refine gj_Do.mono q5 (fun v_ SI10 SJ10 h_ => ?_)
    obtain ⟨r9, rfl, q6⟩ := h_
    show gj_Goes E om0 mt_174 40 [some (.ref 81), some (.long x1), none, some (.int x3)] [(.int r9), (.int r7), (.long (x1 + (r3 * r5).toInt64))] SI10 SJ10 (QL Q)
    refine gj_goq gj_clT ok_174 [4, 9, 18, 25, 35, 40] ?_
    show gj_Goes E om0 mt_174 4 [some (.ref 81), some (.long ((x1 + (r3 * r5).toInt64) - (r7 * r9).toInt64)), none, some (.int (x3 + (i3 1)))] [] SI10 SJ10 (QL Q)
    exact q6
set_option maxRecDepth 20000 in
/-- GraspJudgeModel.isPlate -/
theorem st_175 {E : gj_E} {Q : Int32 → gj_I → gj_J → Prop} (SI : gj_I) (SJ : gj_J) (h : DoI E 162 [(.ref 81)] SI SJ (fun r1 SI2 SJ2 => ((i3 3) ≤ r1 → GoI E mt_175 14 [some (.ref 81), some (.int r1), some (.int (i3 0)), none] SI2 SJ2 Q) ∧ (¬ (i3 3) ≤ r1 → Q (i3 0) SI2 SJ2))) : DoI E 175 [(.ref 81)] SI SJ Q := by
  refine gj_start (M := mt_175) ok_175 (Nat.le_of_ble_eq_true rfl) ?_
  refine gj_goq gj_clT ok_175 [4, 14, 31, 38, 41, 56, 65, 85, 106] ?_
  show gj_Do E om0 (gj_mt 162) [(.ref 81)] SI SJ _
  refine gj_Do.mono h (fun v_ SI2 SJ2 h_ => ?_)
  obtain ⟨r1, rfl, q1⟩ := h_
  show gj_Goes E om0 mt_175 4 [some (.ref 81), none, none, none] [(.int r1)] SI2 SJ2 (QI Q)
  refine gj_goq gj_clT ok_175 [4, 14, 31, 38, 41, 56, 65, 85, 106] ?_
  show ((i3 3) ≤ r1 → gj_Goes E om0 mt_175 12 [some (.ref 81), some (.int r1), none, none] [] SI2 SJ2 (QI Q)) ∧ (¬ (i3 3) ≤ r1 → ((i3 0) = 0 ∨ (i3 0) = 1) ∧ (QI Q (some (.int (i3 0))) SI2 SJ2))
  refine ⟨fun c2 => ?_, fun c2 => ?_⟩
  · refine gj_goq gj_clT ok_175 [4, 14, 31, 38, 41, 56, 65, 85, 106] ?_
    show gj_Goes E om0 mt_175 14 [some (.ref 81), some (.int r1), some (.int (i3 0)), none] [] SI2 SJ2 (QI Q)
    exact (q1.1 c2)
  · refine ⟨(Or.inl rfl), ?_⟩
    exact ⟨_, rfl, (q1.2 c2)⟩
set_option maxRecDepth 20000 in
theorem lp_175_14 {E : gj_E} {Q : Int32 → gj_I → gj_J → Prop} (x1 : Int32) (x2 : Int32) (SI : gj_I) (SJ : gj_J) (h : (x1 ≤ x2 → GoI E mt_175 56 [some (.ref 81), some (.int x1), some (.int (i3 0)), none] SI SJ Q) ∧ (¬ x1 ≤ x2 → DoI E 163 [(.ref 81), (.int (x2 + (i3 2)))] SI SJ (fun r1 SI2 SJ2 => DoI E 164 [(.ref 81), (.int (x2 + (i3 2)))] SI2 SJ2 (fun r3 SI4 SJ4 => DoL E 170 [(.ref 81), (.int x2), (.int (x2 + (i3 1))), (.int r1), (.int r3)] SI4 SJ4 (fun r5 SI6 SJ6 => (¬ r5 = (i6 0) → GoI E mt_175 14 [some (.ref 81), some (.int x1), some (.int (x2 + (i3 1))), none] SI6 SJ6 Q) ∧ (r5 = (i6 0) → Q (i3 0) SI6 SJ6)))))) : GoI E mt_175 14 [some (.ref 81), some (.int x1), some (.int x2), none] SI SJ Q := by
  refine gj_goq gj_clT ok_175 [4, 14, 31, 38, 41, 56, 65, 85, 106] ?_
  show (x1 ≤ x2 → gj_Goes E om0 mt_175 54 [some (.ref 81), some (.int x1), some (.int x2), none] [] SI SJ (QI Q)) ∧ (¬ x1 ≤ x2 → gj_Do E om0 (gj_mt 163) [(.ref 81), (.int (x2 + (i3 2)))] SI SJ _)
  refine ⟨fun c1 => ?_, fun c1 => ?_⟩
  · refine gj_goq gj_clT ok_175 [4, 14, 31, 38, 41, 56, 65, 85, 106] ?_
    show gj_Goes E om0 mt_175 56 [some (.ref 81), some (.int x1), some (.int (i3 0)), none] [] SI SJ (QI Q)
    exact (h.1 c1)
  · refine gj_Do.mono (h.2 c1) (fun v_ SI2 SJ2 h_ => ?_)
    obtain ⟨r1, rfl, q2⟩ := h_
    show gj_Goes E om0 mt_175 31 [some (.ref 81), some (.int x1), some (.int x2), none] [(.int r1), (.int (x2 + (i3 1))), (.int x2), (.ref 81)] SI2 SJ2 (QI Q)
    refine gj_goq gj_clT ok_175 [4, 14, 31, 38, 41, 56, 65, 85, 106] ?_
    show gj_Do E om0 (gj_mt 164) [(.ref 81), (.int (x2 + (i3 2)))] SI2 SJ2 _
    refine gj_Do.mono q2 (fun v_ SI4 SJ4 h_ => ?_)
    obtain ⟨r3, rfl, q3⟩ := h_
    show gj_Goes E om0 mt_175 38 [some (.ref 81), some (.int x1), some (.int x2), none] [(.int r3), (.int r1), (.int (x2 + (i3 1))), (.int x2), (.ref 81)] SI4 SJ4 (QI Q)
    refine gj_goq gj_clT ok_175 [4, 14, 31, 38, 41, 56, 65, 85, 106] ?_
    show gj_Do E om0 (gj_mt 170) [(.ref 81), (.int x2), (.int (x2 + (i3 1))), (.int r1), (.int r3)] SI4 SJ4 _
    refine gj_Do.mono q3 (fun v_ SI6 SJ6 h_ => ?_)
    obtain ⟨r5, rfl, q4⟩ := h_
    show gj_Goes E om0 mt_175 41 [some (.ref 81), some (.int x1), some (.int x2), none] [(.long r5)] SI6 SJ6 (QI Q)
    refine gj_goq gj_clT ok_175 [4, 14, 31, 38, 41, 56, 65, 85, 106] ?_
    show (¬ (lg_cmp r5 (i6 0)) = 0 → gj_Goes E om0 mt_175 48 [some (.ref 81), some (.int x1), some (.int x2), none] [] SI6 SJ6 (QI Q)) ∧ ((lg_cmp r5 (i6 0)) = 0 → ((i3 0) = 0 ∨ (i3 0) = 1) ∧ (QI Q (some (.int (i3 0))) SI6 SJ6))
    refine ⟨fun c5 => ?_, fun c5 => ?_⟩
    · refine gj_goq gj_clT ok_175 [4, 14, 31, 38, 41, 56, 65, 85, 106] ?_
      show gj_Goes E om0 mt_175 14 [some (.ref 81), some (.int x1), some (.int (x2 + (i3 1))), none] [] SI6 SJ6 (QI Q)
      exact (q4.1 (fun z_ => c5 (lgc_eq.mpr z_)))
    · refine ⟨(Or.inl rfl), ?_⟩
      exact ⟨_, rfl, (q4.2 (lgc_eq.mp c5))⟩
set_option maxRecDepth 20000 in
theorem lp_175_56 {E : gj_E} {Q : Int32 → gj_I → gj_J → Prop} (x1 : Int32) (x2 : Int32) (SI : gj_I) (SJ : gj_J) (h : (x1 ≤ x2 → DoL E 174 [(.ref 81)] SI SJ (fun r1 SI2 SJ2 => (r1 ≤ (i6 0) → Q (i3 0) SI2 SJ2) ∧ (¬ r1 ≤ (i6 0) → Q (i3 1) SI2 SJ2))) ∧ (¬ x1 ≤ x2 → GoI E mt_175 65 [some (.ref 81), some (.int x1), some (.int x2), some (.int (x2 + (i3 2)))] SI SJ Q)) : GoI E mt_175 56 [some (.ref 81), some (.int x1), some (.int x2), none] SI SJ Q := by
  refine gj_goq gj_clT ok_175 [4, 14, 31, 38, 41, 56, 65, 85, 106] ?_
  show (x1 ≤ x2 → gj_Goes E om0 mt_175 102 [some (.ref 81), some (.int x1), some (.int x2), none] [] SI SJ (QI Q)) ∧ (¬ x1 ≤ x2 → gj_Goes E om0 mt_175 65 [some (.ref 81), some (.int x1), some (.int x2), some (.int (x2 + (i3 2)))] [] SI SJ (QI Q))
  refine ⟨fun c1 => ?_, fun c1 => ?_⟩
  · refine gj_goq gj_clT ok_175 [4, 14, 31, 38, 41, 56, 65, 85, 106] ?_
    show gj_Do E om0 (gj_mt 174) [(.ref 81)] SI SJ _
    refine gj_Do.mono (h.1 c1) (fun v_ SI2 SJ2 h_ => ?_)
    obtain ⟨r1, rfl, q2⟩ := h_
    show gj_Goes E om0 mt_175 106 [some (.ref 81), some (.int x1), some (.int x2), none] [(.long r1)] SI2 SJ2 (QI Q)
    refine gj_goq gj_clT ok_175 [4, 14, 31, 38, 41, 56, 65, 85, 106] ?_
    show ((lg_cmp r1 (i6 0)) ≤ 0 → gj_Goes E om0 mt_175 115 [some (.ref 81), some (.int x1), some (.int x2), none] [] SI2 SJ2 (QI Q)) ∧ (¬ (lg_cmp r1 (i6 0)) ≤ 0 → gj_Goes E om0 mt_175 116 [some (.ref 81), some (.int x1), some (.int x2), none] [(.int (i3 1))] SI2 SJ2 (QI Q))
    refine ⟨fun c3 => ?_, fun c3 => ?_⟩
    · refine gj_goq gj_clT ok_175 [4, 14, 31, 38, 41, 56, 65, 85, 106] ?_
      show ((i3 0) = 0 ∨ (i3 0) = 1) ∧ (QI Q (some (.int (i3 0))) SI2 SJ2)
      refine ⟨(Or.inl rfl), ?_⟩
      exact ⟨_, rfl, (q2.1 (lgc_le.mp c3))⟩
    · refine gj_goq gj_clT ok_175 [4, 14, 31, 38, 41, 56, 65, 85, 106] ?_
      show ((i3 1) = 0 ∨ (i3 1) = 1) ∧ (QI Q (some (.int (i3 1))) SI2 SJ2)
      refine ⟨(Or.inr rfl), ?_⟩
      exact ⟨_, rfl, (q2.2 (fun z_ => c3 (lgc_le.mpr z_)))⟩
  · exact (h.2 c1)
set_option maxRecDepth 20000 in
theorem lp_175_65 {E : gj_E} {Q : Int32 → gj_I → gj_J → Prop} (x1 : Int32) (x2 : Int32) (x3 : Int32) (SI : gj_I) (SJ : gj_J) (h : (x1 ≤ x3 → GoI E mt_175 56 [some (.ref 81), some (.int x1), some (.int (x2 + (i3 1))), none] SI SJ Q) ∧ (¬ x1 ≤ x3 → ¬ x1 = 0 ∧ ((((x3 + (i3 1)) - (x3 + (i3 1)) / x1 * x1) = x2 → GoI E mt_175 65 [some (.ref 81), some (.int x1), some (.int x2), some (.int (x3 + (i3 1)))] SI SJ Q) ∧ (¬ ((x3 + (i3 1)) - (x3 + (i3 1)) / x1 * x1) = x2 → DoI E 173 [(.ref 81), (.int x2), (.int x3)] SI SJ (fun r1 SI2 SJ2 => (r1 = 0 → GoI E mt_175 65 [some (.ref 81), some (.int x1), some (.int x2), some (.int (x3 + (i3 1)))] SI2 SJ2 Q) ∧ (¬ r1 = 0 → Q (i3 0) SI2 SJ2)))))) : GoI E mt_175 65 [some (.ref 81), some (.int x1), some (.int x2), some (.int x3)] SI SJ Q := by
  refine gj_goq gj_clT ok_175 [4, 14, 31, 38, 41, 56, 65, 85, 106] ?_
  show (x1 ≤ x3 → gj_Goes E om0 mt_175 96 [some (.ref 81), some (.int x1), some (.int x2), some (.int x3)] [] SI SJ (QI Q)) ∧ (¬ x1 ≤ x3 → ¬ x1 = 0 ∧ ((((x3 + (i3 1)) - (x3 + (i3 1)) / x1 * x1) = x2 → gj_Goes E om0 mt_175 90 [some (.ref 81), some (.int x1), some (.int x2), some (.int x3)] [] SI SJ (QI Q)) ∧ (¬ ((x3 + (i3 1)) - (x3 + (i3 1)) / x1 * x1) = x2 → gj_Do E om0 (gj_mt 173) [(.ref 81), (.int x2), (.int x3)] SI SJ _)))
  refine ⟨fun c1 => ?_, fun c1 => ?_⟩
  · refine gj_goq gj_clT ok_175 [4, 14, 31, 38, 41, 56, 65, 85, 106] ?_
    show gj_Goes E om0 mt_175 56 [some (.ref 81), some (.int x1), some (.int (x2 + (i3 1))), some (.int x3)] [] SI SJ (QI Q)
    exact gj_fh (h.1 c1) (And.intro (Or.inr rfl) (And.intro (Or.inr rfl) (And.intro (Or.inr rfl) (And.intro (Or.inl rfl) trivial))))
  · have k2 := (h.2 c1).1
    refine ⟨k2, ?_⟩
    refine ⟨fun c3 => ?_, fun c3 => ?_⟩
    · refine gj_goq gj_clT ok_175 [4, 14, 31, 38, 41, 56, 65, 85, 106] ?_
      show gj_Goes E om0 mt_175 65 [some (.ref 81), some (.int x1), some (.int x2), some (.int (x3 + (i3 1)))] [] SI SJ (QI Q)
      exact ((h.2 c1).2.1 c3)
    · refine gj_Do.mono ((h.2 c1).2.2 c3) (fun v_ SI2 SJ2 h_ => ?_)
      obtain ⟨r1, rfl, q4⟩ := h_
      show gj_Goes E om0 mt_175 85 [some (.ref 81), some (.int x1), some (.int x2), some (.int x3)] [(.int r1)] SI2 SJ2 (QI Q)
      refine gj_goq gj_clT ok_175 [4, 14, 31, 38, 41, 56, 65, 85, 106] ?_
      show (r1 = 0 → gj_Goes E om0 mt_175 90 [some (.ref 81), some (.int x1), some (.int x2), some (.int x3)] [] SI2 SJ2 (QI Q)) ∧ (¬ r1 = 0 → ((i3 0) = 0 ∨ (i3 0) = 1) ∧ (QI Q (some (.int (i3 0))) SI2 SJ2))
      refine ⟨fun c5 => ?_, fun c5 => ?_⟩
      · refine gj_goq gj_clT ok_175 [4, 14, 31, 38, 41, 56, 65, 85, 106] ?_
        show gj_Goes E om0 mt_175 65 [some (.ref 81), some (.int x1), some (.int x2), some (.int (x3 + (i3 1)))] [] SI2 SJ2 (QI Q)
        exact (q4.1 c5)
      · refine ⟨(Or.inl rfl), ?_⟩
        exact ⟨_, rfl, (q4.2 c5)⟩
set_option maxRecDepth 20000 in
/-- GraspJudgeModel.placeMany -/
theorem st_176 {E : gj_E} {Q : Int32 → gj_I → gj_J → Prop} (SI : gj_I) (SJ : gj_J) (h : GoI E mt_176 4 [some (.ref 81), some (.int (i3 0)), some (.int (i3 0))] SI SJ Q) : DoI E 176 [(.ref 81)] SI SJ Q := by
  refine gj_start (M := mt_176) ok_176 (Nat.le_of_ble_eq_true rfl) ?_
  refine gj_goq gj_clT ok_176 [4, 9, 18] ?_
  show gj_Goes E om0 mt_176 4 [some (.ref 81), some (.int (i3 0)), some (.int (i3 0))] [] SI SJ (QI Q)
  exact h
set_option maxRecDepth 20000 in
theorem lp_176_4 {E : gj_E} {Q : Int32 → gj_I → gj_J → Prop} (x1 : Int32) (x2 : Int32) (SI : gj_I) (SJ : gj_J) (h : DoI E 162 [(.ref 81)] SI SJ (fun r1 SI2 SJ2 => (r1 ≤ x2 → Q x1 SI2 SJ2) ∧ (¬ r1 ≤ x2 → DoI E 165 [(.ref 81), (.int x2)] SI2 SJ2 (fun r3 SI4 SJ4 => GoI E mt_176 4 [some (.ref 81), some (.int ((x1 + r3) - (i3 1))), some (.int (x2 + (i3 1)))] SI4 SJ4 Q)))) : GoI E mt_176 4 [some (.ref 81), some (.int x1), some (.int x2)] SI SJ Q := by
  refine gj_goq gj_clT ok_176 [4, 9, 18] ?_
  show gj_Do E om0 (gj_mt 162) [(.ref 81)] SI SJ _
  refine gj_Do.mono h (fun v_ SI2 SJ2 h_ => ?_)
  obtain ⟨r1, rfl, q1⟩ := h_
  show gj_Goes E om0 mt_176 9 [some (.ref 81), some (.int x1), some (.int x2)] [(.int r1), (.int x2)] SI2 SJ2 (QI Q)
  refine gj_goq gj_clT ok_176 [4, 9, 18] ?_
  show (r1 ≤ x2 → gj_Goes E om0 mt_176 28 [some (.ref 81), some (.int x1), some (.int x2)] [] SI2 SJ2 (QI Q)) ∧ (¬ r1 ≤ x2 → gj_Do E om0 (gj_mt 165) [(.ref 81), (.int x2)] SI2 SJ2 _)
  refine ⟨fun c2 => ?_, fun c2 => ?_⟩
  · refine gj_goq gj_clT ok_176 [4, 9, 18] ?_
    show QI Q (some (.int x1)) SI2 SJ2
    exact ⟨_, rfl, (q1.1 c2)⟩
  · refine gj_Do.mono (q1.2 c2) (fun v_ SI4 SJ4 h_ => ?_)
    obtain ⟨r3, rfl, q3⟩ := h_
    show gj_Goes E om0 mt_176 18 [some (.ref 81), some (.int x1), some (.int x2)] [(.int r3), (.int x1)] SI4 SJ4 (QI Q)
    refine gj_goq gj_clT ok_176 [4, 9, 18] ?_
    show gj_Goes E om0 mt_176 4 [some (.ref 81), some (.int ((x1 + r3) - (i3 1))), some (.int (x2 + (i3 1)))] [] SI4 SJ4 (QI Q)
    exact q3
set_option maxRecDepth 20000 in
/-- GraspJudgeModel.placeEdge -/
theorem st_177 {E : gj_E} {Q : Int32 → gj_I → gj_J → Prop} (a1 : Int32) (SI : gj_I) (SJ : gj_J) (h : GoI E mt_177 4 [some (.ref 81), none, some (.int a1), some (.int (i3 0))] SI SJ Q) : DoI E 177 [(.ref 81), (.int a1)] SI SJ Q := by
  refine gj_start (M := mt_177) ok_177 (Nat.le_of_ble_eq_true rfl) ?_
  refine gj_goq gj_clT ok_177 [4, 10, 21] ?_
  show gj_Goes E om0 mt_177 4 [some (.ref 81), some (.int a1), some (.int a1), some (.int (i3 0))] [] SI SJ (QI Q)
  exact gj_fh h (And.intro (Or.inr rfl) (And.intro (Or.inl rfl) (And.intro (Or.inr rfl) (And.intro (Or.inr rfl) trivial))))
set_option maxRecDepth 20000 in
theorem lp_177_4 {E : gj_E} {Q : Int32 → gj_I → gj_J → Prop} (x2 : Int32) (x3 : Int32) (SI : gj_I) (SJ : gj_J) (h : DoI E 165 [(.ref 81), (.int x3)] SI SJ (fun r1 SI2 SJ2 => (x2 < (r1 - (i3 1)) → Q x3 SI2 SJ2) ∧ (¬ x2 < (r1 - (i3 1)) → DoI E 165 [(.ref 81), (.int x3)] SI2 SJ2 (fun r3 SI4 SJ4 => GoI E mt_177 4 [some (.ref 81), none, some (.int ((x2 - r3) + (i3 1))), some (.int (x3 + (i3 1)))] SI4 SJ4 Q)))) : GoI E mt_177 4 [some (.ref 81), none, some (.int x2), some (.int x3)] SI SJ Q := by
  refine gj_goq gj_clT ok_177 [4, 10, 21] ?_
  show gj_Do E om0 (gj_mt 165) [(.ref 81), (.int x3)] SI SJ _
  refine gj_Do.mono h (fun v_ SI2 SJ2 h_ => ?_)
  obtain ⟨r1, rfl, q1⟩ := h_
  show gj_Goes E om0 mt_177 10 [some (.ref 81), none, some (.int x2), some (.int x3)] [(.int r1), (.int x2)] SI2 SJ2 (QI Q)
  refine gj_goq gj_clT ok_177 [4, 10, 21] ?_
  show (x2 < (r1 - (i3 1)) → gj_Goes E om0 mt_177 32 [some (.ref 81), none, some (.int x2), some (.int x3)] [] SI2 SJ2 (QI Q)) ∧ (¬ x2 < (r1 - (i3 1)) → gj_Do E om0 (gj_mt 165) [(.ref 81), (.int x3)] SI2 SJ2 _)
  refine ⟨fun c2 => ?_, fun c2 => ?_⟩
  · refine gj_goq gj_clT ok_177 [4, 10, 21] ?_
    show QI Q (some (.int x3)) SI2 SJ2
    exact ⟨_, rfl, (q1.1 c2)⟩
  · refine gj_Do.mono (q1.2 c2) (fun v_ SI4 SJ4 h_ => ?_)
    obtain ⟨r3, rfl, q3⟩ := h_
    show gj_Goes E om0 mt_177 21 [some (.ref 81), none, some (.int x2), some (.int x3)] [(.int r3), (.int x2)] SI4 SJ4 (QI Q)
    refine gj_goq gj_clT ok_177 [4, 10, 21] ?_
    show gj_Goes E om0 mt_177 4 [some (.ref 81), none, some (.int ((x2 - r3) + (i3 1))), some (.int (x3 + (i3 1)))] [] SI4 SJ4 (QI Q)
    exact q3
set_option maxRecDepth 20000 in
/-- GraspJudgeModel.placeStep -/
theorem st_178 {E : gj_E} {Q : Int32 → gj_I → gj_J → Prop} (a1 : Int32) (SI : gj_I) (SJ : gj_J) (h : GoI E mt_178 4 [some (.ref 81), some (.int a1), some (.int a1), some (.int (i3 0))] SI SJ Q) : DoI E 178 [(.ref 81), (.int a1)] SI SJ Q := by
  refine gj_start (M := mt_178) ok_178 (Nat.le_of_ble_eq_true rfl) ?_
  refine gj_goq gj_clT ok_178 [4, 10, 19] ?_
  show gj_Goes E om0 mt_178 4 [some (.ref 81), some (.int a1), some (.int a1), some (.int (i3 0))] [] SI SJ (QI Q)
  exact h
set_option maxRecDepth 20000 in
theorem lp_178_4 {E : gj_E} {Q : Int32 → gj_I → gj_J → Prop} (x1 : Int32) (x2 : Int32) (x3 : Int32) (SI : gj_I) (SJ : gj_J) (h : DoI E 177 [(.ref 81), (.int x1)] SI SJ (fun r1 SI2 SJ2 => (r1 ≤ x3 → Q (x2 + (i3 1)) SI2 SJ2) ∧ (¬ r1 ≤ x3 → DoI E 165 [(.ref 81), (.int x3)] SI2 SJ2 (fun r3 SI4 SJ4 => GoI E mt_178 4 [some (.ref 81), some (.int x1), some (.int ((x2 - r3) + (i3 1))), some (.int (x3 + (i3 1)))] SI4 SJ4 Q)))) : GoI E mt_178 4 [some (.ref 81), some (.int x1), some (.int x2), some (.int x3)] SI SJ Q := by
  refine gj_goq gj_clT ok_178 [4, 10, 19] ?_
  show gj_Do E om0 (gj_mt 177) [(.ref 81), (.int x1)] SI SJ _
  refine gj_Do.mono h (fun v_ SI2 SJ2 h_ => ?_)
  obtain ⟨r1, rfl, q1⟩ := h_
  show gj_Goes E om0 mt_178 10 [some (.ref 81), some (.int x1), some (.int x2), some (.int x3)] [(.int r1), (.int x3)] SI2 SJ2 (QI Q)
  refine gj_goq gj_clT ok_178 [4, 10, 19] ?_
  show (r1 ≤ x3 → gj_Goes E om0 mt_178 29 [some (.ref 81), some (.int x1), some (.int x2), some (.int x3)] [] SI2 SJ2 (QI Q)) ∧ (¬ r1 ≤ x3 → gj_Do E om0 (gj_mt 165) [(.ref 81), (.int x3)] SI2 SJ2 _)
  refine ⟨fun c2 => ?_, fun c2 => ?_⟩
  · refine gj_goq gj_clT ok_178 [4, 10, 19] ?_
    show QI Q (some (.int (x2 + (i3 1)))) SI2 SJ2
    exact ⟨_, rfl, (q1.1 c2)⟩
  · refine gj_Do.mono (q1.2 c2) (fun v_ SI4 SJ4 h_ => ?_)
    obtain ⟨r3, rfl, q3⟩ := h_
    show gj_Goes E om0 mt_178 19 [some (.ref 81), some (.int x1), some (.int x2), some (.int x3)] [(.int r3), (.int x2)] SI4 SJ4 (QI Q)
    refine gj_goq gj_clT ok_178 [4, 10, 19] ?_
    show gj_Goes E om0 mt_178 4 [some (.ref 81), some (.int x1), some (.int ((x2 - r3) + (i3 1))), some (.int (x3 + (i3 1)))] [] SI4 SJ4 (QI Q)
    exact q3
set_option maxRecDepth 20000 in
/-- GraspJudgeModel.isPlace -/
theorem st_179 {E : gj_E} {Q : Int32 → gj_I → gj_J → Prop} (a1 : Int32) (SI : gj_I) (SJ : gj_J) (h : DoI E 176 [(.ref 81)] SI SJ (fun r1 SI2 SJ2 => DoI E 155 [(.long (a1).toInt64), (.long (i6 0)), (.long (r1 - (i3 1)).toInt64)] SI2 SJ2 (fun r3 SI4 SJ4 => (r3 = 0 ∨ r3 = 1) ∧ (Q r3 SI4 SJ4)))) : DoI E 179 [(.ref 81), (.int a1)] SI SJ Q := by
  refine gj_start (M := mt_179) ok_179 (Nat.le_of_ble_eq_true rfl) ?_
  refine gj_goq gj_clT ok_179 [7, 13] ?_
  show gj_Do E om0 (gj_mt 176) [(.ref 81)] SI SJ _
  refine gj_Do.mono h (fun v_ SI2 SJ2 h_ => ?_)
  obtain ⟨r1, rfl, q1⟩ := h_
  show gj_Goes E om0 mt_179 7 [some (.ref 81), some (.int a1)] [(.int r1), (.long (i6 0)), (.long (a1).toInt64)] SI2 SJ2 (QI Q)
  refine gj_goq gj_clT ok_179 [7, 13] ?_
  show gj_Do E om0 (gj_mt 155) [(.long (a1).toInt64), (.long (i6 0)), (.long (r1 - (i3 1)).toInt64)] SI2 SJ2 _
  refine gj_Do.mono q1 (fun v_ SI4 SJ4 h_ => ?_)
  obtain ⟨r3, rfl, q2⟩ := h_
  show gj_Goes E om0 mt_179 13 [some (.ref 81), some (.int a1)] [(.int r3)] SI4 SJ4 (QI Q)
  refine gj_goq gj_clT ok_179 [7, 13] ?_
  show (r3 = 0 ∨ r3 = 1) ∧ (QI Q (some (.int r3)) SI4 SJ4)
  have k3 := q2.1
  refine ⟨k3, ?_⟩
  exact ⟨_, rfl, q2.2⟩
set_option maxRecDepth 20000 in
/-- GraspJudgeModel.fingerAt -/
theorem st_180 {E : gj_E} {Q : Int32 → gj_I → gj_J → Prop} (a1 : Int32) (a2 : Int32) (SI : gj_I) (SJ : gj_J) (h : GoI E mt_180 2 [some (.ref 81), some (.int a1), some (.int a2), some (.int (i3 0))] SI SJ Q) : DoI E 180 [(.ref 81), (.int a1), (.int a2)] SI SJ Q := by
  refine gj_start (M := mt_180) ok_180 (Nat.le_of_ble_eq_true rfl) ?_
  refine gj_goq gj_clT ok_180 [2] ?_
  show gj_Goes E om0 mt_180 2 [some (.ref 81), some (.int a1), some (.int a2), some (.int (i3 0))] [] SI SJ (QI Q)
  exact h
set_option maxRecDepth 20000 in
theorem lp_180_2 {E : gj_E} {Q : Int32 → gj_I → gj_J → Prop} (x1 : Int32) (x2 : Int32) (x3 : Int32) (SI : gj_I) (SJ : gj_J) (h : ((SI 82 17) ≤ x3 → Q (i3 (-1)) SI SJ) ∧ (¬ (SI 82 17) ≤ x3 → vp_in ((i3 18) + x3) 135 ∧ ((¬ (SI 82 (gj_n ((i3 18) + x3))) = x1 → GoI E mt_180 2 [some (.ref 81), some (.int x1), some (.int x2), some (.int (x3 + (i3 1)))] SI SJ Q) ∧ ((SI 82 (gj_n ((i3 18) + x3))) = x1 → vp_in ((i3 24) + x3) 135 ∧ ((¬ (SI 82 (gj_n ((i3 24) + x3))) = x2 → GoI E mt_180 2 [some (.ref 81), some (.int x1), some (.int x2), some (.int (x3 + (i3 1)))] SI SJ Q) ∧ ((SI 82 (gj_n ((i3 24) + x3))) = x2 → Q x3 SI SJ)))))) : GoI E mt_180 2 [some (.ref 81), some (.int x1), some (.int x2), some (.int x3)] SI SJ Q := by
  refine gj_goq gj_clT ok_180 [2] ?_
  show vp_in (i3 17) 135 ∧ (((SI 82 17) ≤ x3 → gj_Goes E om0 mt_180 47 [some (.ref 81), some (.int x1), some (.int x2), some (.int x3)] [] SI SJ (QI Q)) ∧ (¬ (SI 82 17) ≤ x3 → vp_in ((i3 18) + x3) 135 ∧ ((¬ (SI 82 (gj_n ((i3 18) + x3))) = x1 → gj_Goes E om0 mt_180 41 [some (.ref 81), some (.int x1), some (.int x2), some (.int x3)] [] SI SJ (QI Q)) ∧ ((SI 82 (gj_n ((i3 18) + x3))) = x1 → vp_in ((i3 24) + x3) 135 ∧ ((¬ (SI 82 (gj_n ((i3 24) + x3))) = x2 → gj_Goes E om0 mt_180 41 [some (.ref 81), some (.int x1), some (.int x2), some (.int x3)] [] SI SJ (QI Q)) ∧ ((SI 82 (gj_n ((i3 24) + x3))) = x2 → QI Q (some (.int x3)) SI SJ))))))
  refine ⟨(gj_vin (by decide)), ?_⟩
  refine ⟨fun c1 => ?_, fun c1 => ?_⟩
  · refine gj_goq gj_clT ok_180 [2] ?_
    show QI Q (some (.int (i3 (-1)))) SI SJ
    exact ⟨_, rfl, (h.1 c1)⟩
  · have k2 := (h.2 c1).1
    refine ⟨k2, ?_⟩
    refine ⟨fun c3 => ?_, fun c3 => ?_⟩
    · refine gj_goq gj_clT ok_180 [2] ?_
      show gj_Goes E om0 mt_180 2 [some (.ref 81), some (.int x1), some (.int x2), some (.int (x3 + (i3 1)))] [] SI SJ (QI Q)
      exact ((h.2 c1).2.1 c3)
    · have k4 := ((h.2 c1).2.2 c3).1
      refine ⟨k4, ?_⟩
      refine ⟨fun c5 => ?_, fun c5 => ?_⟩
      · refine gj_goq gj_clT ok_180 [2] ?_
        show gj_Goes E om0 mt_180 2 [some (.ref 81), some (.int x1), some (.int x2), some (.int (x3 + (i3 1)))] [] SI SJ (QI Q)
        exact (((h.2 c1).2.2 c3).2.1 c5)
      · exact ⟨_, rfl, (((h.2 c1).2.2 c3).2.2 c5)⟩
set_option maxRecDepth 20000 in
/-- GraspJudgeModel.isFinger -/
theorem st_181 {E : gj_E} {Q : Int32 → gj_I → gj_J → Prop} (a1 : Int32) (SI : gj_I) (SJ : gj_J) (h : DoI E 155 [(.long (a1).toInt64), (.long (i6 0)), (.long ((SI 82 17) - (i3 1)).toInt64)] SI SJ (fun r1 SI2 SJ2 => (r1 = 0 ∨ r1 = 1) ∧ (Q r1 SI2 SJ2))) : DoI E 181 [(.ref 81), (.int a1)] SI SJ Q := by
  refine gj_start (M := mt_181) ok_181 (Nat.le_of_ble_eq_true rfl) ?_
  refine gj_goq gj_clT ok_181 [16] ?_
  show vp_in (i3 17) 135 ∧ (gj_Do E om0 (gj_mt 155) [(.long (a1).toInt64), (.long (i6 0)), (.long ((SI 82 17) - (i3 1)).toInt64)] SI SJ _)
  refine ⟨(gj_vin (by decide)), ?_⟩
  refine gj_Do.mono h (fun v_ SI2 SJ2 h_ => ?_)
  obtain ⟨r1, rfl, q1⟩ := h_
  show gj_Goes E om0 mt_181 16 [some (.ref 81), some (.int a1)] [(.int r1)] SI2 SJ2 (QI Q)
  refine gj_goq gj_clT ok_181 [16] ?_
  show (r1 = 0 ∨ r1 = 1) ∧ (QI Q (some (.int r1)) SI2 SJ2)
  have k2 := q1.1
  refine ⟨k2, ?_⟩
  exact ⟨_, rfl, q1.2⟩
set_option maxRecDepth 20000 in
/-- GraspJudgeModel.comesForce -/
theorem st_182 {E : gj_E} {Q : gj_I → gj_J → Prop} (a1 : Int32) (a2 : Int32) (a3 : Int64) (a4 : Int64) (a5 : Int32) (SI : gj_I) (SJ : gj_J) (h : DoL E 161 [(.long a3), (.long a4)] SI SJ (fun r1 SI2 SJ2 => ¬ r1 = 0 ∧ (vp_in (SI2 81 8) 16 ∧ (DoI E 168 [(.ref 81), (.int a1), (.int a2)] SI2 (gj_w2 (gj_w2 SJ2 85 (gj_n (SI2 81 8)) (a3 / r1)) 86 (gj_n (SI2 81 8)) (a4 / r1)) (fun r3 SI4 SJ4 => vp_in (SI4 81 8) 16 ∧ (DoI E 169 [(.ref 81), (.int a1), (.int a2)] SI4 SJ4 (fun r5 SI6 SJ6 => vp_in (SI6 81 8) 16 ∧ (Q (gj_u2 (gj_u2 SI6 88 (gj_n (SI6 81 8)) a5) 81 8 ((SI6 81 8) + (i3 1))) (gj_w2 SJ6 87 (gj_n (SI2 81 8)) (((r3 - (SI4 82 32)).toInt64 * (SJ4 86 (gj_n (SI4 81 8)))) - ((r5 - (SI6 82 33)).toInt64 * (SJ6 85 (gj_n (SI6 81 8)))))))))))))) : DoV E 182 [(.ref 81), (.int a1), (.int a2), (.long a3), (.long a4), (.int a5)] SI SJ Q := by
  refine gj_start (M := mt_182) ok_182 (Nat.le_of_ble_eq_true rfl) ?_
  refine gj_goq gj_clT ok_182 [6, 49, 74] ?_
  show gj_Do E om0 (gj_mt 161) [(.long a3), (.long a4)] SI SJ _
  refine gj_Do.mono h (fun v_ SI2 SJ2 h_ => ?_)
  obtain ⟨r1, rfl, q1⟩ := h_
  show gj_Goes E om0 mt_182 6 [some (.ref 81), some (.int a1), some (.int a2), some (.long a3), none, some (.long a4), none, some (.int a5), none, none] [(.long r1)] SI2 SJ2 (QV Q)
  refine gj_goq gj_clT ok_182 [6, 49, 74] ?_
  show ¬ r1 = 0 ∧ (vp_in (SI2 81 8) 16 ∧ (¬ r1 = 0 ∧ (vp_in (SI2 81 8) 16 ∧ (gj_Do E om0 (gj_mt 168) [(.ref 81), (.int a1), (.int a2)] SI2 (gj_w2 (gj_w2 SJ2 85 (gj_n (SI2 81 8)) (a3 / r1)) 86 (gj_n (SI2 81 8)) (a4 / r1)) _))))
  have k2 := q1.1
  refine ⟨k2, ?_⟩
  have k3 := q1.2.1
  refine ⟨k3, ?_⟩
  refine ⟨k2, ?_⟩
  refine ⟨k3, ?_⟩
  refine gj_Do.mono q1.2.2 (fun v_ SI4 SJ4 h_ => ?_)
  obtain ⟨r3, rfl, q4⟩ := h_
  show gj_Goes E om0 mt_182 49 [some (.ref 81), some (.int a1), some (.int a2), some (.long a3), none, some (.long a4), none, some (.int a5), some (.long r1), none] [(.int r3), (.int (SI2 81 8)), (.ref 87)] SI4 SJ4 (QV Q)
  refine gj_goq gj_clT ok_182 [6, 49, 74] ?_
  show vp_in (i3 32) 135 ∧ (vp_in (SI4 81 8) 16 ∧ (gj_Do E om0 (gj_mt 169) [(.ref 81), (.int a1), (.int a2)] SI4 SJ4 _))
  refine ⟨(gj_vin (by decide)), ?_⟩
  have k5 := q4.1
  refine ⟨k5, ?_⟩
  refine gj_Do.mono q4.2 (fun v_ SI6 SJ6 h_ => ?_)
  obtain ⟨r5, rfl, q6⟩ := h_
  show gj_Goes E om0 mt_182 74 [some (.ref 81), some (.int a1), some (.int a2), some (.long a3), none, some (.long a4), none, some (.int a5), some (.long r1), none] [(.int r5), (.long ((r3 - (SI4 82 32)).toInt64 * (SJ4 86 (gj_n (SI4 81 8))))), (.int (SI2 81 8)), (.ref 87)] SI6 SJ6 (QV Q)
  refine gj_goq gj_clT ok_182 [6, 49, 74] ?_
  show vp_in (i3 33) 135 ∧ (vp_in (SI6 81 8) 16 ∧ (vp_in (SI2 81 8) 16 ∧ (vp_in (SI6 81 8) 16 ∧ (QV Q none (gj_u2 (gj_u2 SI6 88 (gj_n (SI6 81 8)) a5) 81 8 ((SI6 81 8) + (i3 1))) (gj_w2 SJ6 87 (gj_n (SI2 81 8)) (((r3 - (SI4 82 32)).toInt64 * (SJ4 86 (gj_n (SI4 81 8)))) - ((r5 - (SI6 82 33)).toInt64 * (SJ6 85 (gj_n (SI6 81 8))))))))))
  refine ⟨(gj_vin (by decide)), ?_⟩
  have k7 := q6.1
  refine ⟨k7, ?_⟩
  refine ⟨k3, ?_⟩
  refine ⟨k7, ?_⟩
  exact ⟨rfl, q6.2⟩
set_option maxRecDepth 20000 in
/-- GraspJudgeModel.comesFinger -/
theorem st_183 {E : gj_E} {Q : gj_I → gj_J → Prop} (a1 : Int32) (a2 : Int32) (a3 : Int32) (SI : gj_I) (SJ : gj_J) (h : DoI E 166 [(.ref 81), (.int a1)] SI SJ (fun r1 SI2 SJ2 => DoI E 167 [(.ref 81), (.int a1)] SI2 SJ2 (fun r3 SI4 SJ4 => (¬ (SI 82 30).toInt64 = (i6 0) → DoV E 182 [(.ref 81), (.int a1), (.int a2), (.long (((-(SI 82 31).toInt64) * (r3).toInt64) + ((SI 82 30).toInt64 * (r1).toInt64))), (.long (((SI 82 31).toInt64 * (r1).toInt64) + ((SI 82 30).toInt64 * (r3).toInt64))), (.int a3)] SI4 SJ4 (fun SI6 SJ6 => DoV E 182 [(.ref 81), (.int a1), (.int a2), (.long (((-(SI 82 31).toInt64) * (r3).toInt64) - ((SI 82 30).toInt64 * (r1).toInt64))), (.long (((SI 82 31).toInt64 * (r1).toInt64) - ((SI 82 30).toInt64 * (r3).toInt64))), (.int a3)] SI6 SJ6 (fun SI8 SJ8 => Q SI8 SJ8))) ∧ ((SI 82 30).toInt64 = (i6 0) → DoV E 182 [(.ref 81), (.int a1), (.int a2), (.long (-(r3).toInt64)), (.long (r1).toInt64), (.int a3)] SI4 SJ4 (fun SI10 SJ10 => Q SI10 SJ10))))) : DoV E 183 [(.ref 81), (.int a1), (.int a2), (.int a3)] SI SJ Q := by
  refine gj_start (M := mt_183) ok_183 (Nat.le_of_ble_eq_true rfl) ?_
  refine gj_goq gj_clT ok_183 [25, 33, 55, 86, 116] ?_
  show vp_in (i3 30) 135 ∧ (vp_in (i3 31) 135 ∧ (gj_Do E om0 (gj_mt 166) [(.ref 81), (.int a1)] SI SJ _))
  refine ⟨(gj_vin (by decide)), ?_⟩
  refine ⟨(gj_vin (by decide)), ?_⟩
  refine gj_Do.mono h (fun v_ SI2 SJ2 h_ => ?_)
  obtain ⟨r1, rfl, q1⟩ := h_
  show gj_Goes E om0 mt_183 25 [some (.ref 81), some (.int a1), some (.int a2), some (.int a3), some (.long (SI 82 30).toInt64), none, some (.long (SI 82 31).toInt64), none, none, none, none, none] [(.int r1)] SI2 SJ2 (QV Q)
  refine gj_goq gj_clT ok_183 [25, 33, 55, 86, 116] ?_
  show gj_Do E om0 (gj_mt 167) [(.ref 81), (.int a1)] SI2 SJ2 _
  refine gj_Do.mono q1 (fun v_ SI4 SJ4 h_ => ?_)
  obtain ⟨r3, rfl, q2⟩ := h_
  show gj_Goes E om0 mt_183 33 [some (.ref 81), some (.int a1), some (.int a2), some (.int a3), some (.long (SI 82 30).toInt64), none, some (.long (SI 82 31).toInt64), none, some (.long (r1).toInt64), none, none, none] [(.int r3)] SI4 SJ4 (QV Q)
  refine gj_goq gj_clT ok_183 [25, 33, 55, 86, 116] ?_
  show (¬ (lg_cmp (SI 82 30).toInt64 (i6 0)) = 0 → gj_Goes E om0 mt_183 56 [some (.ref 81), some (.int a1), some (.int a2), some (.int a3), some (.long (SI 82 30).toInt64), none, some (.long (SI 82 31).toInt64), none, some (.long (r1).toInt64), none, some (.long (r3).toInt64), none] [] SI4 SJ4 (QV Q)) ∧ ((lg_cmp (SI 82 30).toInt64 (i6 0)) = 0 → gj_Do E om0 (gj_mt 182) [(.ref 81), (.int a1), (.int a2), (.long (-(r3).toInt64)), (.long (r1).toInt64), (.int a3)] SI4 SJ4 _)
  refine ⟨fun c3 => ?_, fun c3 => ?_⟩
  · refine gj_goq gj_clT ok_183 [25, 33, 55, 86, 116] ?_
    show gj_Do E om0 (gj_mt 182) [(.ref 81), (.int a1), (.int a2), (.long (((-(SI 82 31).toInt64) * (r3).toInt64) + ((SI 82 30).toInt64 * (r1).toInt64))), (.long (((SI 82 31).toInt64 * (r1).toInt64) + ((SI 82 30).toInt64 * (r3).toInt64))), (.int a3)] SI4 SJ4 _
    refine gj_Do.mono (q2.1 (fun z_ => c3 (lgc_eq.mpr z_))) (fun v_ SI6 SJ6 h_ => ?_)
    obtain ⟨rfl, q4⟩ := h_
    show gj_Goes E om0 mt_183 86 [some (.ref 81), some (.int a1), some (.int a2), some (.int a3), some (.long (SI 82 30).toInt64), none, some (.long (SI 82 31).toInt64), none, some (.long (r1).toInt64), none, some (.long (r3).toInt64), none] [] SI6 SJ6 (QV Q)
    refine gj_goq gj_clT ok_183 [25, 33, 55, 86, 116] ?_
    show gj_Do E om0 (gj_mt 182) [(.ref 81), (.int a1), (.int a2), (.long (((-(SI 82 31).toInt64) * (r3).toInt64) - ((SI 82 30).toInt64 * (r1).toInt64))), (.long (((SI 82 31).toInt64 * (r1).toInt64) - ((SI 82 30).toInt64 * (r3).toInt64))), (.int a3)] SI6 SJ6 _
    refine gj_Do.mono q4 (fun v_ SI8 SJ8 h_ => ?_)
    obtain ⟨rfl, q5⟩ := h_
    show gj_Goes E om0 mt_183 116 [some (.ref 81), some (.int a1), some (.int a2), some (.int a3), some (.long (SI 82 30).toInt64), none, some (.long (SI 82 31).toInt64), none, some (.long (r1).toInt64), none, some (.long (r3).toInt64), none] [] SI8 SJ8 (QV Q)
    refine gj_goq gj_clT ok_183 [25, 33, 55, 86, 116] ?_
    show QV Q none SI8 SJ8
    exact ⟨rfl, q5⟩
  · refine gj_Do.mono (q2.2 (lgc_eq.mp c3)) (fun v_ SI10 SJ10 h_ => ?_)
    obtain ⟨rfl, q6⟩ := h_
    show gj_Goes E om0 mt_183 55 [some (.ref 81), some (.int a1), some (.int a2), some (.int a3), some (.long (SI 82 30).toInt64), none, some (.long (SI 82 31).toInt64), none, some (.long (r1).toInt64), none, some (.long (r3).toInt64), none] [] SI10 SJ10 (QV Q)
    refine gj_goq gj_clT ok_183 [25, 33, 55, 86, 116] ?_
    show QV Q none SI10 SJ10
    exact ⟨rfl, q6⟩
set_option maxRecDepth 20000 in
/-- GraspJudgeModel.lays -/
theorem st_184 {E : gj_E} {Q : gj_I → gj_J → Prop} (SI : gj_I) (SJ : gj_J) (h : GoV E mt_184 7 [some (.ref 81), some (.int (i3 0))] (gj_u2 SI 81 8 (i3 0)) SJ Q) : DoV E 184 [(.ref 81)] SI SJ Q := by
  refine gj_start (M := mt_184) ok_184 (Nat.le_of_ble_eq_true rfl) ?_
  refine gj_goq gj_clT ok_184 [7, 41] ?_
  show gj_Goes E om0 mt_184 7 [some (.ref 81), some (.int (i3 0))] [] (gj_u2 SI 81 8 (i3 0)) SJ (QV Q)
  exact h
set_option maxRecDepth 20000 in
theorem lp_184_7 {E : gj_E} {Q : gj_I → gj_J → Prop} (x1 : Int32) (SI : gj_I) (SJ : gj_J) (h : ((SI 82 17) ≤ x1 → Q SI SJ) ∧ (¬ (SI 82 17) ≤ x1 → vp_in ((i3 18) + x1) 135 ∧ (vp_in ((i3 24) + x1) 135 ∧ (DoV E 183 [(.ref 81), (.int (SI 82 (gj_n ((i3 18) + x1)))), (.int (SI 82 (gj_n ((i3 24) + x1)))), (.int x1)] SI SJ (fun SI2 SJ2 => GoV E mt_184 7 [some (.ref 81), some (.int (x1 + (i3 1)))] SI2 SJ2 Q))))) : GoV E mt_184 7 [some (.ref 81), some (.int x1)] SI SJ Q := by
  refine gj_goq gj_clT ok_184 [7, 41] ?_
  show vp_in (i3 17) 135 ∧ (((SI 82 17) ≤ x1 → gj_Goes E om0 mt_184 47 [some (.ref 81), some (.int x1)] [] SI SJ (QV Q)) ∧ (¬ (SI 82 17) ≤ x1 → vp_in ((i3 18) + x1) 135 ∧ (vp_in ((i3 24) + x1) 135 ∧ (gj_Do E om0 (gj_mt 183) [(.ref 81), (.int (SI 82 (gj_n ((i3 18) + x1)))), (.int (SI 82 (gj_n ((i3 24) + x1)))), (.int x1)] SI SJ _))))
  refine ⟨(gj_vin (by decide)), ?_⟩
  refine ⟨fun c1 => ?_, fun c1 => ?_⟩
  · refine gj_goq gj_clT ok_184 [7, 41] ?_
    show QV Q none SI SJ
    exact ⟨rfl, (h.1 c1)⟩
  · have k2 := (h.2 c1).1
    refine ⟨k2, ?_⟩
    have k3 := (h.2 c1).2.1
    refine ⟨k3, ?_⟩
    refine gj_Do.mono (h.2 c1).2.2 (fun v_ SI2 SJ2 h_ => ?_)
    obtain ⟨rfl, q4⟩ := h_
    show gj_Goes E om0 mt_184 41 [some (.ref 81), some (.int x1)] [] SI2 SJ2 (QV Q)
    refine gj_goq gj_clT ok_184 [7, 41] ?_
    show gj_Goes E om0 mt_184 7 [some (.ref 81), some (.int (x1 + (i3 1)))] [] SI2 SJ2 (QV Q)
    exact q4
set_option maxRecDepth 20000 in
/-- GraspJudgeModel.all -/
theorem st_185 {E : gj_E} {Q : Int32 → gj_I → gj_J → Prop} (SI : gj_I) (SJ : gj_J) (h : Q (((i3 1) <<< ((SI 81 8) &&& 31)) - (i3 1)) SI SJ) : DoI E 185 [(.ref 81)] SI SJ Q := by
  refine gj_start (M := mt_185) ok_185 (Nat.le_of_ble_eq_true rfl) ?_
  refine gj_goq gj_clT ok_185 [] ?_
  show QI Q (some (.int (((i3 1) <<< ((SI 81 8) &&& 31)) - (i3 1)))) SI SJ
  exact ⟨_, rfl, h⟩
set_option maxRecDepth 20000 in
/-- GraspJudgeModel.wrenchesOf -/
theorem st_186 {E : gj_E} {Q : Int32 → gj_I → gj_J → Prop} (a1 : Int32) (SI : gj_I) (SJ : gj_J) (h : GoI E mt_186 4 [some (.ref 81), some (.int a1), some (.int (i3 0)), some (.int (i3 0))] SI SJ Q) : DoI E 186 [(.ref 81), (.int a1)] SI SJ Q := by
  refine gj_start (M := mt_186) ok_186 (Nat.le_of_ble_eq_true rfl) ?_
  refine gj_goq gj_clT ok_186 [4, 22] ?_
  show gj_Goes E om0 mt_186 4 [some (.ref 81), some (.int a1), some (.int (i3 0)), some (.int (i3 0))] [] SI SJ (QI Q)
  exact h
set_option maxRecDepth 20000 in
theorem lp_186_4 {E : gj_E} {Q : Int32 → gj_I → gj_J → Prop} (x1 : Int32) (x2 : Int32) (x3 : Int32) (SI : gj_I) (SJ : gj_J) (h : ((SI 81 8) ≤ x3 → Q x2 SI SJ) ∧ (¬ (SI 81 8) ≤ x3 → vp_in x3 16 ∧ (DoI E 159 [(.int x1), (.int (SI 88 (gj_n x3)))] SI SJ (fun r1 SI2 SJ2 => (r1 = 0 → GoI E mt_186 4 [some (.ref 81), some (.int x1), some (.int x2), some (.int (x3 + (i3 1)))] SI2 SJ2 Q) ∧ (¬ r1 = 0 → GoI E mt_186 4 [some (.ref 81), some (.int x1), some (.int (x2 ||| ((i3 1) <<< (x3 &&& 31)))), some (.int (x3 + (i3 1)))] SI2 SJ2 Q))))) : GoI E mt_186 4 [some (.ref 81), some (.int x1), some (.int x2), some (.int x3)] SI SJ Q := by
  refine gj_goq gj_clT ok_186 [4, 22] ?_
  show ((SI 81 8) ≤ x3 → gj_Goes E om0 mt_186 37 [some (.ref 81), some (.int x1), some (.int x2), some (.int x3)] [] SI SJ (QI Q)) ∧ (¬ (SI 81 8) ≤ x3 → vp_in x3 16 ∧ (gj_Do E om0 (gj_mt 159) [(.int x1), (.int (SI 88 (gj_n x3)))] SI SJ _))
  refine ⟨fun c1 => ?_, fun c1 => ?_⟩
  · refine gj_goq gj_clT ok_186 [4, 22] ?_
    show QI Q (some (.int x2)) SI SJ
    exact ⟨_, rfl, (h.1 c1)⟩
  · have k2 := (h.2 c1).1
    refine ⟨k2, ?_⟩
    refine gj_Do.mono (h.2 c1).2 (fun v_ SI2 SJ2 h_ => ?_)
    obtain ⟨r1, rfl, q3⟩ := h_
    show gj_Goes E om0 mt_186 22 [some (.ref 81), some (.int x1), some (.int x2), some (.int x3)] [(.int r1)] SI2 SJ2 (QI Q)
    refine gj_goq gj_clT ok_186 [4, 22] ?_
    show (r1 = 0 → gj_Goes E om0 mt_186 31 [some (.ref 81), some (.int x1), some (.int x2), some (.int x3)] [] SI2 SJ2 (QI Q)) ∧ (¬ r1 = 0 → gj_Goes E om0 mt_186 4 [some (.ref 81), some (.int x1), some (.int (x2 ||| ((i3 1) <<< (x3 &&& 31)))), some (.int (x3 + (i3 1)))] [] SI2 SJ2 (QI Q))
    refine ⟨fun c4 => ?_, fun c4 => ?_⟩
    · refine gj_goq gj_clT ok_186 [4, 22] ?_
      show gj_Goes E om0 mt_186 4 [some (.ref 81), some (.int x1), some (.int x2), some (.int (x3 + (i3 1)))] [] SI2 SJ2 (QI Q)
      exact (q3.1 c4)
    · exact (q3.2 c4)
set_option maxRecDepth 20000 in
/-- GraspJudgeModel.crosses -/
theorem st_187 {E : gj_E} {Q : gj_I → gj_J → Prop} (a1 : Int32) (a2 : Int32) (SI : gj_I) (SJ : gj_J) (h : vp_in a1 16 ∧ (vp_in a2 16 ∧ (Q SI (gj_w2 (gj_w2 (gj_w2 SJ 81 9 (((SJ 86 (gj_n a1)) * (SJ 87 (gj_n a2))) - ((SJ 87 (gj_n a1)) * (SJ 86 (gj_n a2))))) 81 10 (((SJ 87 (gj_n a1)) * (SJ 85 (gj_n a2))) - ((SJ 85 (gj_n a1)) * (SJ 87 (gj_n a2))))) 81 11 (((SJ 85 (gj_n a1)) * (SJ 86 (gj_n a2))) - ((SJ 86 (gj_n a1)) * (SJ 85 (gj_n a2)))))))) : DoV E 187 [(.ref 81), (.int a1), (.int a2)] SI SJ Q := by
  refine gj_start (M := mt_187) ok_187 (Nat.le_of_ble_eq_true rfl) ?_
  refine gj_goq gj_clT ok_187 [] ?_
  show vp_in a1 16 ∧ (vp_in a2 16 ∧ (vp_in a1 16 ∧ (vp_in a2 16 ∧ (vp_in a1 16 ∧ (vp_in a2 16 ∧ (vp_in a1 16 ∧ (vp_in a2 16 ∧ (vp_in a1 16 ∧ (vp_in a2 16 ∧ (vp_in a1 16 ∧ (vp_in a2 16 ∧ (QV Q none SI (gj_w2 (gj_w2 (gj_w2 SJ 81 9 (((SJ 86 (gj_n a1)) * (SJ 87 (gj_n a2))) - ((SJ 87 (gj_n a1)) * (SJ 86 (gj_n a2))))) 81 10 (((SJ 87 (gj_n a1)) * (SJ 85 (gj_n a2))) - ((SJ 85 (gj_n a1)) * (SJ 87 (gj_n a2))))) 81 11 (((SJ 85 (gj_n a1)) * (SJ 86 (gj_n a2))) - ((SJ 86 (gj_n a1)) * (SJ 85 (gj_n a2)))))))))))))))))
  have k1 := h.1
  refine ⟨k1, ?_⟩
  have k2 := h.2.1
  refine ⟨k2, ?_⟩
  refine ⟨k1, ?_⟩
  refine ⟨k2, ?_⟩
  refine ⟨k1, ?_⟩
  refine ⟨k2, ?_⟩
  refine ⟨k1, ?_⟩
  refine ⟨k2, ?_⟩
  refine ⟨k1, ?_⟩
  refine ⟨k2, ?_⟩
  refine ⟨k1, ?_⟩
  refine ⟨k2, ?_⟩
  exact ⟨rfl, h.2.2⟩
set_option maxRecDepth 20000 in
/-- GraspJudgeModel.isNothing -/
theorem st_188 {E : gj_E} {Q : Int32 → gj_I → gj_J → Prop} (SI : gj_I) (SJ : gj_J) (h : (¬ (SJ 81 9) = (i6 0) → Q (i3 0) SI SJ) ∧ ((SJ 81 9) = (i6 0) → (¬ (SJ 81 10) = (i6 0) → Q (i3 0) SI SJ) ∧ ((SJ 81 10) = (i6 0) → (¬ (SJ 81 11) = (i6 0) → Q (i3 0) SI SJ) ∧ ((SJ 81 11) = (i6 0) → Q (i3 1) SI SJ)))) : DoI E 188 [(.ref 81)] SI SJ Q := by
  refine gj_start (M := mt_188) ok_188 (Nat.le_of_ble_eq_true rfl) ?_
  refine gj_goq gj_clT ok_188 [] ?_
  show (¬ (lg_cmp (SJ 81 9) (i6 0)) = 0 → gj_Goes E om0 mt_188 31 [some (.ref 81)] [] SI SJ (QI Q)) ∧ ((lg_cmp (SJ 81 9) (i6 0)) = 0 → (¬ (lg_cmp (SJ 81 10) (i6 0)) = 0 → gj_Goes E om0 mt_188 31 [some (.ref 81)] [] SI SJ (QI Q)) ∧ ((lg_cmp (SJ 81 10) (i6 0)) = 0 → (¬ (lg_cmp (SJ 81 11) (i6 0)) = 0 → gj_Goes E om0 mt_188 31 [some (.ref 81)] [] SI SJ (QI Q)) ∧ ((lg_cmp (SJ 81 11) (i6 0)) = 0 → gj_Goes E om0 mt_188 32 [some (.ref 81)] [(.int (i3 1))] SI SJ (QI Q))))
  refine ⟨fun c1 => ?_, fun c1 => ?_⟩
  · refine gj_goq gj_clT ok_188 [] ?_
    show ((i3 0) = 0 ∨ (i3 0) = 1) ∧ (QI Q (some (.int (i3 0))) SI SJ)
    refine ⟨(Or.inl rfl), ?_⟩
    exact ⟨_, rfl, (h.1 (fun z_ => c1 (lgc_eq.mpr z_)))⟩
  · refine ⟨fun c2 => ?_, fun c2 => ?_⟩
    · refine gj_goq gj_clT ok_188 [] ?_
      show ((i3 0) = 0 ∨ (i3 0) = 1) ∧ (QI Q (some (.int (i3 0))) SI SJ)
      refine ⟨(Or.inl rfl), ?_⟩
      exact ⟨_, rfl, ((h.2 (lgc_eq.mp c1)).1 (fun z_ => c2 (lgc_eq.mpr z_)))⟩
    · refine ⟨fun c3 => ?_, fun c3 => ?_⟩
      · refine gj_goq gj_clT ok_188 [] ?_
        show ((i3 0) = 0 ∨ (i3 0) = 1) ∧ (QI Q (some (.int (i3 0))) SI SJ)
        refine ⟨(Or.inl rfl), ?_⟩
        exact ⟨_, rfl, (((h.2 (lgc_eq.mp c1)).2 (lgc_eq.mp c2)).1 (fun z_ => c3 (lgc_eq.mpr z_)))⟩
      · refine gj_goq gj_clT ok_188 [] ?_
        show ((i3 1) = 0 ∨ (i3 1) = 1) ∧ (QI Q (some (.int (i3 1))) SI SJ)
        refine ⟨(Or.inr rfl), ?_⟩
        exact ⟨_, rfl, (((h.2 (lgc_eq.mp c1)).2 (lgc_eq.mp c2)).2 (lgc_eq.mp c3))⟩
set_option maxRecDepth 20000 in
/-- GraspJudgeModel.lowers -/
theorem st_189 {E : gj_E} {Q : gj_I → gj_J → Prop} (SI : gj_I) (SJ : gj_J) (h : DoL E 161 [(.long (SJ 81 9)), (.long (SJ 81 10))] SI SJ (fun r1 SI2 SJ2 => DoL E 161 [(.long r1), (.long (SJ2 81 11))] SI2 SJ2 (fun r3 SI4 SJ4 => (¬ r3 = (i6 0) → ¬ r3 = 0 ∧ (Q SI4 (gj_w2 (gj_w2 (gj_w2 SJ4 81 9 ((SJ4 81 9) / r3)) 81 10 ((SJ4 81 10) / r3)) 81 11 ((SJ4 81 11) / r3)))) ∧ (r3 = (i6 0) → Q SI4 SJ4)))) : DoV E 189 [(.ref 81)] SI SJ Q := by
  refine gj_start (M := mt_189) ok_189 (Nat.le_of_ble_eq_true rfl) ?_
  refine gj_goq gj_clT ok_189 [11, 18] ?_
  show gj_Do E om0 (gj_mt 161) [(.long (SJ 81 9)), (.long (SJ 81 10))] SI SJ _
  refine gj_Do.mono h (fun v_ SI2 SJ2 h_ => ?_)
  obtain ⟨r1, rfl, q1⟩ := h_
  show gj_Goes E om0 mt_189 11 [some (.ref 81), none, none] [(.long r1)] SI2 SJ2 (QV Q)
  refine gj_goq gj_clT ok_189 [11, 18] ?_
  show gj_Do E om0 (gj_mt 161) [(.long r1), (.long (SJ2 81 11))] SI2 SJ2 _
  refine gj_Do.mono q1 (fun v_ SI4 SJ4 h_ => ?_)
  obtain ⟨r3, rfl, q2⟩ := h_
  show gj_Goes E om0 mt_189 18 [some (.ref 81), none, none] [(.long r3)] SI4 SJ4 (QV Q)
  refine gj_goq gj_clT ok_189 [11, 18] ?_
  show (¬ (lg_cmp r3 (i6 0)) = 0 → gj_Goes E om0 mt_189 26 [some (.ref 81), some (.long r3), none] [] SI4 SJ4 (QV Q)) ∧ ((lg_cmp r3 (i6 0)) = 0 → QV Q none SI4 SJ4)
  refine ⟨fun c3 => ?_, fun c3 => ?_⟩
  · refine gj_goq gj_clT ok_189 [11, 18] ?_
    show ¬ r3 = 0 ∧ (¬ r3 = 0 ∧ (¬ r3 = 0 ∧ (QV Q none SI4 (gj_w2 (gj_w2 (gj_w2 SJ4 81 9 ((SJ4 81 9) / r3)) 81 10 ((SJ4 81 10) / r3)) 81 11 ((SJ4 81 11) / r3)))))
    have k4 := (q2.1 (fun z_ => c3 (lgc_eq.mpr z_))).1
    refine ⟨k4, ?_⟩
    refine ⟨k4, ?_⟩
    refine ⟨k4, ?_⟩
    exact ⟨rfl, (q2.1 (fun z_ => c3 (lgc_eq.mpr z_))).2⟩
  · exact ⟨rfl, (q2.2 (lgc_eq.mp c3))⟩
set_option maxRecDepth 20000 in
/-- GraspJudgeModel.turnsRow -/
theorem st_190 {E : gj_E} {Q : gj_I → gj_J → Prop} (SI : gj_I) (SJ : gj_J) (h : Q SI (gj_w2 (gj_w2 (gj_w2 SJ 81 9 (-(SJ 81 9))) 81 10 (-(SJ 81 10))) 81 11 (-(SJ 81 11)))) : DoV E 190 [(.ref 81)] SI SJ Q := by
  refine gj_start (M := mt_190) ok_190 (Nat.le_of_ble_eq_true rfl) ?_
  refine gj_goq gj_clT ok_190 [] ?_
  show QV Q none SI (gj_w2 (gj_w2 (gj_w2 SJ 81 9 (-(SJ 81 9))) 81 10 (-(SJ 81 10))) 81 11 (-(SJ 81 11)))
  exact ⟨rfl, h⟩
set_option maxRecDepth 20000 in
/-- GraspJudgeModel.makes -/
theorem st_191 {E : gj_E} {Q : Int64 → gj_I → gj_J → Prop} (a1 : Int32) (SI : gj_I) (SJ : gj_J) (h : vp_in a1 16 ∧ (Q ((((SJ 81 9) * (SJ 85 (gj_n a1))) + ((SJ 81 10) * (SJ 86 (gj_n a1)))) + ((SJ 81 11) * (SJ 87 (gj_n a1)))) SI SJ)) : DoL E 191 [(.ref 81), (.int a1)] SI SJ Q := by
  refine gj_start (M := mt_191) ok_191 (Nat.le_of_ble_eq_true rfl) ?_
  refine gj_goq gj_clT ok_191 [] ?_
  show vp_in a1 16 ∧ (vp_in a1 16 ∧ (vp_in a1 16 ∧ (QL Q (some (.long ((((SJ 81 9) * (SJ 85 (gj_n a1))) + ((SJ 81 10) * (SJ 86 (gj_n a1)))) + ((SJ 81 11) * (SJ 87 (gj_n a1)))))) SI SJ)))
  have k1 := h.1
  refine ⟨k1, ?_⟩
  refine ⟨k1, ?_⟩
  refine ⟨k1, ?_⟩
  exact ⟨_, rfl, h.2⟩
set_option maxRecDepth 20000 in
/-- GraspJudgeModel.makesNoMore -/
theorem st_192 {E : gj_E} {Q : Int32 → gj_I → gj_J → Prop} (a1 : Int32) (SI : gj_I) (SJ : gj_J) (h : GoI E mt_192 2 [some (.ref 81), some (.int a1), some (.int (i3 0))] SI SJ Q) : DoI E 192 [(.ref 81), (.int a1)] SI SJ Q := by
  refine gj_start (M := mt_192) ok_192 (Nat.le_of_ble_eq_true rfl) ?_
  refine gj_goq gj_clT ok_192 [2, 15, 23] ?_
  show gj_Goes E om0 mt_192 2 [some (.ref 81), some (.int a1), some (.int (i3 0))] [] SI SJ (QI Q)
  exact h
set_option maxRecDepth 20000 in
theorem lp_192_2 {E : gj_E} {Q : Int32 → gj_I → gj_J → Prop} (x1 : Int32) (x2 : Int32) (SI : gj_I) (SJ : gj_J) (h : ((SI 81 8) ≤ x2 → Q (i3 1) SI SJ) ∧ (¬ (SI 81 8) ≤ x2 → DoI E 159 [(.int x1), (.int x2)] SI SJ (fun r1 SI2 SJ2 => (r1 = 0 → GoI E mt_192 2 [some (.ref 81), some (.int x1), some (.int (x2 + (i3 1)))] SI2 SJ2 Q) ∧ (¬ r1 = 0 → DoL E 191 [(.ref 81), (.int x2)] SI2 SJ2 (fun r3 SI4 SJ4 => (r3 ≤ (i6 0) → GoI E mt_192 2 [some (.ref 81), some (.int x1), some (.int (x2 + (i3 1)))] SI4 SJ4 Q) ∧ (¬ r3 ≤ (i6 0) → Q (i3 0) SI4 SJ4)))))) : GoI E mt_192 2 [some (.ref 81), some (.int x1), some (.int x2)] SI SJ Q := by
  refine gj_goq gj_clT ok_192 [2, 15, 23] ?_
  show ((SI 81 8) ≤ x2 → gj_Goes E om0 mt_192 36 [some (.ref 81), some (.int x1), some (.int x2)] [] SI SJ (QI Q)) ∧ (¬ (SI 81 8) ≤ x2 → gj_Do E om0 (gj_mt 159) [(.int x1), (.int x2)] SI SJ _)
  refine ⟨fun c1 => ?_, fun c1 => ?_⟩
  · refine gj_goq gj_clT ok_192 [2, 15, 23] ?_
    show ((i3 1) = 0 ∨ (i3 1) = 1) ∧ (QI Q (some (.int (i3 1))) SI SJ)
    refine ⟨(Or.inr rfl), ?_⟩
    exact ⟨_, rfl, (h.1 c1)⟩
  · refine gj_Do.mono (h.2 c1) (fun v_ SI2 SJ2 h_ => ?_)
    obtain ⟨r1, rfl, q2⟩ := h_
    show gj_Goes E om0 mt_192 15 [some (.ref 81), some (.int x1), some (.int x2)] [(.int r1)] SI2 SJ2 (QI Q)
    refine gj_goq gj_clT ok_192 [2, 15, 23] ?_
    show (r1 = 0 → gj_Goes E om0 mt_192 30 [some (.ref 81), some (.int x1), some (.int x2)] [] SI2 SJ2 (QI Q)) ∧ (¬ r1 = 0 → gj_Do E om0 (gj_mt 191) [(.ref 81), (.int x2)] SI2 SJ2 _)
    refine ⟨fun c3 => ?_, fun c3 => ?_⟩
    · refine gj_goq gj_clT ok_192 [2, 15, 23] ?_
      show gj_Goes E om0 mt_192 2 [some (.ref 81), some (.int x1), some (.int (x2 + (i3 1)))] [] SI2 SJ2 (QI Q)
      exact (q2.1 c3)
    · refine gj_Do.mono (q2.2 c3) (fun v_ SI4 SJ4 h_ => ?_)
      obtain ⟨r3, rfl, q4⟩ := h_
      show gj_Goes E om0 mt_192 23 [some (.ref 81), some (.int x1), some (.int x2)] [(.long r3)] SI4 SJ4 (QI Q)
      refine gj_goq gj_clT ok_192 [2, 15, 23] ?_
      show ((lg_cmp r3 (i6 0)) ≤ 0 → gj_Goes E om0 mt_192 30 [some (.ref 81), some (.int x1), some (.int x2)] [] SI4 SJ4 (QI Q)) ∧ (¬ (lg_cmp r3 (i6 0)) ≤ 0 → ((i3 0) = 0 ∨ (i3 0) = 1) ∧ (QI Q (some (.int (i3 0))) SI4 SJ4))
      refine ⟨fun c5 => ?_, fun c5 => ?_⟩
      · refine gj_goq gj_clT ok_192 [2, 15, 23] ?_
        show gj_Goes E om0 mt_192 2 [some (.ref 81), some (.int x1), some (.int (x2 + (i3 1)))] [] SI4 SJ4 (QI Q)
        exact (q4.1 (lgc_le.mp c5))
      · refine ⟨(Or.inl rfl), ?_⟩
        exact ⟨_, rfl, (q4.2 (fun z_ => c5 (lgc_le.mpr z_)))⟩
set_option maxRecDepth 20000 in
/-- GraspJudgeModel.rankOf -/
theorem st_193 {E : gj_E} {Q : Int32 → gj_I → gj_J → Prop} (a1 : Int32) (SI : gj_I) (SJ : gj_J) (h : GoI E mt_193 4 [some (.ref 81), some (.int a1), some (.int (i3 0)), some (.int (i3 0)), none, none] SI SJ Q) : DoI E 193 [(.ref 81), (.int a1)] SI SJ Q := by
  refine gj_start (M := mt_193) ok_193 (Nat.le_of_ble_eq_true rfl) ?_
  refine gj_goq gj_clT ok_193 [4, 17, 28, 34, 49, 62, 66, 77, 81, 96, 105] ?_
  show gj_Goes E om0 mt_193 4 [some (.ref 81), some (.int a1), some (.int (i3 0)), some (.int (i3 0)), none, none] [] SI SJ (QI Q)
  exact h
set_option maxRecDepth 20000 in
theorem lp_193_4 {E : gj_E} {Q : Int32 → gj_I → gj_J → Prop} (x1 : Int32) (x2 : Int32) (x3 : Int32) (SI : gj_I) (SJ : gj_J) (h : ((SI 81 8) ≤ x3 → Q x2 SI SJ) ∧ (¬ (SI 81 8) ≤ x3 → DoI E 159 [(.int x1), (.int x3)] SI SJ (fun r1 SI2 SJ2 => (¬ r1 = 0 → DoI E 157 [(.int x2), (.int (i3 1))] SI2 SJ2 (fun r3 SI4 SJ4 => GoI E mt_193 34 [some (.ref 81), some (.int x1), some (.int r3), some (.int x3), some (.int (x3 + (i3 1))), none] SI4 SJ4 Q)) ∧ (r1 = 0 → GoI E mt_193 4 [some (.ref 81), some (.int x1), some (.int x2), some (.int (x3 + (i3 1))), none, none] SI2 SJ2 Q)))) : GoI E mt_193 4 [some (.ref 81), some (.int x1), some (.int x2), some (.int x3), none, none] SI SJ Q := by
  refine gj_goq gj_clT ok_193 [4, 17, 28, 34, 49, 62, 66, 77, 81, 96, 105] ?_
  show ((SI 81 8) ≤ x3 → gj_Goes E om0 mt_193 130 [some (.ref 81), some (.int x1), some (.int x2), some (.int x3), none, none] [] SI SJ (QI Q)) ∧ (¬ (SI 81 8) ≤ x3 → gj_Do E om0 (gj_mt 159) [(.int x1), (.int x3)] SI SJ _)
  refine ⟨fun c1 => ?_, fun c1 => ?_⟩
  · refine gj_goq gj_clT ok_193 [4, 17, 28, 34, 49, 62, 66, 77, 81, 96, 105] ?_
    show QI Q (some (.int x2)) SI SJ
    exact ⟨_, rfl, (h.1 c1)⟩
  · refine gj_Do.mono (h.2 c1) (fun v_ SI2 SJ2 h_ => ?_)
    obtain ⟨r1, rfl, q2⟩ := h_
    show gj_Goes E om0 mt_193 17 [some (.ref 81), some (.int x1), some (.int x2), some (.int x3), none, none] [(.int r1)] SI2 SJ2 (QI Q)
    refine gj_goq gj_clT ok_193 [4, 17, 28, 34, 49, 62, 66, 77, 81, 96, 105] ?_
    show (¬ r1 = 0 → gj_Goes E om0 mt_193 23 [some (.ref 81), some (.int x1), some (.int x2), some (.int x3), none, none] [] SI2 SJ2 (QI Q)) ∧ (r1 = 0 → gj_Goes E om0 mt_193 124 [some (.ref 81), some (.int x1), some (.int x2), some (.int x3), none, none] [] SI2 SJ2 (QI Q))
    refine ⟨fun c3 => ?_, fun c3 => ?_⟩
    · refine gj_goq gj_clT ok_193 [4, 17, 28, 34, 49, 62, 66, 77, 81, 96, 105] ?_
      show gj_Do E om0 (gj_mt 157) [(.int x2), (.int (i3 1))] SI2 SJ2 _
      refine gj_Do.mono (q2.1 c3) (fun v_ SI4 SJ4 h_ => ?_)
      obtain ⟨r3, rfl, q4⟩ := h_
      show gj_Goes E om0 mt_193 28 [some (.ref 81), some (.int x1), some (.int x2), some (.int x3), none, none] [(.int r3)] SI4 SJ4 (QI Q)
      refine gj_goq gj_clT ok_193 [4, 17, 28, 34, 49, 62, 66, 77, 81, 96, 105] ?_
      show gj_Goes E om0 mt_193 34 [some (.ref 81), some (.int x1), some (.int r3), some (.int x3), some (.int (x3 + (i3 1))), none] [] SI4 SJ4 (QI Q)
      exact q4
    · refine gj_goq gj_clT ok_193 [4, 17, 28, 34, 49, 62, 66, 77, 81, 96, 105] ?_
      show gj_Goes E om0 mt_193 4 [some (.ref 81), some (.int x1), some (.int x2), some (.int (x3 + (i3 1))), none, none] [] SI2 SJ2 (QI Q)
      exact (q2.2 c3)
set_option maxRecDepth 20000 in
theorem lp_193_34 {E : gj_E} {Q : Int32 → gj_I → gj_J → Prop} (x1 : Int32) (x2 : Int32) (x3 : Int32) (x4 : Int32) (SI : gj_I) (SJ : gj_J) (h : ((SI 81 8) ≤ x4 → GoI E mt_193 4 [some (.ref 81), some (.int x1), some (.int x2), some (.int (x3 + (i3 1))), none, none] SI SJ Q) ∧ (¬ (SI 81 8) ≤ x4 → DoI E 159 [(.int x1), (.int x4)] SI SJ (fun r1 SI2 SJ2 => (¬ r1 = 0 → DoV E 187 [(.ref 81), (.int x3), (.int x4)] SI2 SJ2 (fun SI4 SJ4 => DoI E 188 [(.ref 81)] SI4 SJ4 (fun r5 SI6 SJ6 => (r5 = 0 → DoI E 157 [(.int x2), (.int (i3 2))] SI6 SJ6 (fun r7 SI8 SJ8 => GoI E mt_193 81 [some (.ref 81), some (.int x1), some (.int r7), some (.int x3), some (.int x4), some (.int (i3 0))] SI8 SJ8 Q)) ∧ (¬ r5 = 0 → GoI E mt_193 34 [some (.ref 81), some (.int x1), some (.int x2), some (.int x3), some (.int (x4 + (i3 1))), none] SI6 SJ6 Q)))) ∧ (r1 = 0 → GoI E mt_193 34 [some (.ref 81), some (.int x1), some (.int x2), some (.int x3), some (.int (x4 + (i3 1))), none] SI2 SJ2 Q)))) : GoI E mt_193 34 [some (.ref 81), some (.int x1), some (.int x2), some (.int x3), some (.int x4), none] SI SJ Q := by
  refine gj_goq gj_clT ok_193 [4, 17, 28, 34, 49, 62, 66, 77, 81, 96, 105] ?_
  show ((SI 81 8) ≤ x4 → gj_Goes E om0 mt_193 124 [some (.ref 81), some (.int x1), some (.int x2), some (.int x3), some (.int x4), none] [] SI SJ (QI Q)) ∧ (¬ (SI 81 8) ≤ x4 → gj_Do E om0 (gj_mt 159) [(.int x1), (.int x4)] SI SJ _)
  refine ⟨fun c1 => ?_, fun c1 => ?_⟩
  · refine gj_goq gj_clT ok_193 [4, 17, 28, 34, 49, 62, 66, 77, 81, 96, 105] ?_
    show gj_Goes E om0 mt_193 4 [some (.ref 81), some (.int x1), some (.int x2), some (.int (x3 + (i3 1))), some (.int x4), none] [] SI SJ (QI Q)
    exact gj_fh (h.1 c1) (And.intro (Or.inr rfl) (And.intro (Or.inr rfl) (And.intro (Or.inr rfl) (And.intro (Or.inr rfl) (And.intro (Or.inl rfl) (And.intro (Or.inl rfl) trivial))))))
  · refine gj_Do.mono (h.2 c1) (fun v_ SI2 SJ2 h_ => ?_)
    obtain ⟨r1, rfl, q2⟩ := h_
    show gj_Goes E om0 mt_193 49 [some (.ref 81), some (.int x1), some (.int x2), some (.int x3), some (.int x4), none] [(.int r1)] SI2 SJ2 (QI Q)
    refine gj_goq gj_clT ok_193 [4, 17, 28, 34, 49, 62, 66, 77, 81, 96, 105] ?_
    show (¬ r1 = 0 → gj_Goes E om0 mt_193 55 [some (.ref 81), some (.int x1), some (.int x2), some (.int x3), some (.int x4), none] [] SI2 SJ2 (QI Q)) ∧ (r1 = 0 → gj_Goes E om0 mt_193 118 [some (.ref 81), some (.int x1), some (.int x2), some (.int x3), some (.int x4), none] [] SI2 SJ2 (QI Q))
    refine ⟨fun c3 => ?_, fun c3 => ?_⟩
    · refine gj_goq gj_clT ok_193 [4, 17, 28, 34, 49, 62, 66, 77, 81, 96, 105] ?_
      show gj_Do E om0 (gj_mt 187) [(.ref 81), (.int x3), (.int x4)] SI2 SJ2 _
      refine gj_Do.mono (q2.1 c3) (fun v_ SI4 SJ4 h_ => ?_)
      obtain ⟨rfl, q4⟩ := h_
      show gj_Goes E om0 mt_193 62 [some (.ref 81), some (.int x1), some (.int x2), some (.int x3), some (.int x4), none] [] SI4 SJ4 (QI Q)
      refine gj_goq gj_clT ok_193 [4, 17, 28, 34, 49, 62, 66, 77, 81, 96, 105] ?_
      show gj_Do E om0 (gj_mt 188) [(.ref 81)] SI4 SJ4 _
      refine gj_Do.mono q4 (fun v_ SI6 SJ6 h_ => ?_)
      obtain ⟨r5, rfl, q5⟩ := h_
      show gj_Goes E om0 mt_193 66 [some (.ref 81), some (.int x1), some (.int x2), some (.int x3), some (.int x4), none] [(.int r5)] SI6 SJ6 (QI Q)
      refine gj_goq gj_clT ok_193 [4, 17, 28, 34, 49, 62, 66, 77, 81, 96, 105] ?_
      show (r5 = 0 → gj_Goes E om0 mt_193 72 [some (.ref 81), some (.int x1), some (.int x2), some (.int x3), some (.int x4), none] [] SI6 SJ6 (QI Q)) ∧ (¬ r5 = 0 → gj_Goes E om0 mt_193 118 [some (.ref 81), some (.int x1), some (.int x2), some (.int x3), some (.int x4), none] [] SI6 SJ6 (QI Q))
      refine ⟨fun c6 => ?_, fun c6 => ?_⟩
      · refine gj_goq gj_clT ok_193 [4, 17, 28, 34, 49, 62, 66, 77, 81, 96, 105] ?_
        show gj_Do E om0 (gj_mt 157) [(.int x2), (.int (i3 2))] SI6 SJ6 _
        refine gj_Do.mono (q5.1 c6) (fun v_ SI8 SJ8 h_ => ?_)
        obtain ⟨r7, rfl, q7⟩ := h_
        show gj_Goes E om0 mt_193 77 [some (.ref 81), some (.int x1), some (.int x2), some (.int x3), some (.int x4), none] [(.int r7)] SI8 SJ8 (QI Q)
        refine gj_goq gj_clT ok_193 [4, 17, 28, 34, 49, 62, 66, 77, 81, 96, 105] ?_
        show gj_Goes E om0 mt_193 81 [some (.ref 81), some (.int x1), some (.int r7), some (.int x3), some (.int x4), some (.int (i3 0))] [] SI8 SJ8 (QI Q)
        exact q7
      · refine gj_goq gj_clT ok_193 [4, 17, 28, 34, 49, 62, 66, 77, 81, 96, 105] ?_
        show gj_Goes E om0 mt_193 34 [some (.ref 81), some (.int x1), some (.int x2), some (.int x3), some (.int (x4 + (i3 1))), none] [] SI6 SJ6 (QI Q)
        exact (q5.2 c6)
    · refine gj_goq gj_clT ok_193 [4, 17, 28, 34, 49, 62, 66, 77, 81, 96, 105] ?_
      show gj_Goes E om0 mt_193 34 [some (.ref 81), some (.int x1), some (.int x2), some (.int x3), some (.int (x4 + (i3 1))), none] [] SI2 SJ2 (QI Q)
      exact (q2.2 c3)
set_option maxRecDepth 20000 in
theorem lp_193_81 {E : gj_E} {Q : Int32 → gj_I → gj_J → Prop} (x1 : Int32) (x2 : Int32) (x3 : Int32) (x4 : Int32) (x5 : Int32) (SI : gj_I) (SJ : gj_J) (h : ((SI 81 8) ≤ x5 → GoI E mt_193 34 [some (.ref 81), some (.int x1), some (.int x2), some (.int x3), some (.int (x4 + (i3 1))), none] SI SJ Q) ∧ (¬ (SI 81 8) ≤ x5 → DoI E 159 [(.int x1), (.int x5)] SI SJ (fun r1 SI2 SJ2 => (r1 = 0 → GoI E mt_193 81 [some (.ref 81), some (.int x1), some (.int x2), some (.int x3), some (.int x4), some (.int (x5 + (i3 1)))] SI2 SJ2 Q) ∧ (¬ r1 = 0 → DoL E 191 [(.ref 81), (.int x5)] SI2 SJ2 (fun r3 SI4 SJ4 => (r3 = (i6 0) → GoI E mt_193 81 [some (.ref 81), some (.int x1), some (.int x2), some (.int x3), some (.int x4), some (.int (x5 + (i3 1)))] SI4 SJ4 Q) ∧ (¬ r3 = (i6 0) → Q (i3 3) SI4 SJ4)))))) : GoI E mt_193 81 [some (.ref 81), some (.int x1), some (.int x2), some (.int x3), some (.int x4), some (.int x5)] SI SJ Q := by
  refine gj_goq gj_clT ok_193 [4, 17, 28, 34, 49, 62, 66, 77, 81, 96, 105] ?_
  show ((SI 81 8) ≤ x5 → gj_Goes E om0 mt_193 118 [some (.ref 81), some (.int x1), some (.int x2), some (.int x3), some (.int x4), some (.int x5)] [] SI SJ (QI Q)) ∧ (¬ (SI 81 8) ≤ x5 → gj_Do E om0 (gj_mt 159) [(.int x1), (.int x5)] SI SJ _)
  refine ⟨fun c1 => ?_, fun c1 => ?_⟩
  · refine gj_goq gj_clT ok_193 [4, 17, 28, 34, 49, 62, 66, 77, 81, 96, 105] ?_
    show gj_Goes E om0 mt_193 34 [some (.ref 81), some (.int x1), some (.int x2), some (.int x3), some (.int (x4 + (i3 1))), some (.int x5)] [] SI SJ (QI Q)
    exact gj_fh (h.1 c1) (And.intro (Or.inr rfl) (And.intro (Or.inr rfl) (And.intro (Or.inr rfl) (And.intro (Or.inr rfl) (And.intro (Or.inr rfl) (And.intro (Or.inl rfl) trivial))))))
  · refine gj_Do.mono (h.2 c1) (fun v_ SI2 SJ2 h_ => ?_)
    obtain ⟨r1, rfl, q2⟩ := h_
    show gj_Goes E om0 mt_193 96 [some (.ref 81), some (.int x1), some (.int x2), some (.int x3), some (.int x4), some (.int x5)] [(.int r1)] SI2 SJ2 (QI Q)
    refine gj_goq gj_clT ok_193 [4, 17, 28, 34, 49, 62, 66, 77, 81, 96, 105] ?_
    show (r1 = 0 → gj_Goes E om0 mt_193 112 [some (.ref 81), some (.int x1), some (.int x2), some (.int x3), some (.int x4), some (.int x5)] [] SI2 SJ2 (QI Q)) ∧ (¬ r1 = 0 → gj_Do E om0 (gj_mt 191) [(.ref 81), (.int x5)] SI2 SJ2 _)
    refine ⟨fun c3 => ?_, fun c3 => ?_⟩
    · refine gj_goq gj_clT ok_193 [4, 17, 28, 34, 49, 62, 66, 77, 81, 96, 105] ?_
      show gj_Goes E om0 mt_193 81 [some (.ref 81), some (.int x1), some (.int x2), some (.int x3), some (.int x4), some (.int (x5 + (i3 1)))] [] SI2 SJ2 (QI Q)
      exact (q2.1 c3)
    · refine gj_Do.mono (q2.2 c3) (fun v_ SI4 SJ4 h_ => ?_)
      obtain ⟨r3, rfl, q4⟩ := h_
      show gj_Goes E om0 mt_193 105 [some (.ref 81), some (.int x1), some (.int x2), some (.int x3), some (.int x4), some (.int x5)] [(.long r3)] SI4 SJ4 (QI Q)
      refine gj_goq gj_clT ok_193 [4, 17, 28, 34, 49, 62, 66, 77, 81, 96, 105] ?_
      show ((lg_cmp r3 (i6 0)) = 0 → gj_Goes E om0 mt_193 112 [some (.ref 81), some (.int x1), some (.int x2), some (.int x3), some (.int x4), some (.int x5)] [] SI4 SJ4 (QI Q)) ∧ (¬ (lg_cmp r3 (i6 0)) = 0 → QI Q (some (.int (i3 3))) SI4 SJ4)
      refine ⟨fun c5 => ?_, fun c5 => ?_⟩
      · refine gj_goq gj_clT ok_193 [4, 17, 28, 34, 49, 62, 66, 77, 81, 96, 105] ?_
        show gj_Goes E om0 mt_193 81 [some (.ref 81), some (.int x1), some (.int x2), some (.int x3), some (.int x4), some (.int (x5 + (i3 1)))] [] SI4 SJ4 (QI Q)
        exact (q4.1 (lgc_eq.mp c5))
      · exact ⟨_, rfl, (q4.2 (fun z_ => c5 (lgc_eq.mpr z_)))⟩
set_option maxRecDepth 20000 in
/-- GraspJudgeModel.isFirm -/
theorem st_194 {E : gj_E} {Q : Int32 → gj_I → gj_J → Prop} (a1 : Int32) (SI : gj_I) (SJ : gj_J) (h : DoI E 193 [(.ref 81), (.int a1)] SI SJ (fun r1 SI2 SJ2 => ((i3 3) ≤ r1 → GoI E mt_194 13 [some (.ref 81), some (.int a1), some (.int (i3 0)), none] SI2 SJ2 Q) ∧ (¬ (i3 3) ≤ r1 → Q (i3 0) SI2 SJ2))) : DoI E 194 [(.ref 81), (.int a1)] SI SJ Q := by
  refine gj_start (M := mt_194) ok_194 (Nat.le_of_ble_eq_true rfl) ?_
  refine gj_goq gj_clT ok_194 [5, 13, 25, 38, 46, 58, 62, 73, 82, 87] ?_
  show gj_Do E om0 (gj_mt 193) [(.ref 81), (.int a1)] SI SJ _
  refine gj_Do.mono h (fun v_ SI2 SJ2 h_ => ?_)
  obtain ⟨r1, rfl, q1⟩ := h_
  show gj_Goes E om0 mt_194 5 [some (.ref 81), some (.int a1), none, none] [(.int r1)] SI2 SJ2 (QI Q)
  refine gj_goq gj_clT ok_194 [5, 13, 25, 38, 46, 58, 62, 73, 82, 87] ?_
  show ((i3 3) ≤ r1 → gj_Goes E om0 mt_194 11 [some (.ref 81), some (.int a1), none, none] [] SI2 SJ2 (QI Q)) ∧ (¬ (i3 3) ≤ r1 → ((i3 0) = 0 ∨ (i3 0) = 1) ∧ (QI Q (some (.int (i3 0))) SI2 SJ2))
  refine ⟨fun c2 => ?_, fun c2 => ?_⟩
  · refine gj_goq gj_clT ok_194 [5, 13, 25, 38, 46, 58, 62, 73, 82, 87] ?_
    show gj_Goes E om0 mt_194 13 [some (.ref 81), some (.int a1), some (.int (i3 0)), none] [] SI2 SJ2 (QI Q)
    exact (q1.1 c2)
  · refine ⟨(Or.inl rfl), ?_⟩
    exact ⟨_, rfl, (q1.2 c2)⟩
set_option maxRecDepth 20000 in
theorem lp_194_13 {E : gj_E} {Q : Int32 → gj_I → gj_J → Prop} (x1 : Int32) (x2 : Int32) (SI : gj_I) (SJ : gj_J) (h : ((SI 81 8) ≤ x2 → Q (i3 1) SI SJ) ∧ (¬ (SI 81 8) ≤ x2 → GoI E mt_194 25 [some (.ref 81), some (.int x1), some (.int x2), some (.int (x2 + (i3 1)))] SI SJ Q)) : GoI E mt_194 13 [some (.ref 81), some (.int x1), some (.int x2), none] SI SJ Q := by
  refine gj_goq gj_clT ok_194 [5, 13, 25, 38, 46, 58, 62, 73, 82, 87] ?_
  show ((SI 81 8) ≤ x2 → gj_Goes E om0 mt_194 104 [some (.ref 81), some (.int x1), some (.int x2), none] [] SI SJ (QI Q)) ∧ (¬ (SI 81 8) ≤ x2 → gj_Goes E om0 mt_194 25 [some (.ref 81), some (.int x1), some (.int x2), some (.int (x2 + (i3 1)))] [] SI SJ (QI Q))
  refine ⟨fun c1 => ?_, fun c1 => ?_⟩
  · refine gj_goq gj_clT ok_194 [5, 13, 25, 38, 46, 58, 62, 73, 82, 87] ?_
    show ((i3 1) = 0 ∨ (i3 1) = 1) ∧ (QI Q (some (.int (i3 1))) SI SJ)
    refine ⟨(Or.inr rfl), ?_⟩
    exact ⟨_, rfl, (h.1 c1)⟩
  · exact (h.2 c1)
set_option maxRecDepth 20000 in
theorem lp_194_25 {E : gj_E} {Q : Int32 → gj_I → gj_J → Prop} (x1 : Int32) (x2 : Int32) (x3 : Int32) (SI : gj_I) (SJ : gj_J) (h : ((SI 81 8) ≤ x3 → GoI E mt_194 13 [some (.ref 81), some (.int x1), some (.int (x2 + (i3 1))), none] SI SJ Q) ∧ (¬ (SI 81 8) ≤ x3 → DoI E 159 [(.int x1), (.int x2)] SI SJ (fun r1 SI2 SJ2 => (r1 = 0 → GoI E mt_194 25 [some (.ref 81), some (.int x1), some (.int x2), some (.int (x3 + (i3 1)))] SI2 SJ2 Q) ∧ (¬ r1 = 0 → DoI E 159 [(.int x1), (.int x3)] SI2 SJ2 (fun r3 SI4 SJ4 => (¬ r3 = 0 → DoV E 187 [(.ref 81), (.int x2), (.int x3)] SI4 SJ4 (fun SI6 SJ6 => DoI E 188 [(.ref 81)] SI6 SJ6 (fun r7 SI8 SJ8 => (r7 = 0 → DoI E 192 [(.ref 81), (.int x1)] SI8 SJ8 (fun r9 SI10 SJ10 => (r9 = 0 → DoV E 190 [(.ref 81)] SI10 SJ10 (fun SI12 SJ12 => DoI E 192 [(.ref 81), (.int x1)] SI12 SJ12 (fun r13 SI14 SJ14 => (r13 = 0 → GoI E mt_194 25 [some (.ref 81), some (.int x1), some (.int x2), some (.int (x3 + (i3 1)))] SI14 SJ14 Q) ∧ (¬ r13 = 0 → Q (i3 0) SI14 SJ14)))) ∧ (¬ r9 = 0 → Q (i3 0) SI10 SJ10))) ∧ (¬ r7 = 0 → GoI E mt_194 25 [some (.ref 81), some (.int x1), some (.int x2), some (.int (x3 + (i3 1)))] SI8 SJ8 Q)))) ∧ (r3 = 0 → GoI E mt_194 25 [some (.ref 81), some (.int x1), some (.int x2), some (.int (x3 + (i3 1)))] SI4 SJ4 Q)))))) : GoI E mt_194 25 [some (.ref 81), some (.int x1), some (.int x2), some (.int x3)] SI SJ Q := by
  refine gj_goq gj_clT ok_194 [5, 13, 25, 38, 46, 58, 62, 73, 82, 87] ?_
  show ((SI 81 8) ≤ x3 → gj_Goes E om0 mt_194 98 [some (.ref 81), some (.int x1), some (.int x2), some (.int x3)] [] SI SJ (QI Q)) ∧ (¬ (SI 81 8) ≤ x3 → gj_Do E om0 (gj_mt 159) [(.int x1), (.int x2)] SI SJ _)
  refine ⟨fun c1 => ?_, fun c1 => ?_⟩
  · refine gj_goq gj_clT ok_194 [5, 13, 25, 38, 46, 58, 62, 73, 82, 87] ?_
    show gj_Goes E om0 mt_194 13 [some (.ref 81), some (.int x1), some (.int (x2 + (i3 1))), some (.int x3)] [] SI SJ (QI Q)
    exact gj_fh (h.1 c1) (And.intro (Or.inr rfl) (And.intro (Or.inr rfl) (And.intro (Or.inr rfl) (And.intro (Or.inl rfl) trivial))))
  · refine gj_Do.mono (h.2 c1) (fun v_ SI2 SJ2 h_ => ?_)
    obtain ⟨r1, rfl, q2⟩ := h_
    show gj_Goes E om0 mt_194 38 [some (.ref 81), some (.int x1), some (.int x2), some (.int x3)] [(.int r1)] SI2 SJ2 (QI Q)
    refine gj_goq gj_clT ok_194 [5, 13, 25, 38, 46, 58, 62, 73, 82, 87] ?_
    show (r1 = 0 → gj_Goes E om0 mt_194 92 [some (.ref 81), some (.int x1), some (.int x2), some (.int x3)] [] SI2 SJ2 (QI Q)) ∧ (¬ r1 = 0 → gj_Do E om0 (gj_mt 159) [(.int x1), (.int x3)] SI2 SJ2 _)
    refine ⟨fun c3 => ?_, fun c3 => ?_⟩
    · refine gj_goq gj_clT ok_194 [5, 13, 25, 38, 46, 58, 62, 73, 82, 87] ?_
      show gj_Goes E om0 mt_194 25 [some (.ref 81), some (.int x1), some (.int x2), some (.int (x3 + (i3 1)))] [] SI2 SJ2 (QI Q)
      exact (q2.1 c3)
    · refine gj_Do.mono (q2.2 c3) (fun v_ SI4 SJ4 h_ => ?_)
      obtain ⟨r3, rfl, q4⟩ := h_
      show gj_Goes E om0 mt_194 46 [some (.ref 81), some (.int x1), some (.int x2), some (.int x3)] [(.int r3)] SI4 SJ4 (QI Q)
      refine gj_goq gj_clT ok_194 [5, 13, 25, 38, 46, 58, 62, 73, 82, 87] ?_
      show (¬ r3 = 0 → gj_Goes E om0 mt_194 52 [some (.ref 81), some (.int x1), some (.int x2), some (.int x3)] [] SI4 SJ4 (QI Q)) ∧ (r3 = 0 → gj_Goes E om0 mt_194 92 [some (.ref 81), some (.int x1), some (.int x2), some (.int x3)] [] SI4 SJ4 (QI Q))
      refine ⟨fun c5 => ?_, fun c5 => ?_⟩
      · refine gj_goq gj_clT ok_194 [5, 13, 25, 38, 46, 58, 62, 73, 82, 87] ?_
        show gj_Do E om0 (gj_mt 187) [(.ref 81), (.int x2), (.int x3)] SI4 SJ4 _
        refine gj_Do.mono (q4.1 c5) (fun v_ SI6 SJ6 h_ => ?_)
        obtain ⟨rfl, q6⟩ := h_
        show gj_Goes E om0 mt_194 58 [some (.ref 81), some (.int x1), some (.int x2), some (.int x3)] [] SI6 SJ6 (QI Q)
        refine gj_goq gj_clT ok_194 [5, 13, 25, 38, 46, 58, 62, 73, 82, 87] ?_
        show gj_Do E om0 (gj_mt 188) [(.ref 81)] SI6 SJ6 _
        refine gj_Do.mono q6 (fun v_ SI8 SJ8 h_ => ?_)
        obtain ⟨r7, rfl, q7⟩ := h_
        show gj_Goes E om0 mt_194 62 [some (.ref 81), some (.int x1), some (.int x2), some (.int x3)] [(.int r7)] SI8 SJ8 (QI Q)
        refine gj_goq gj_clT ok_194 [5, 13, 25, 38, 46, 58, 62, 73, 82, 87] ?_
        show (r7 = 0 → gj_Goes E om0 mt_194 68 [some (.ref 81), some (.int x1), some (.int x2), some (.int x3)] [] SI8 SJ8 (QI Q)) ∧ (¬ r7 = 0 → gj_Goes E om0 mt_194 92 [some (.ref 81), some (.int x1), some (.int x2), some (.int x3)] [] SI8 SJ8 (QI Q))
        refine ⟨fun c8 => ?_, fun c8 => ?_⟩
        · refine gj_goq gj_clT ok_194 [5, 13, 25, 38, 46, 58, 62, 73, 82, 87] ?_
          show gj_Do E om0 (gj_mt 192) [(.ref 81), (.int x1)] SI8 SJ8 _
          refine gj_Do.mono (q7.1 c8) (fun v_ SI10 SJ10 h_ => ?_)
          obtain ⟨r9, rfl, q9⟩ := h_
          show gj_Goes E om0 mt_194 73 [some (.ref 81), some (.int x1), some (.int x2), some (.int x3)] [(.int r9)] SI10 SJ10 (QI Q)
          refine gj_goq gj_clT ok_194 [5, 13, 25, 38, 46, 58, 62, 73, 82, 87] ?_
          show (r9 = 0 → gj_Goes E om0 mt_194 78 [some (.ref 81), some (.int x1), some (.int x2), some (.int x3)] [] SI10 SJ10 (QI Q)) ∧ (¬ r9 = 0 → ((i3 0) = 0 ∨ (i3 0) = 1) ∧ (QI Q (some (.int (i3 0))) SI10 SJ10))
          refine ⟨fun c10 => ?_, fun c10 => ?_⟩
          · refine gj_goq gj_clT ok_194 [5, 13, 25, 38, 46, 58, 62, 73, 82, 87] ?_
            show gj_Do E om0 (gj_mt 190) [(.ref 81)] SI10 SJ10 _
            refine gj_Do.mono (q9.1 c10) (fun v_ SI12 SJ12 h_ => ?_)
            obtain ⟨rfl, q11⟩ := h_
            show gj_Goes E om0 mt_194 82 [some (.ref 81), some (.int x1), some (.int x2), some (.int x3)] [] SI12 SJ12 (QI Q)
            refine gj_goq gj_clT ok_194 [5, 13, 25, 38, 46, 58, 62, 73, 82, 87] ?_
            show gj_Do E om0 (gj_mt 192) [(.ref 81), (.int x1)] SI12 SJ12 _
            refine gj_Do.mono q11 (fun v_ SI14 SJ14 h_ => ?_)
            obtain ⟨r13, rfl, q12⟩ := h_
            show gj_Goes E om0 mt_194 87 [some (.ref 81), some (.int x1), some (.int x2), some (.int x3)] [(.int r13)] SI14 SJ14 (QI Q)
            refine gj_goq gj_clT ok_194 [5, 13, 25, 38, 46, 58, 62, 73, 82, 87] ?_
            show (r13 = 0 → gj_Goes E om0 mt_194 92 [some (.ref 81), some (.int x1), some (.int x2), some (.int x3)] [] SI14 SJ14 (QI Q)) ∧ (¬ r13 = 0 → ((i3 0) = 0 ∨ (i3 0) = 1) ∧ (QI Q (some (.int (i3 0))) SI14 SJ14))
            refine ⟨fun c13 => ?_, fun c13 => ?_⟩
            · refine gj_goq gj_clT ok_194 [5, 13, 25, 38, 46, 58, 62, 73, 82, 87] ?_
              show gj_Goes E om0 mt_194 25 [some (.ref 81), some (.int x1), some (.int x2), some (.int (x3 + (i3 1)))] [] SI14 SJ14 (QI Q)
              exact (q12.1 c13)
            · refine ⟨(Or.inl rfl), ?_⟩
              exact ⟨_, rfl, (q12.2 c13)⟩
          · refine ⟨(Or.inl rfl), ?_⟩
            exact ⟨_, rfl, (q9.2 c10)⟩
        · refine gj_goq gj_clT ok_194 [5, 13, 25, 38, 46, 58, 62, 73, 82, 87] ?_
          show gj_Goes E om0 mt_194 25 [some (.ref 81), some (.int x1), some (.int x2), some (.int (x3 + (i3 1)))] [] SI8 SJ8 (QI Q)
          exact (q7.2 c8)
      · refine gj_goq gj_clT ok_194 [5, 13, 25, 38, 46, 58, 62, 73, 82, 87] ?_
        show gj_Goes E om0 mt_194 25 [some (.ref 81), some (.int x1), some (.int x2), some (.int (x3 + (i3 1)))] [] SI4 SJ4 (QI Q)
        exact (q4.2 c5)
set_option maxRecDepth 20000 in
/-- GraspJudgeModel.isFirmNow -/
theorem st_195 {E : gj_E} {Q : Int32 → gj_I → gj_J → Prop} (SI : gj_I) (SJ : gj_J) (h : DoV E 184 [(.ref 81)] SI SJ (fun SI2 SJ2 => DoI E 185 [(.ref 81)] SI2 SJ2 (fun r3 SI4 SJ4 => DoI E 194 [(.ref 81), (.int r3)] SI4 SJ4 (fun r5 SI6 SJ6 => (r5 = 0 ∨ r5 = 1) ∧ (Q r5 SI6 SJ6))))) : DoI E 195 [(.ref 81)] SI SJ Q := by
  refine gj_start (M := mt_195) ok_195 (Nat.le_of_ble_eq_true rfl) ?_
  refine gj_goq gj_clT ok_195 [4, 9, 12] ?_
  show gj_Do E om0 (gj_mt 184) [(.ref 81)] SI SJ _
  refine gj_Do.mono h (fun v_ SI2 SJ2 h_ => ?_)
  obtain ⟨rfl, q1⟩ := h_
  show gj_Goes E om0 mt_195 4 [some (.ref 81)] [] SI2 SJ2 (QI Q)
  refine gj_goq gj_clT ok_195 [4, 9, 12] ?_
  show gj_Do E om0 (gj_mt 185) [(.ref 81)] SI2 SJ2 _
  refine gj_Do.mono q1 (fun v_ SI4 SJ4 h_ => ?_)
  obtain ⟨r3, rfl, q2⟩ := h_
  show gj_Goes E om0 mt_195 9 [some (.ref 81)] [(.int r3), (.ref 81)] SI4 SJ4 (QI Q)
  refine gj_goq gj_clT ok_195 [4, 9, 12] ?_
  show gj_Do E om0 (gj_mt 194) [(.ref 81), (.int r3)] SI4 SJ4 _
  refine gj_Do.mono q2 (fun v_ SI6 SJ6 h_ => ?_)
  obtain ⟨r5, rfl, q3⟩ := h_
  show gj_Goes E om0 mt_195 12 [some (.ref 81)] [(.int r5)] SI6 SJ6 (QI Q)
  refine gj_goq gj_clT ok_195 [4, 9, 12] ?_
  show (r5 = 0 ∨ r5 = 1) ∧ (QI Q (some (.int r5)) SI6 SJ6)
  have k4 := q3.1
  refine ⟨k4, ?_⟩
  exact ⟨_, rfl, q3.2⟩
set_option maxRecDepth 20000 in
/-- GraspJudgeModel.noted -/
theorem st_196 {E : gj_E} {Q : Int32 → gj_I → gj_J → Prop} (a1 : Int32) (a2 : Int32) (SI : gj_I) (SJ : gj_J) (h : (¬ (SI 82 35) = (i3 20) → vp_in ((i3 36) + ((i3 4) * (SI 82 35))) 135 ∧ (vp_in (((i3 36) + ((i3 4) * (SI 82 35))) + (i3 1)) 135 ∧ (DoI E 195 [(.ref 81)] (gj_u2 (gj_u2 SI 82 (gj_n ((i3 36) + ((i3 4) * (SI 82 35)))) a1) 82 (gj_n (((i3 36) + ((i3 4) * (SI 82 35))) + (i3 1))) ((gj_u2 SI 82 (gj_n ((i3 36) + ((i3 4) * (SI 82 35)))) a1) 82 17)) SJ (fun r1 SI2 SJ2 => (r1 = 0 → vp_in (((i3 36) + ((i3 4) * (SI 82 35))) + (i3 2)) 135 ∧ (DoI E 185 [(.ref 81)] (gj_u2 SI2 82 (gj_n (((i3 36) + ((i3 4) * (SI 82 35))) + (i3 2))) (i3 0)) SJ2 (fun r3 SI4 SJ4 => DoI E 193 [(.ref 81), (.int r3)] SI4 SJ4 (fun r5 SI6 SJ6 => vp_in (((i3 36) + ((i3 4) * (SI 82 35))) + (i3 3)) 135 ∧ (Q a2 (gj_u2 (gj_u2 SI6 82 (gj_n (((i3 36) + ((i3 4) * (SI 82 35))) + (i3 3))) r5) 82 35 (((gj_u2 SI6 82 (gj_n (((i3 36) + ((i3 4) * (SI 82 35))) + (i3 3))) r5) 82 35) + (i3 1))) SJ6))))) ∧ (¬ r1 = 0 → vp_in (((i3 36) + ((i3 4) * (SI 82 35))) + (i3 2)) 135 ∧ (DoI E 185 [(.ref 81)] (gj_u2 SI2 82 (gj_n (((i3 36) + ((i3 4) * (SI 82 35))) + (i3 2))) (i3 1)) SJ2 (fun r7 SI8 SJ8 => DoI E 193 [(.ref 81), (.int r7)] SI8 SJ8 (fun r9 SI10 SJ10 => vp_in (((i3 36) + ((i3 4) * (SI 82 35))) + (i3 3)) 135 ∧ (Q a2 (gj_u2 (gj_u2 SI10 82 (gj_n (((i3 36) + ((i3 4) * (SI 82 35))) + (i3 3))) r9) 82 35 (((gj_u2 SI10 82 (gj_n (((i3 36) + ((i3 4) * (SI 82 35))) + (i3 3))) r9) 82 35) + (i3 1))) SJ10))))))))) ∧ ((SI 82 35) = (i3 20) → GoI E mt_196 14 [some (.ref 81), some (.int a1), some (.int a2), some (.int (i3 0))] SI SJ Q)) : DoI E 196 [(.ref 81), (.int a1), (.int a2)] SI SJ Q := by
  refine gj_start (M := mt_196) ok_196 (Nat.le_of_ble_eq_true rfl) ?_
  refine gj_goq gj_clT ok_196 [14, 99, 120, 123] ?_
  show vp_in (i3 35) 135 ∧ ((¬ (SI 82 35) = (i3 20) → gj_Goes E om0 mt_196 53 [some (.ref 81), some (.int a1), some (.int a2), none] [] SI SJ (QI Q)) ∧ ((SI 82 35) = (i3 20) → gj_Goes E om0 mt_196 14 [some (.ref 81), some (.int a1), some (.int a2), some (.int (i3 0))] [] SI SJ (QI Q)))
  refine ⟨(gj_vin (by decide)), ?_⟩
  refine ⟨fun c1 => ?_, fun c1 => ?_⟩
  · refine gj_goq gj_clT ok_196 [14, 99, 120, 123] ?_
    show vp_in (i3 35) 135 ∧ (vp_in ((i3 36) + ((i3 4) * (SI 82 35))) 135 ∧ (vp_in (i3 17) 135 ∧ (vp_in (((i3 36) + ((i3 4) * (SI 82 35))) + (i3 1)) 135 ∧ (gj_Do E om0 (gj_mt 195) [(.ref 81)] (gj_u2 (gj_u2 SI 82 (gj_n ((i3 36) + ((i3 4) * (SI 82 35)))) a1) 82 (gj_n (((i3 36) + ((i3 4) * (SI 82 35))) + (i3 1))) ((gj_u2 SI 82 (gj_n ((i3 36) + ((i3 4) * (SI 82 35)))) a1) 82 17)) SJ _))))
    refine ⟨(gj_vin (by decide)), ?_⟩
    have k2 := (h.1 c1).1
    refine ⟨k2, ?_⟩
    refine ⟨(gj_vin (by decide)), ?_⟩
    have k3 := (h.1 c1).2.1
    refine ⟨k3, ?_⟩
    refine gj_Do.mono (h.1 c1).2.2 (fun v_ SI2 SJ2 h_ => ?_)
    obtain ⟨r1, rfl, q4⟩ := h_
    show gj_Goes E om0 mt_196 99 [some (.ref 81), some (.int a1), some (.int a2), some (.int ((i3 36) + ((i3 4) * (SI 82 35))))] [(.int r1), (.int (((i3 36) + ((i3 4) * (SI 82 35))) + (i3 2))), (.ref 82)] SI2 SJ2 (QI Q)
    refine gj_goq gj_clT ok_196 [14, 99, 120, 123] ?_
    show (r1 = 0 → gj_Goes E om0 mt_196 106 [some (.ref 81), some (.int a1), some (.int a2), some (.int ((i3 36) + ((i3 4) * (SI 82 35))))] [(.int (((i3 36) + ((i3 4) * (SI 82 35))) + (i3 2))), (.ref 82)] SI2 SJ2 (QI Q)) ∧ (¬ r1 = 0 → gj_Goes E om0 mt_196 107 [some (.ref 81), some (.int a1), some (.int a2), some (.int ((i3 36) + ((i3 4) * (SI 82 35))))] [(.int (i3 1)), (.int (((i3 36) + ((i3 4) * (SI 82 35))) + (i3 2))), (.ref 82)] SI2 SJ2 (QI Q))
    refine ⟨fun c5 => ?_, fun c5 => ?_⟩
    · refine gj_goq gj_clT ok_196 [14, 99, 120, 123] ?_
      show vp_in (((i3 36) + ((i3 4) * (SI 82 35))) + (i3 2)) 135 ∧ (gj_Do E om0 (gj_mt 185) [(.ref 81)] (gj_u2 SI2 82 (gj_n (((i3 36) + ((i3 4) * (SI 82 35))) + (i3 2))) (i3 0)) SJ2 _)
      have k6 := (q4.1 c5).1
      refine ⟨k6, ?_⟩
      refine gj_Do.mono (q4.1 c5).2 (fun v_ SI4 SJ4 h_ => ?_)
      obtain ⟨r3, rfl, q7⟩ := h_
      show gj_Goes E om0 mt_196 120 [some (.ref 81), some (.int a1), some (.int a2), some (.int ((i3 36) + ((i3 4) * (SI 82 35))))] [(.int r3), (.ref 81), (.int (((i3 36) + ((i3 4) * (SI 82 35))) + (i3 3))), (.ref 82)] SI4 SJ4 (QI Q)
      refine gj_goq gj_clT ok_196 [14, 99, 120, 123] ?_
      show gj_Do E om0 (gj_mt 193) [(.ref 81), (.int r3)] SI4 SJ4 _
      refine gj_Do.mono q7 (fun v_ SI6 SJ6 h_ => ?_)
      obtain ⟨r5, rfl, q8⟩ := h_
      show gj_Goes E om0 mt_196 123 [some (.ref 81), some (.int a1), some (.int a2), some (.int ((i3 36) + ((i3 4) * (SI 82 35))))] [(.int r5), (.int (((i3 36) + ((i3 4) * (SI 82 35))) + (i3 3))), (.ref 82)] SI6 SJ6 (QI Q)
      refine gj_goq gj_clT ok_196 [14, 99, 120, 123] ?_
      show vp_in (((i3 36) + ((i3 4) * (SI 82 35))) + (i3 3)) 135 ∧ (vp_in (i3 35) 135 ∧ (vp_in (i3 35) 135 ∧ (QI Q (some (.int a2)) (gj_u2 (gj_u2 SI6 82 (gj_n (((i3 36) + ((i3 4) * (SI 82 35))) + (i3 3))) r5) 82 35 (((gj_u2 SI6 82 (gj_n (((i3 36) + ((i3 4) * (SI 82 35))) + (i3 3))) r5) 82 35) + (i3 1))) SJ6)))
      have k9 := q8.1
      refine ⟨k9, ?_⟩
      refine ⟨(gj_vin (by decide)), ?_⟩
      refine ⟨(gj_vin (by decide)), ?_⟩
      exact ⟨_, rfl, q8.2⟩
    · refine gj_goq gj_clT ok_196 [14, 99, 120, 123] ?_
      show vp_in (((i3 36) + ((i3 4) * (SI 82 35))) + (i3 2)) 135 ∧ (gj_Do E om0 (gj_mt 185) [(.ref 81)] (gj_u2 SI2 82 (gj_n (((i3 36) + ((i3 4) * (SI 82 35))) + (i3 2))) (i3 1)) SJ2 _)
      have k10 := (q4.2 c5).1
      refine ⟨k10, ?_⟩
      refine gj_Do.mono (q4.2 c5).2 (fun v_ SI8 SJ8 h_ => ?_)
      obtain ⟨r7, rfl, q11⟩ := h_
      show gj_Goes E om0 mt_196 120 [some (.ref 81), some (.int a1), some (.int a2), some (.int ((i3 36) + ((i3 4) * (SI 82 35))))] [(.int r7), (.ref 81), (.int (((i3 36) + ((i3 4) * (SI 82 35))) + (i3 3))), (.ref 82)] SI8 SJ8 (QI Q)
      refine gj_goq gj_clT ok_196 [14, 99, 120, 123] ?_
      show gj_Do E om0 (gj_mt 193) [(.ref 81), (.int r7)] SI8 SJ8 _
      refine gj_Do.mono q11 (fun v_ SI10 SJ10 h_ => ?_)
      obtain ⟨r9, rfl, q12⟩ := h_
      show gj_Goes E om0 mt_196 123 [some (.ref 81), some (.int a1), some (.int a2), some (.int ((i3 36) + ((i3 4) * (SI 82 35))))] [(.int r9), (.int (((i3 36) + ((i3 4) * (SI 82 35))) + (i3 3))), (.ref 82)] SI10 SJ10 (QI Q)
      refine gj_goq gj_clT ok_196 [14, 99, 120, 123] ?_
      show vp_in (((i3 36) + ((i3 4) * (SI 82 35))) + (i3 3)) 135 ∧ (vp_in (i3 35) 135 ∧ (vp_in (i3 35) 135 ∧ (QI Q (some (.int a2)) (gj_u2 (gj_u2 SI10 82 (gj_n (((i3 36) + ((i3 4) * (SI 82 35))) + (i3 3))) r9) 82 35 (((gj_u2 SI10 82 (gj_n (((i3 36) + ((i3 4) * (SI 82 35))) + (i3 3))) r9) 82 35) + (i3 1))) SJ10)))
      have k13 := q12.1
      refine ⟨k13, ?_⟩
      refine ⟨(gj_vin (by decide)), ?_⟩
      refine ⟨(gj_vin (by decide)), ?_⟩
      exact ⟨_, rfl, q12.2⟩
  · exact (h.2 c1)
set_option maxRecDepth 20000 in
theorem lp_196_14 {E : gj_E} {Q : Int32 → gj_I → gj_J → Prop} (x1 : Int32) (x2 : Int32) (x3 : Int32) (SI : gj_I) (SJ : gj_J) (h : ((i3 76) ≤ x3 → vp_in ((i3 36) + ((i3 4) * (i3 19))) 135 ∧ (vp_in (((i3 36) + ((i3 4) * (i3 19))) + (i3 1)) 135 ∧ (DoI E 195 [(.ref 81)] (gj_u2 (gj_u2 (gj_u2 SI 82 35 (i3 19)) 82 (gj_n ((i3 36) + ((i3 4) * (i3 19)))) x1) 82 (gj_n (((i3 36) + ((i3 4) * (i3 19))) + (i3 1))) ((gj_u2 (gj_u2 SI 82 35 (i3 19)) 82 (gj_n ((i3 36) + ((i3 4) * (i3 19)))) x1) 82 17)) SJ (fun r1 SI2 SJ2 => (r1 = 0 → vp_in (((i3 36) + ((i3 4) * (i3 19))) + (i3 2)) 135 ∧ (DoI E 185 [(.ref 81)] (gj_u2 SI2 82 (gj_n (((i3 36) + ((i3 4) * (i3 19))) + (i3 2))) (i3 0)) SJ2 (fun r3 SI4 SJ4 => DoI E 193 [(.ref 81), (.int r3)] SI4 SJ4 (fun r5 SI6 SJ6 => vp_in (((i3 36) + ((i3 4) * (i3 19))) + (i3 3)) 135 ∧ (Q x2 (gj_u2 (gj_u2 SI6 82 (gj_n (((i3 36) + ((i3 4) * (i3 19))) + (i3 3))) r5) 82 35 (((gj_u2 SI6 82 (gj_n (((i3 36) + ((i3 4) * (i3 19))) + (i3 3))) r5) 82 35) + (i3 1))) SJ6))))) ∧ (¬ r1 = 0 → vp_in (((i3 36) + ((i3 4) * (i3 19))) + (i3 2)) 135 ∧ (DoI E 185 [(.ref 81)] (gj_u2 SI2 82 (gj_n (((i3 36) + ((i3 4) * (i3 19))) + (i3 2))) (i3 1)) SJ2 (fun r7 SI8 SJ8 => DoI E 193 [(.ref 81), (.int r7)] SI8 SJ8 (fun r9 SI10 SJ10 => vp_in (((i3 36) + ((i3 4) * (i3 19))) + (i3 3)) 135 ∧ (Q x2 (gj_u2 (gj_u2 SI10 82 (gj_n (((i3 36) + ((i3 4) * (i3 19))) + (i3 3))) r9) 82 35 (((gj_u2 SI10 82 (gj_n (((i3 36) + ((i3 4) * (i3 19))) + (i3 3))) r9) 82 35) + (i3 1))) SJ10))))))))) ∧ (¬ (i3 76) ≤ x3 → vp_in ((i3 40) + x3) 135 ∧ (vp_in ((i3 36) + x3) 135 ∧ (GoI E mt_196 14 [some (.ref 81), some (.int x1), some (.int x2), some (.int (x3 + (i3 1)))] (gj_u2 SI 82 (gj_n ((i3 36) + x3)) (SI 82 (gj_n ((i3 40) + x3)))) SJ Q)))) : GoI E mt_196 14 [some (.ref 81), some (.int x1), some (.int x2), some (.int x3)] SI SJ Q := by
  refine gj_goq gj_clT ok_196 [14, 99, 120, 123] ?_
  show ((i3 76) ≤ x3 → gj_Goes E om0 mt_196 44 [some (.ref 81), some (.int x1), some (.int x2), some (.int x3)] [] SI SJ (QI Q)) ∧ (¬ (i3 76) ≤ x3 → vp_in ((i3 40) + x3) 135 ∧ (vp_in ((i3 36) + x3) 135 ∧ (gj_Goes E om0 mt_196 14 [some (.ref 81), some (.int x1), some (.int x2), some (.int (x3 + (i3 1)))] [] (gj_u2 SI 82 (gj_n ((i3 36) + x3)) (SI 82 (gj_n ((i3 40) + x3)))) SJ (QI Q))))
  refine ⟨fun c1 => ?_, fun c1 => ?_⟩
  · refine gj_goq gj_clT ok_196 [14, 99, 120, 123] ?_
    show vp_in (i3 35) 135 ∧ (vp_in (i3 35) 135 ∧ (vp_in ((i3 36) + ((i3 4) * (i3 19))) 135 ∧ (vp_in (i3 17) 135 ∧ (vp_in (((i3 36) + ((i3 4) * (i3 19))) + (i3 1)) 135 ∧ (gj_Do E om0 (gj_mt 195) [(.ref 81)] (gj_u2 (gj_u2 (gj_u2 SI 82 35 (i3 19)) 82 (gj_n ((i3 36) + ((i3 4) * (i3 19)))) x1) 82 (gj_n (((i3 36) + ((i3 4) * (i3 19))) + (i3 1))) ((gj_u2 (gj_u2 SI 82 35 (i3 19)) 82 (gj_n ((i3 36) + ((i3 4) * (i3 19)))) x1) 82 17)) SJ _)))))
    refine ⟨(gj_vin (by decide)), ?_⟩
    refine ⟨(gj_vin (by decide)), ?_⟩
    have k2 := (h.1 c1).1
    refine ⟨k2, ?_⟩
    refine ⟨(gj_vin (by decide)), ?_⟩
    have k3 := (h.1 c1).2.1
    refine ⟨k3, ?_⟩
    refine gj_Do.mono (h.1 c1).2.2 (fun v_ SI2 SJ2 h_ => ?_)
    obtain ⟨r1, rfl, q4⟩ := h_
    show gj_Goes E om0 mt_196 99 [some (.ref 81), some (.int x1), some (.int x2), some (.int ((i3 36) + ((i3 4) * (i3 19))))] [(.int r1), (.int (((i3 36) + ((i3 4) * (i3 19))) + (i3 2))), (.ref 82)] SI2 SJ2 (QI Q)
    refine gj_goq gj_clT ok_196 [14, 99, 120, 123] ?_
    show (r1 = 0 → gj_Goes E om0 mt_196 106 [some (.ref 81), some (.int x1), some (.int x2), some (.int ((i3 36) + ((i3 4) * (i3 19))))] [(.int (((i3 36) + ((i3 4) * (i3 19))) + (i3 2))), (.ref 82)] SI2 SJ2 (QI Q)) ∧ (¬ r1 = 0 → gj_Goes E om0 mt_196 107 [some (.ref 81), some (.int x1), some (.int x2), some (.int ((i3 36) + ((i3 4) * (i3 19))))] [(.int (i3 1)), (.int (((i3 36) + ((i3 4) * (i3 19))) + (i3 2))), (.ref 82)] SI2 SJ2 (QI Q))
    refine ⟨fun c5 => ?_, fun c5 => ?_⟩
    · refine gj_goq gj_clT ok_196 [14, 99, 120, 123] ?_
      show vp_in (((i3 36) + ((i3 4) * (i3 19))) + (i3 2)) 135 ∧ (gj_Do E om0 (gj_mt 185) [(.ref 81)] (gj_u2 SI2 82 (gj_n (((i3 36) + ((i3 4) * (i3 19))) + (i3 2))) (i3 0)) SJ2 _)
      have k6 := (q4.1 c5).1
      refine ⟨k6, ?_⟩
      refine gj_Do.mono (q4.1 c5).2 (fun v_ SI4 SJ4 h_ => ?_)
      obtain ⟨r3, rfl, q7⟩ := h_
      show gj_Goes E om0 mt_196 120 [some (.ref 81), some (.int x1), some (.int x2), some (.int ((i3 36) + ((i3 4) * (i3 19))))] [(.int r3), (.ref 81), (.int (((i3 36) + ((i3 4) * (i3 19))) + (i3 3))), (.ref 82)] SI4 SJ4 (QI Q)
      refine gj_goq gj_clT ok_196 [14, 99, 120, 123] ?_
      show gj_Do E om0 (gj_mt 193) [(.ref 81), (.int r3)] SI4 SJ4 _
      refine gj_Do.mono q7 (fun v_ SI6 SJ6 h_ => ?_)
      obtain ⟨r5, rfl, q8⟩ := h_
      show gj_Goes E om0 mt_196 123 [some (.ref 81), some (.int x1), some (.int x2), some (.int ((i3 36) + ((i3 4) * (i3 19))))] [(.int r5), (.int (((i3 36) + ((i3 4) * (i3 19))) + (i3 3))), (.ref 82)] SI6 SJ6 (QI Q)
      refine gj_goq gj_clT ok_196 [14, 99, 120, 123] ?_
      show vp_in (((i3 36) + ((i3 4) * (i3 19))) + (i3 3)) 135 ∧ (vp_in (i3 35) 135 ∧ (vp_in (i3 35) 135 ∧ (QI Q (some (.int x2)) (gj_u2 (gj_u2 SI6 82 (gj_n (((i3 36) + ((i3 4) * (i3 19))) + (i3 3))) r5) 82 35 (((gj_u2 SI6 82 (gj_n (((i3 36) + ((i3 4) * (i3 19))) + (i3 3))) r5) 82 35) + (i3 1))) SJ6)))
      have k9 := q8.1
      refine ⟨k9, ?_⟩
      refine ⟨(gj_vin (by decide)), ?_⟩
      refine ⟨(gj_vin (by decide)), ?_⟩
      exact ⟨_, rfl, q8.2⟩
    · refine gj_goq gj_clT ok_196 [14, 99, 120, 123] ?_
      show vp_in (((i3 36) + ((i3 4) * (i3 19))) + (i3 2)) 135 ∧ (gj_Do E om0 (gj_mt 185) [(.ref 81)] (gj_u2 SI2 82 (gj_n (((i3 36) + ((i3 4) * (i3 19))) + (i3 2))) (i3 1)) SJ2 _)
      have k10 := (q4.2 c5).1
      refine ⟨k10, ?_⟩
      refine gj_Do.mono (q4.2 c5).2 (fun v_ SI8 SJ8 h_ => ?_)
      obtain ⟨r7, rfl, q11⟩ := h_
      show gj_Goes E om0 mt_196 120 [some (.ref 81), some (.int x1), some (.int x2), some (.int ((i3 36) + ((i3 4) * (i3 19))))] [(.int r7), (.ref 81), (.int (((i3 36) + ((i3 4) * (i3 19))) + (i3 3))), (.ref 82)] SI8 SJ8 (QI Q)
      refine gj_goq gj_clT ok_196 [14, 99, 120, 123] ?_
      show gj_Do E om0 (gj_mt 193) [(.ref 81), (.int r7)] SI8 SJ8 _
      refine gj_Do.mono q11 (fun v_ SI10 SJ10 h_ => ?_)
      obtain ⟨r9, rfl, q12⟩ := h_
      show gj_Goes E om0 mt_196 123 [some (.ref 81), some (.int x1), some (.int x2), some (.int ((i3 36) + ((i3 4) * (i3 19))))] [(.int r9), (.int (((i3 36) + ((i3 4) * (i3 19))) + (i3 3))), (.ref 82)] SI10 SJ10 (QI Q)
      refine gj_goq gj_clT ok_196 [14, 99, 120, 123] ?_
      show vp_in (((i3 36) + ((i3 4) * (i3 19))) + (i3 3)) 135 ∧ (vp_in (i3 35) 135 ∧ (vp_in (i3 35) 135 ∧ (QI Q (some (.int x2)) (gj_u2 (gj_u2 SI10 82 (gj_n (((i3 36) + ((i3 4) * (i3 19))) + (i3 3))) r9) 82 35 (((gj_u2 SI10 82 (gj_n (((i3 36) + ((i3 4) * (i3 19))) + (i3 3))) r9) 82 35) + (i3 1))) SJ10)))
      have k13 := q12.1
      refine ⟨k13, ?_⟩
      refine ⟨(gj_vin (by decide)), ?_⟩
      refine ⟨(gj_vin (by decide)), ?_⟩
      exact ⟨_, rfl, q12.2⟩
  · have k14 := (h.2 c1).1
    refine ⟨k14, ?_⟩
    have k15 := (h.2 c1).2.1
    refine ⟨k15, ?_⟩
    exact (h.2 c1).2.2
set_option maxRecDepth 20000 in
/-- GraspJudgeModel.past -/
theorem st_197 {E : gj_E} {Q : Int32 → gj_I → gj_J → Prop} (a1 : Int32) (a2 : Int32) (SI : gj_I) (SJ : gj_J) (h : DoI E 155 [(.long (a1).toInt64), (.long (i6 0)), (.long ((SI 82 35) - (i3 1)).toInt64)] SI SJ (fun r1 SI2 SJ2 => (r1 = 0 → Q (i3 (-1)) SI2 SJ2) ∧ (¬ r1 = 0 → DoI E 155 [(.long (a2).toInt64), (.long (i6 0)), (.long (i6 3))] SI2 SJ2 (fun r3 SI4 SJ4 => (r3 = 0 → Q (i3 (-1)) SI4 SJ4) ∧ (¬ r3 = 0 → vp_in (((i3 36) + ((i3 4) * (((SI4 82 35) - (i3 1)) - a1))) + a2) 135 ∧ (Q (SI4 82 (gj_n (((i3 36) + ((i3 4) * (((SI4 82 35) - (i3 1)) - a1))) + a2))) SI4 SJ4)))))) : DoI E 197 [(.ref 81), (.int a1), (.int a2)] SI SJ Q := by
  refine gj_start (M := mt_197) ok_197 (Nat.le_of_ble_eq_true rfl) ?_
  refine gj_goq gj_clT ok_197 [16, 28] ?_
  show vp_in (i3 35) 135 ∧ (gj_Do E om0 (gj_mt 155) [(.long (a1).toInt64), (.long (i6 0)), (.long ((SI 82 35) - (i3 1)).toInt64)] SI SJ _)
  refine ⟨(gj_vin (by decide)), ?_⟩
  refine gj_Do.mono h (fun v_ SI2 SJ2 h_ => ?_)
  obtain ⟨r1, rfl, q1⟩ := h_
  show gj_Goes E om0 mt_197 16 [some (.ref 81), some (.int a1), some (.int a2)] [(.int r1)] SI2 SJ2 (QI Q)
  refine gj_goq gj_clT ok_197 [16, 28] ?_
  show (r1 = 0 → gj_Goes E om0 mt_197 57 [some (.ref 81), some (.int a1), some (.int a2)] [] SI2 SJ2 (QI Q)) ∧ (¬ r1 = 0 → gj_Do E om0 (gj_mt 155) [(.long (a2).toInt64), (.long (i6 0)), (.long (i6 3))] SI2 SJ2 _)
  refine ⟨fun c2 => ?_, fun c2 => ?_⟩
  · refine gj_goq gj_clT ok_197 [16, 28] ?_
    show QI Q (some (.int (i3 (-1)))) SI2 SJ2
    exact ⟨_, rfl, (q1.1 c2)⟩
  · refine gj_Do.mono (q1.2 c2) (fun v_ SI4 SJ4 h_ => ?_)
    obtain ⟨r3, rfl, q3⟩ := h_
    show gj_Goes E om0 mt_197 28 [some (.ref 81), some (.int a1), some (.int a2)] [(.int r3)] SI4 SJ4 (QI Q)
    refine gj_goq gj_clT ok_197 [16, 28] ?_
    show (r3 = 0 → gj_Goes E om0 mt_197 57 [some (.ref 81), some (.int a1), some (.int a2)] [] SI4 SJ4 (QI Q)) ∧ (¬ r3 = 0 → vp_in (i3 35) 135 ∧ (vp_in (((i3 36) + ((i3 4) * (((SI4 82 35) - (i3 1)) - a1))) + a2) 135 ∧ (gj_Goes E om0 mt_197 58 [some (.ref 81), some (.int a1), some (.int a2)] [(.int (SI4 82 (gj_n (((i3 36) + ((i3 4) * (((SI4 82 35) - (i3 1)) - a1))) + a2))))] SI4 SJ4 (QI Q))))
    refine ⟨fun c4 => ?_, fun c4 => ?_⟩
    · refine gj_goq gj_clT ok_197 [16, 28] ?_
      show QI Q (some (.int (i3 (-1)))) SI4 SJ4
      exact ⟨_, rfl, (q3.1 c4)⟩
    · refine ⟨(gj_vin (by decide)), ?_⟩
      have k5 := (q3.2 c4).1
      refine ⟨k5, ?_⟩
      refine gj_goq gj_clT ok_197 [16, 28] ?_
      show QI Q (some (.int (SI4 82 (gj_n (((i3 36) + ((i3 4) * (((SI4 82 35) - (i3 1)) - a1))) + a2))))) SI4 SJ4
      exact ⟨_, rfl, (q3.2 c4).2⟩
set_option maxRecDepth 20000 in
/-- GraspJudgeModel.put -/
theorem st_198 {E : gj_E} {Q : Int32 → gj_I → gj_J → Prop} (a1 : Int32) (a2 : Int32) (SI : gj_I) (SJ : gj_J) (h : DoI E 162 [(.ref 81)] SI SJ (fun r1 SI2 SJ2 => DoI E 155 [(.long (a1).toInt64), (.long (i6 0)), (.long (r1 - (i3 1)).toInt64)] SI2 SJ2 (fun r3 SI4 SJ4 => (r3 = 0 → Q (i3 (-1)) SI4 SJ4) ∧ (¬ r3 = 0 → DoI E 165 [(.ref 81), (.int a1)] SI4 SJ4 (fun r5 SI6 SJ6 => DoI E 155 [(.long (a2).toInt64), (.long (i6 1)), (.long (r5 - (i3 1)).toInt64)] SI6 SJ6 (fun r7 SI8 SJ8 => (¬ r7 = 0 → DoI E 180 [(.ref 81), (.int a1), (.int a2)] SI8 SJ8 (fun r9 SI10 SJ10 => (r9 = (i3 (-1)) → (¬ (SI10 82 17) = (i3 6) → vp_in ((i3 18) + (SI10 82 17)) 135 ∧ (vp_in ((i3 24) + (SI10 82 17)) 135 ∧ (DoI E 196 [(.ref 81), (.int (i3 0)), (.int (SI10 82 17))] (gj_u2 (gj_u2 (gj_u2 SI10 82 (gj_n ((i3 18) + (SI10 82 17))) a1) 82 (gj_n ((i3 24) + (SI10 82 17))) a2) 82 17 ((SI10 82 17) + (i3 1))) SJ10 (fun r11 SI12 SJ12 => Q r11 SI12 SJ12)))) ∧ ((SI10 82 17) = (i3 6) → Q (i3 (-3)) SI10 SJ10)) ∧ (¬ r9 = (i3 (-1)) → Q (i3 (-2)) SI10 SJ10))) ∧ (r7 = 0 → Q (i3 (-1)) SI8 SJ8))))))) : DoI E 198 [(.ref 81), (.int a1), (.int a2)] SI SJ Q := by
  refine gj_start (M := mt_198) ok_198 (Nat.le_of_ble_eq_true rfl) ?_
  refine gj_goq gj_clT ok_198 [7, 13, 24, 30, 41, 101] ?_
  show gj_Do E om0 (gj_mt 162) [(.ref 81)] SI SJ _
  refine gj_Do.mono h (fun v_ SI2 SJ2 h_ => ?_)
  obtain ⟨r1, rfl, q1⟩ := h_
  show gj_Goes E om0 mt_198 7 [some (.ref 81), some (.int a1), some (.int a2), none] [(.int r1), (.long (i6 0)), (.long (a1).toInt64)] SI2 SJ2 (QI Q)
  refine gj_goq gj_clT ok_198 [7, 13, 24, 30, 41, 101] ?_
  show gj_Do E om0 (gj_mt 155) [(.long (a1).toInt64), (.long (i6 0)), (.long (r1 - (i3 1)).toInt64)] SI2 SJ2 _
  refine gj_Do.mono q1 (fun v_ SI4 SJ4 h_ => ?_)
  obtain ⟨r3, rfl, q2⟩ := h_
  show gj_Goes E om0 mt_198 13 [some (.ref 81), some (.int a1), some (.int a2), none] [(.int r3)] SI4 SJ4 (QI Q)
  refine gj_goq gj_clT ok_198 [7, 13, 24, 30, 41, 101] ?_
  show (r3 = 0 → gj_Goes E om0 mt_198 33 [some (.ref 81), some (.int a1), some (.int a2), none] [] SI4 SJ4 (QI Q)) ∧ (¬ r3 = 0 → gj_Do E om0 (gj_mt 165) [(.ref 81), (.int a1)] SI4 SJ4 _)
  refine ⟨fun c3 => ?_, fun c3 => ?_⟩
  · refine gj_goq gj_clT ok_198 [7, 13, 24, 30, 41, 101] ?_
    show QI Q (some (.int (i3 (-1)))) SI4 SJ4
    exact ⟨_, rfl, (q2.1 c3)⟩
  · refine gj_Do.mono (q2.2 c3) (fun v_ SI6 SJ6 h_ => ?_)
    obtain ⟨r5, rfl, q4⟩ := h_
    show gj_Goes E om0 mt_198 24 [some (.ref 81), some (.int a1), some (.int a2), none] [(.int r5), (.long (i6 1)), (.long (a2).toInt64)] SI6 SJ6 (QI Q)
    refine gj_goq gj_clT ok_198 [7, 13, 24, 30, 41, 101] ?_
    show gj_Do E om0 (gj_mt 155) [(.long (a2).toInt64), (.long (i6 1)), (.long (r5 - (i3 1)).toInt64)] SI6 SJ6 _
    refine gj_Do.mono q4 (fun v_ SI8 SJ8 h_ => ?_)
    obtain ⟨r7, rfl, q5⟩ := h_
    show gj_Goes E om0 mt_198 30 [some (.ref 81), some (.int a1), some (.int a2), none] [(.int r7)] SI8 SJ8 (QI Q)
    refine gj_goq gj_clT ok_198 [7, 13, 24, 30, 41, 101] ?_
    show (¬ r7 = 0 → gj_Goes E om0 mt_198 35 [some (.ref 81), some (.int a1), some (.int a2), none] [] SI8 SJ8 (QI Q)) ∧ (r7 = 0 → QI Q (some (.int (i3 (-1)))) SI8 SJ8)
    refine ⟨fun c6 => ?_, fun c6 => ?_⟩
    · refine gj_goq gj_clT ok_198 [7, 13, 24, 30, 41, 101] ?_
      show gj_Do E om0 (gj_mt 180) [(.ref 81), (.int a1), (.int a2)] SI8 SJ8 _
      refine gj_Do.mono (q5.1 c6) (fun v_ SI10 SJ10 h_ => ?_)
      obtain ⟨r9, rfl, q7⟩ := h_
      show gj_Goes E om0 mt_198 41 [some (.ref 81), some (.int a1), some (.int a2), none] [(.int r9)] SI10 SJ10 (QI Q)
      refine gj_goq gj_clT ok_198 [7, 13, 24, 30, 41, 101] ?_
      show (r9 = (i3 (-1)) → gj_Goes E om0 mt_198 48 [some (.ref 81), some (.int a1), some (.int a2), none] [] SI10 SJ10 (QI Q)) ∧ (¬ r9 = (i3 (-1)) → QI Q (some (.int (i3 (-2)))) SI10 SJ10)
      refine ⟨fun c8 => ?_, fun c8 => ?_⟩
      · refine gj_goq gj_clT ok_198 [7, 13, 24, 30, 41, 101] ?_
        show vp_in (i3 17) 135 ∧ ((¬ (SI10 82 17) = (i3 6) → gj_Goes E om0 mt_198 65 [some (.ref 81), some (.int a1), some (.int a2), some (.int (SI10 82 17))] [] SI10 SJ10 (QI Q)) ∧ ((SI10 82 17) = (i3 6) → QI Q (some (.int (i3 (-3)))) SI10 SJ10))
        refine ⟨(gj_vin (by decide)), ?_⟩
        refine ⟨fun c9 => ?_, fun c9 => ?_⟩
        · refine gj_goq gj_clT ok_198 [7, 13, 24, 30, 41, 101] ?_
          show vp_in ((i3 18) + (SI10 82 17)) 135 ∧ (vp_in ((i3 24) + (SI10 82 17)) 135 ∧ (vp_in (i3 17) 135 ∧ (gj_Do E om0 (gj_mt 196) [(.ref 81), (.int (i3 0)), (.int (SI10 82 17))] (gj_u2 (gj_u2 (gj_u2 SI10 82 (gj_n ((i3 18) + (SI10 82 17))) a1) 82 (gj_n ((i3 24) + (SI10 82 17))) a2) 82 17 ((SI10 82 17) + (i3 1))) SJ10 _)))
          have k10 := ((q7.1 c8).1 c9).1
          refine ⟨k10, ?_⟩
          have k11 := ((q7.1 c8).1 c9).2.1
          refine ⟨k11, ?_⟩
          refine ⟨(gj_vin (by decide)), ?_⟩
          refine gj_Do.mono ((q7.1 c8).1 c9).2.2 (fun v_ SI12 SJ12 h_ => ?_)
          obtain ⟨r11, rfl, q12⟩ := h_
          show gj_Goes E om0 mt_198 101 [some (.ref 81), some (.int a1), some (.int a2), some (.int (SI10 82 17))] [(.int r11)] SI12 SJ12 (QI Q)
          refine gj_goq gj_clT ok_198 [7, 13, 24, 30, 41, 101] ?_
          show QI Q (some (.int r11)) SI12 SJ12
          exact ⟨_, rfl, q12⟩
        · exact ⟨_, rfl, ((q7.1 c8).2 c9)⟩
      · exact ⟨_, rfl, (q7.2 c8)⟩
    · exact ⟨_, rfl, (q5.2 c6)⟩
set_option maxRecDepth 20000 in
/-- GraspJudgeModel.drops -/
theorem st_199 {E : gj_E} {Q : gj_I → gj_J → Prop} (a1 : Int32) (SI : gj_I) (SJ : gj_J) (h : GoV E mt_199 18 [some (.ref 81), none, some (.int a1)] (gj_u2 SI 82 17 ((SI 82 17) - (i3 1))) SJ Q) : DoV E 199 [(.ref 81), (.int a1)] SI SJ Q := by
  refine gj_start (M := mt_199) ok_199 (Nat.le_of_ble_eq_true rfl) ?_
  refine gj_goq gj_clT ok_199 [18] ?_
  show vp_in (i3 17) 135 ∧ (vp_in (i3 17) 135 ∧ (gj_Goes E om0 mt_199 18 [some (.ref 81), some (.int a1), some (.int a1)] [] (gj_u2 SI 82 17 ((SI 82 17) - (i3 1))) SJ (QV Q)))
  refine ⟨(gj_vin (by decide)), ?_⟩
  refine ⟨(gj_vin (by decide)), ?_⟩
  exact gj_fh h (And.intro (Or.inr rfl) (And.intro (Or.inl rfl) (And.intro (Or.inr rfl) trivial)))
set_option maxRecDepth 20000 in
theorem lp_199_18 {E : gj_E} {Q : gj_I → gj_J → Prop} (x2 : Int32) (SI : gj_I) (SJ : gj_J) (h : ((SI 82 17) ≤ x2 → Q SI SJ) ∧ (¬ (SI 82 17) ≤ x2 → vp_in (((i3 18) + x2) + (i3 1)) 135 ∧ (vp_in ((i3 18) + x2) 135 ∧ (vp_in (((i3 24) + x2) + (i3 1)) 135 ∧ (vp_in ((i3 24) + x2) 135 ∧ (GoV E mt_199 18 [some (.ref 81), none, some (.int (x2 + (i3 1)))] (gj_u2 (gj_u2 SI 82 (gj_n ((i3 18) + x2)) (SI 82 (gj_n (((i3 18) + x2) + (i3 1))))) 82 (gj_n ((i3 24) + x2)) ((gj_u2 SI 82 (gj_n ((i3 18) + x2)) (SI 82 (gj_n (((i3 18) + x2) + (i3 1))))) 82 (gj_n (((i3 24) + x2) + (i3 1))))) SJ Q)))))) : GoV E mt_199 18 [some (.ref 81), none, some (.int x2)] SI SJ Q := by
  refine gj_goq gj_clT ok_199 [18] ?_
  show vp_in (i3 17) 135 ∧ (((SI 82 17) ≤ x2 → gj_Goes E om0 mt_199 75 [some (.ref 81), none, some (.int x2)] [] SI SJ (QV Q)) ∧ (¬ (SI 82 17) ≤ x2 → vp_in (((i3 18) + x2) + (i3 1)) 135 ∧ (vp_in ((i3 18) + x2) 135 ∧ (vp_in (((i3 24) + x2) + (i3 1)) 135 ∧ (vp_in ((i3 24) + x2) 135 ∧ (gj_Goes E om0 mt_199 18 [some (.ref 81), none, some (.int (x2 + (i3 1)))] [] (gj_u2 (gj_u2 SI 82 (gj_n ((i3 18) + x2)) (SI 82 (gj_n (((i3 18) + x2) + (i3 1))))) 82 (gj_n ((i3 24) + x2)) ((gj_u2 SI 82 (gj_n ((i3 18) + x2)) (SI 82 (gj_n (((i3 18) + x2) + (i3 1))))) 82 (gj_n (((i3 24) + x2) + (i3 1))))) SJ (QV Q)))))))
  refine ⟨(gj_vin (by decide)), ?_⟩
  refine ⟨fun c1 => ?_, fun c1 => ?_⟩
  · refine gj_goq gj_clT ok_199 [18] ?_
    show QV Q none SI SJ
    exact ⟨rfl, (h.1 c1)⟩
  · have k2 := (h.2 c1).1
    refine ⟨k2, ?_⟩
    have k3 := (h.2 c1).2.1
    refine ⟨k3, ?_⟩
    have k4 := (h.2 c1).2.2.1
    refine ⟨k4, ?_⟩
    have k5 := (h.2 c1).2.2.2.1
    refine ⟨k5, ?_⟩
    exact (h.2 c1).2.2.2.2
set_option maxRecDepth 20000 in
/-- GraspJudgeModel.take -/
theorem st_200 {E : gj_E} {Q : Int32 → gj_I → gj_J → Prop} (a1 : Int32) (SI : gj_I) (SJ : gj_J) (h : DoI E 181 [(.ref 81), (.int a1)] SI SJ (fun r1 SI2 SJ2 => (¬ r1 = 0 → DoV E 199 [(.ref 81), (.int a1)] SI2 SJ2 (fun SI4 SJ4 => DoI E 196 [(.ref 81), (.int (i3 1)), (.int (SI4 82 17))] SI4 SJ4 (fun r5 SI6 SJ6 => Q r5 SI6 SJ6))) ∧ (r1 = 0 → Q (i3 (-1)) SI2 SJ2))) : DoI E 200 [(.ref 81), (.int a1)] SI SJ Q := by
  refine gj_start (M := mt_200) ok_200 (Nat.le_of_ble_eq_true rfl) ?_
  refine gj_goq gj_clT ok_200 [5, 15, 27] ?_
  show gj_Do E om0 (gj_mt 181) [(.ref 81), (.int a1)] SI SJ _
  refine gj_Do.mono h (fun v_ SI2 SJ2 h_ => ?_)
  obtain ⟨r1, rfl, q1⟩ := h_
  show gj_Goes E om0 mt_200 5 [some (.ref 81), some (.int a1)] [(.int r1)] SI2 SJ2 (QI Q)
  refine gj_goq gj_clT ok_200 [5, 15, 27] ?_
  show (¬ r1 = 0 → gj_Goes E om0 mt_200 10 [some (.ref 81), some (.int a1)] [] SI2 SJ2 (QI Q)) ∧ (r1 = 0 → QI Q (some (.int (i3 (-1)))) SI2 SJ2)
  refine ⟨fun c2 => ?_, fun c2 => ?_⟩
  · refine gj_goq gj_clT ok_200 [5, 15, 27] ?_
    show gj_Do E om0 (gj_mt 199) [(.ref 81), (.int a1)] SI2 SJ2 _
    refine gj_Do.mono (q1.1 c2) (fun v_ SI4 SJ4 h_ => ?_)
    obtain ⟨rfl, q3⟩ := h_
    show gj_Goes E om0 mt_200 15 [some (.ref 81), some (.int a1)] [] SI4 SJ4 (QI Q)
    refine gj_goq gj_clT ok_200 [5, 15, 27] ?_
    show vp_in (i3 17) 135 ∧ (gj_Do E om0 (gj_mt 196) [(.ref 81), (.int (i3 1)), (.int (SI4 82 17))] SI4 SJ4 _)
    refine ⟨(gj_vin (by decide)), ?_⟩
    refine gj_Do.mono q3 (fun v_ SI6 SJ6 h_ => ?_)
    obtain ⟨r5, rfl, q4⟩ := h_
    show gj_Goes E om0 mt_200 27 [some (.ref 81), some (.int a1)] [(.int r5)] SI6 SJ6 (QI Q)
    refine gj_goq gj_clT ok_200 [5, 15, 27] ?_
    show QI Q (some (.int r5)) SI6 SJ6
    exact ⟨_, rfl, q4⟩
  · exact ⟨_, rfl, (q1.2 c2)⟩
